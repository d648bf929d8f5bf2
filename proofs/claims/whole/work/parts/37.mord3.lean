/-! THE REFERENCE: order -/
def dnB (B : BD) (s : Nat) (r : Nat → Nat) : Nat := stepsN (downB B) (lay B s r)
def smB (B : BD) (s : Nat) (r : Nat → Nat) : Nat := stepsN (alkB B) (lay B s r)
def cleB (B : BD) (s : Nat) (c p : Nat → Nat) : Prop := dnB B s c < dnB B s p ∨ (dnB B s c = dnB B s p ∧ (smB B s c < smB B s p ∨ (smB B s c = smB B s p ∧ (sameR (ouT B s (bN B)).length c p ∨ lexL (ouT B s (bN B)).length c p))))
/-- the first of the cheapest rows -/
def IsOrd (B : BD) (s : Nat) (c : Nat → Nat) : Prop := PermF (ouT B s (bN B)).length c ∧ ∀ p, PermF (ouT B s (bN B)).length p → cleB B s c p
def mordV (B : BD) (x : Int32) (c : Nat → Nat) : Int32 := if ordB B x then nI (dnB B x.toNatClampNeg c) else -1
def mordS (S : AS) (x : Int32) (c : Nat → Nat) : AS := if ordB S.1 x then (S.1, S.2.1, S.2.2.1, ((lay S.1 x.toNatClampNeg c).length, smB S.1 x.toNatClampNeg c, fun i => (lay S.1 x.toNatClampNeg c).getD i 0)) else S
theorem lowQ_first {B : BD} {s q : Nat} (hq : q < bN B) : lowQ (wholeB B q &&& s) q = (s.testBit q && allb (fun r => !(s.testBit r && mateB B q r)) q) := by
  unfold lowQ
  rw [Nat.testBit_and, wholeB_self, Bool.true_and]
  congr 1
  rw [Bool.eq_iff_iff, allb_iff, allb_iff]
  have e : ∀ r, r < q → (wholeB B q &&& s).testBit r = (s.testBit r && mateB B q r) := by
    intro r hr
    rw [Nat.testBit_and, wholeB_tb, decide_eq_false (by omega), decide_eq_true (by omega), Bool.false_or, Bool.true_and, Bool.and_comm]
  constructor <;> intro h r hr
  · rw [← e r hr]; exact h r hr
  · show (!(wholeB B q &&& s).testBit r) = true
    rw [e r hr]; exact h r hr
section MO
variable {E : En} {d : Nat} {mem : Mem} {Q : Int32 → Mem → Prop} {B : BD}
abbrev moX (E : En) (d : Nat) (Q : Int32 → Mem → Prop) : Xt := xm E (d + 2) mX9_order Q
/-- the first questions of the units -/
theorem mo_split {s : Nat} (hW : WFB B) (hs : s < 2 ^ 24) (K : ∀ m o4 o5, Fr [55] mem m → Um (ouT B s (bN B)) m → Wp E (moX E d Q) mX9_order 99 [some (pR 36 0), some (pI (nI s)), some (pI (nI (ouT B s (bN B)).length)), some (pI (nI (bN B))), o4, o5, none, none] [] m) : ∀ (k q : Nat) (m : Mem) (o4 o5 : Option PV), bN B - q < k → q ≤ bN B → Bm B m → Fr [55] mem m → Um (ouT B s q) m → Wp E (moX E d Q) mX9_order 14 [some (pR 36 0), some (pI (nI s)), some (pI (nI (ouT B s q).length)), some (pI (nI q)), o4, o5, none, none] [] m := by
  have h24 := hW.1
  intro k
  induction k with
  | zero => intro q _ _ _ h; omega
  | succ k ih =>
    intro q m o4 o5 h1 h2 hB hF hU
    have hlen := ouT_len B s q
    refine r_iload_3 (q := 15) dX9_order_14 rfl ?_
    refine r_aload_0 (q := 16) dX9_order_15 rfl ?_
    refine r_getI (k := 0) (q := 19) f_RX9_83_8 rfl rfl dX9_order_16 rfl ?_
    rw [hB.1]
    refine r_icmp_ge (q := 22) 99 dX9_order_19 (by decide) rfl (fun h19 => ?_) (fun h19 => ?_)
    · have hq := nI_ge_of (by omega) (by omega) h19
      have hq : q = bN B := by omega
      subst hq
      exact K m o4 o5 hF hU
    · have hq : q < bN B := nI_lt_of (by omega) h19
      refine r_iload_1 (q := 23) dX9_order_22 rfl ?_
      refine r_iload_3 (q := 24) dX9_order_23 rfl ?_
      refine r_callS2i (M' := mX9_has) (q := 27) mk_X9_has ms_X9_has k_746 rfl (Nat.le_of_ble_eq_true rfl) rm_xm dX9_order_24 rfl (mhas_ok (pw24 hs) (by omega) ?_)
      refine r_istore_4 (q := 29) (by decide) dX9_order_27 rfl ?_
      refine r_iconst (q := 30) 0 (by decide) dX9_order_29 rfl ?_
      refine r_istore_5 (q := 32) (by decide) dX9_order_30 rfl ?_
      have eL := lowQ_first (B := B) (s := s) hq
      suffices H : ∀ (j r : Nat) (b : Bool), q - r < j → r ≤ q → b = (s.testBit q && allb (fun r => !(s.testBit r && mateB B q r)) r) → Wp E (moX E d Q) mX9_order 32 [some (pR 36 0), some (pI (nI s)), some (pI (nI (ouT B s q).length)), some (pI (nI q)), some (pI (b2 b)), some (pI (nI r)), none, none] [] m from H (q + 1) 0 _ (by omega) (by omega) (by rw [allb, Bool.and_true])
      intro j
      induction j with
      | zero => intro r b h; omega
      | succ j jh =>
        intro r b g1 g2 hb
        refine r_iload_5 (q := 34) dX9_order_32 rfl ?_
        refine r_iload_3 (q := 35) dX9_order_34 rfl ?_
        refine r_icmp_ge (q := 38) 75 dX9_order_35 (by decide) rfl (fun h35 => ?_) (fun h35 => ?_)
        · have hr := nI_ge_of (by omega) (by omega) h35
          have hr : r = q := by omega
          subst hr
          rw [← eL] at hb
          refine r_iload_4 (q := 77) dX9_order_75 rfl ?_
          refine r_if_ne (q := 80) 83 dX9_order_77 (by decide) rfl (fun h77 => ?_) (fun h77 => ?_)
          · have h77 := b2_ne0.mp h77
            have e : ouT B s (r + 1) = ouT B s r ++ [(wholeB B r &&& s, r)] := by rw [ouT, ← hb, h77]; rfl
            have el : (ouT B s r).length + 1 = (ouT B s (r + 1)).length := by rw [e, List.length_append]; rfl
            refine r_aload_0 (q := 84) dX9_order_83 rfl ?_
            refine r_getR (k := 26) (q := 87) f_RX9_71_8 rfl rfl dX9_order_84 rfl ?_
            refine r_iload_2 (q := 88) dX9_order_87 rfl ?_
            refine r_iload_3 (q := 89) dX9_order_88 rfl ?_
            refine r_iast (q := 90) _ rfl rfl (by first | omega | assumption | decide) dX9_order_89 rfl ?_
            refine r_iinc_2 (q := 93) _ (nI_inc _) (by decide) dX9_order_90 rfl ?_
            rw [el]
            refine r_iinc_3 (q := 96) _ (nI_inc _) (by decide) dX9_order_93 rfl ?_
            refine r_goto 14 dX9_order_96 (by decide) ?_
            refine ih (r + 1) _ _ _ (by omega) (by omega) (hB.fr (Fr.rf.mset (gs := [55]) (by simp)) (by simp)) (hF.mset (by simp)) (fun u hu => ?_)
            rw [mset_self]
            unfold upd
            rw [e]
            by_cases z : u = (ouT B s r).length
            · rw [if_pos z, z, List.getD_eq_getElem?_getD, List.getElem?_append_right (Nat.le_refl _), Nat.sub_self]
              rfl
            · rw [if_neg z, List.getD_eq_getElem?_getD, List.getElem?_append_left (by omega), ← List.getD_eq_getElem?_getD]
              exact hU u (by omega)
          · have h77 := b2_eq0.mp h77
            have e : ouT B s (r + 1) = ouT B s r := by rw [ouT, ← hb, h77]; rfl
            rw [← e] at hU ⊢
            refine r_goto 93 dX9_order_80 (by decide) ?_
            refine r_iinc_3 (q := 96) _ (nI_inc _) (by decide) dX9_order_93 rfl ?_
            refine r_goto 14 dX9_order_96 (by decide) ?_
            exact ih (r + 1) m _ _ (by omega) (by omega) hB hF hU
        · have hr : r < q := nI_lt_of (by omega) h35
          have J : ∀ c : Bool, c = (s.testBit q && allb (fun r => !(s.testBit r && mateB B q r)) (r + 1)) → Wp E (moX E d Q) mX9_order 67 [some (pR 36 0), some (pI (nI s)), some (pI (nI (ouT B s q).length)), some (pI (nI q)), some (pI (b2 b)), some (pI (nI r)), none, none] [pI (b2 c)] m := by
            intro c hc
            refine r_istore_4 (q := 69) (by decide) dX9_order_67 rfl ?_
            refine r_iinc_5 (q := 72) _ (nI_inc _) (by decide) dX9_order_69 rfl ?_
            refine r_goto 32 dX9_order_72 (by decide) ?_
            exact jh (r + 1) c (by omega) (by omega) hc
          have ea : allb (fun r => !(s.testBit r && mateB B q r)) (r + 1) = (allb (fun r => !(s.testBit r && mateB B q r)) r && !(s.testBit r && mateB B q r)) := rfl
          refine r_iload_4 (q := 40) dX9_order_38 rfl ?_
          refine r_if_eq (q := 43) 66 dX9_order_40 (by decide) rfl (fun h40 => ?_) (fun h40 => ?_)
          · refine r_iconst (q := 67) 0 (by decide) dX9_order_66 rfl ?_
            exact J false (by rw [ea, ← Bool.and_assoc, ← hb, b2_eq0.mp h40]; rfl)
          · have h40 := b2_ne0.mp h40
            refine r_iload_1 (q := 44) dX9_order_43 rfl ?_
            refine r_iload_5 (q := 46) dX9_order_44 rfl ?_
            refine r_callS2i (M' := mX9_has) (q := 49) mk_X9_has ms_X9_has k_746 rfl (Nat.le_of_ble_eq_true rfl) rm_xm dX9_order_46 rfl (mhas_ok (pw24 hs) (by omega) ?_)
            refine r_if_eq (q := 52) 62 dX9_order_49 (by decide) rfl (fun h49 => ?_) (fun h49 => ?_)
            · refine r_iconst (q := 63) 1 (by decide) dX9_order_62 rfl ?_
              refine r_goto 67 dX9_order_63 (by decide) ?_
              exact J true (by rw [ea, ← Bool.and_assoc, ← hb, h40, b2_eq0.mp h49]; rfl)
            · refine r_aload_0 (q := 53) dX9_order_52 rfl ?_
              refine r_iload_3 (q := 54) dX9_order_53 rfl ?_
              refine r_iload_5 (q := 56) dX9_order_54 rfl ?_
              refine r_callV2i (M' := mX9_areOnePassage) (q := 59) mk_X9_areOnePassage mi_X9_areOnePassage k_820 rfl rfl rfl rfl (Nat.le_of_ble_eq_true rfl) rm_xm dX9_order_56 rfl (mone_ok hB (by omega) (by omega) ?_)
              refine r_if_ne (q := 62) 66 dX9_order_59 (by decide) rfl (fun h59 => ?_) (fun h59 => ?_)
              · refine r_iconst (q := 67) 0 (by decide) dX9_order_66 rfl ?_
                exact J false (by rw [ea, ← Bool.and_assoc, ← hb, h40, b2_ne0.mp h49, b2_ne0.mp h59]; rfl)
              · refine r_iconst (q := 63) 1 (by decide) dX9_order_62 rfl ?_
                refine r_goto 67 dX9_order_63 (by decide) ?_
                exact J true (by rw [ea, ← Bool.and_assoc, ← hb, h40, b2_ne0.mp h49, b2_eq0.mp h59]; rfl)
/-- steps down and alike, counted -/
theorem mo_cnt {s n : Nat} {l : List Nat} {o2 o3 o4 : Option PV} (hB : Bm B mem) (hl : l.length ≤ 24) (hlt : ∀ x, x ∈ l → x < 24) (ho : mem 36 0 24 = nI l.length) (hLy : Lay l mem) (K : ∀ i, Wp E (moX E d Q) mX9_order 260 [some (pR 36 0), some (pI (nI s)), o2, o3, o4, some (pI (nI (stepsN (downB B) l))), some (pI (nI (stepsN (alkB B) l))), some (pI (nI i))] [] mem) : ∀ (k i : Nat), l.length - i < k → i + 1 ≤ max 1 l.length → Wp E (moX E d Q) mX9_order 167 [some (pR 36 0), some (pI (nI s)), o2, o3, o4, some (pI (nI (sumf (fun i => bn (downB B (l.getD i 0) (l.getD (i + 1) 0))) i))), some (pI (nI (sumf (fun i => bn (alkB B (l.getD i 0) (l.getD (i + 1) 0))) i))), some (pI (nI (i + 1)))] [] mem := by
  intro k
  induction k with
  | zero => intro q h; omega
  | succ k ih =>
    intro i h1 h2
    refine r_iload_7 (q := 169) dX9_order_167 rfl ?_
    refine r_aload_0 (q := 170) dX9_order_169 rfl ?_
    refine r_getI (k := 24) (q := 173) f_RX9_164_8 rfl rfl dX9_order_170 rfl ?_
    rw [ho]
    refine r_icmp_ge (q := 176) 260 dX9_order_173 (by decide) rfl (fun h173 => ?_) (fun h173 => ?_)
    · have hi := nI_ge_of (by omega) (by omega) h173
      have hi : i = l.length - 1 := by omega
      rw [hi]
      exact K _
    · have hi : i + 1 < l.length := nI_lt_of (by omega) h173
      have ha := hlt _ (getD_mem (l := l) (i := i) (by omega))
      have hb := hlt _ (getD_mem (l := l) (i := i + 1) hi)
      have J2 : ∀ (x v : Nat), v = bn (alkB B (l.getD i 0) (l.getD (i + 1) 0)) → Wp E (moX E d Q) mX9_order 251 [some (pR 36 0), some (pI (nI s)), o2, o3, o4, some (pI (nI (sumf (fun i => bn (downB B (l.getD i 0) (l.getD (i + 1) 0))) (i + 1)))), some (pI (nI (sumf (fun i => bn (alkB B (l.getD i 0) (l.getD (i + 1) 0))) i))), some (pI (nI (i + 1)))] [pI (nI v), pI (nI (sumf (fun i => bn (alkB B (l.getD i 0) (l.getD (i + 1) 0))) i))] mem := by
        intro x v hv
        refine r_iadd (q := 252) dX9_order_251 rfl ?_
        rw [nI_add, hv]
        refine r_istore_6 (q := 254) (by decide) dX9_order_252 rfl ?_
        refine r_iinc_7 (q := 257) _ (nI_inc _) (by decide) dX9_order_254 rfl ?_
        refine r_goto 167 dX9_order_257 (by decide) ?_
        exact ih (i + 1) (by omega) (by omega)
      have J1 : ∀ (v : Nat), v = bn (downB B (l.getD i 0) (l.getD (i + 1) 0)) → Wp E (moX E d Q) mX9_order 212 [some (pR 36 0), some (pI (nI s)), o2, o3, o4, some (pI (nI (sumf (fun i => bn (downB B (l.getD i 0) (l.getD (i + 1) 0))) i))), some (pI (nI (sumf (fun i => bn (alkB B (l.getD i 0) (l.getD (i + 1) 0))) i))), some (pI (nI (i + 1)))] [pI (nI v), pI (nI (sumf (fun i => bn (downB B (l.getD i 0) (l.getD (i + 1) 0))) i))] mem := by
        intro v hv
        refine r_iadd (q := 213) dX9_order_212 rfl ?_
        rw [nI_add, hv]
        refine r_istore_5 (q := 215) (by decide) dX9_order_213 rfl ?_
        refine r_iload_6 (q := 217) dX9_order_215 rfl ?_
        refine r_aload_0 (q := 218) dX9_order_217 rfl ?_
        refine r_getR (k := 3) (q := 221) f_RX9_13_8 rfl rfl dX9_order_218 rfl ?_
        refine r_aload_0 (q := 222) dX9_order_221 rfl ?_
        refine r_getR (k := 29) (q := 225) f_RX9_80_8 rfl rfl dX9_order_222 rfl ?_
        refine r_iload_7 (q := 227) dX9_order_225 rfl ?_
        refine r_iald (q := 228) _ rfl rfl (by first | omega | assumption | decide) dX9_order_227 rfl ?_
        rw [hLy (i + 1) hi]
        refine r_iald (q := 229) _ rfl rfl (by first | omega | assumption | decide) dX9_order_228 rfl ?_
        rw [(hB.2.2.2.1 _).1]
        refine r_aload_0 (q := 230) dX9_order_229 rfl ?_
        refine r_getR (k := 3) (q := 233) f_RX9_13_8 rfl rfl dX9_order_230 rfl ?_
        refine r_aload_0 (q := 234) dX9_order_233 rfl ?_
        refine r_getR (k := 29) (q := 237) f_RX9_80_8 rfl rfl dX9_order_234 rfl ?_
        refine r_iload_7 (q := 239) dX9_order_237 rfl ?_
        refine r_iconst (q := 240) 1 (by decide) dX9_order_239 rfl ?_
        refine r_isub (q := 241) dX9_order_240 rfl ?_
        rw [nI_pred]
        refine r_iald (q := 242) _ rfl rfl (by first | omega | assumption | decide) dX9_order_241 rfl ?_
        rw [hLy i (by omega)]
        refine r_iald (q := 243) _ rfl rfl (by first | omega | assumption | decide) dX9_order_242 rfl ?_
        rw [(hB.2.2.2.1 _).1]
        refine r_icmp_ne (q := 246) 250 dX9_order_243 (by decide) rfl (fun h243 => ?_) (fun h243 => ?_)
        · refine r_iconst (q := 251) 0 (by decide) dX9_order_250 rfl ?_
          exact J2 0 0 (by unfold alkB; rw [decide_eq_false h243]; rfl)
        · refine r_iconst (q := 247) 1 (by decide) dX9_order_246 rfl ?_
          refine r_goto 251 dX9_order_247 (by decide) ?_
          exact J2 0 1 (by unfold alkB; rw [decide_eq_true h243]; rfl)
      refine r_iload_5 (q := 178) dX9_order_176 rfl ?_
      refine r_aload_0 (q := 179) dX9_order_178 rfl ?_
      refine r_getR (k := 7) (q := 182) f_RX9_26_8 rfl rfl dX9_order_179 rfl ?_
      refine r_aload_0 (q := 183) dX9_order_182 rfl ?_
      refine r_getR (k := 29) (q := 186) f_RX9_80_8 rfl rfl dX9_order_183 rfl ?_
      refine r_iload_7 (q := 188) dX9_order_186 rfl ?_
      refine r_iald (q := 189) _ rfl rfl (by first | omega | assumption | decide) dX9_order_188 rfl ?_
      rw [hLy (i + 1) hi]
      refine r_iald (q := 190) _ rfl rfl (by first | omega | assumption | decide) dX9_order_189 rfl ?_
      rw [(hB.2.2.2.1 _).2.2.2.2.1]
      refine r_aload_0 (q := 191) dX9_order_190 rfl ?_
      refine r_getR (k := 7) (q := 194) f_RX9_26_8 rfl rfl dX9_order_191 rfl ?_
      refine r_aload_0 (q := 195) dX9_order_194 rfl ?_
      refine r_getR (k := 29) (q := 198) f_RX9_80_8 rfl rfl dX9_order_195 rfl ?_
      refine r_iload_7 (q := 200) dX9_order_198 rfl ?_
      refine r_iconst (q := 201) 1 (by decide) dX9_order_200 rfl ?_
      refine r_isub (q := 202) dX9_order_201 rfl ?_
      rw [nI_pred]
      refine r_iald (q := 203) _ rfl rfl (by first | omega | assumption | decide) dX9_order_202 rfl ?_
      rw [hLy i (by omega)]
      refine r_iald (q := 204) _ rfl rfl (by first | omega | assumption | decide) dX9_order_203 rfl ?_
      rw [(hB.2.2.2.1 _).2.2.2.2.1]
      refine r_icmp_ge (q := 207) 211 dX9_order_204 (by decide) rfl (fun h204 => ?_) (fun h204 => ?_)
      · refine r_iconst (q := 212) 0 (by decide) dX9_order_211 rfl ?_
        exact J1 0 (by unfold downB; rw [show decide (¬ bF B (l.getD i 0) 4 ≤ bF B (l.getD (i + 1) 0) 4) = false from decide_eq_false (fun z => z h204)]; rfl)
      · refine r_iconst (q := 208) 1 (by decide) dX9_order_207 rfl ?_
        refine r_goto 212 dX9_order_208 (by decide) ?_
        exact J1 1 (by unfold downB; rw [show decide (¬ bF B (l.getD i 0) 4 ≤ bF B (l.getD (i + 1) 0) 4) = true from decide_eq_true h204]; rfl)
/-- the row is put down -/
theorem mo_put {s : Nat} {l : List Nat} {o2 o3 o4 o5 o6 : Option PV} (hl : l.length ≤ 24) (K : ∀ m o7, Fr [57] mem m → (∀ i, i < l.length → m 57 0 i = nI (l.getD i 0)) → Wp E (moX E d Q) mX9_order 327 [some (pR 36 0), some (pI (nI s)), o2, o3, o4, o5, o6, o7] [] m) (ho : mem 36 0 24 = nI l.length) (hLy : Lay l mem) : ∀ (k i : Nat) (m : Mem), l.length - i < k → i ≤ l.length → Fr [57] mem m → (∀ j, j < i → m 57 0 j = nI (l.getD j 0)) → Wp E (moX E d Q) mX9_order 298 [some (pR 36 0), some (pI (nI s)), o2, o3, o4, o5, o6, some (pI (nI i))] [] m := by
  intro k
  induction k with
  | zero => intro q _ h; omega
  | succ k ih =>
    intro i m h1 h2 hF hP
    refine r_iload_7 (q := 300) dX9_order_298 rfl ?_
    refine r_aload_0 (q := 301) dX9_order_300 rfl ?_
    refine r_getI (k := 24) (q := 304) f_RX9_164_8 rfl rfl dX9_order_301 rfl ?_
    rw [show m 36 0 24 = nI l.length by rw [hF 36 (by decide)]; exact ho]
    refine r_icmp_ge (q := 307) 327 dX9_order_304 (by decide) rfl (fun h304 => ?_) (fun h304 => ?_)
    · have hi := nI_ge_of (by omega) (by omega) h304
      have hi : i = l.length := by omega
      subst hi
      exact K m _ hF hP
    · have hi : i < l.length := nI_lt_of (by omega) h304
      refine r_aload_0 (q := 308) dX9_order_307 rfl ?_
      refine r_getR (k := 28) (q := 311) f_RX9_77_8 rfl rfl dX9_order_308 rfl ?_
      refine r_iload_7 (q := 313) dX9_order_311 rfl ?_
      refine r_aload_0 (q := 314) dX9_order_313 rfl ?_
      refine r_getR (k := 29) (q := 317) f_RX9_80_8 rfl rfl dX9_order_314 rfl ?_
      refine r_iload_7 (q := 319) dX9_order_317 rfl ?_
      refine r_iald (q := 320) _ rfl rfl (by first | omega | assumption | decide) dX9_order_319 rfl ?_
      rw [show m 58 0 i = nI (l.getD i 0) by rw [hF 58 (by decide)]; exact hLy i hi]
      refine r_iast (q := 321) _ rfl rfl (by first | omega | assumption | decide) dX9_order_320 rfl ?_
      refine r_iinc_7 (q := 324) _ (nI_inc _) (by decide) dX9_order_321 rfl ?_
      refine r_goto 298 dX9_order_324 (by decide) ?_
      refine ih (i + 1) _ (by omega) (by omega) (hF.mset (by simp)) (fun j hj => ?_)
      rw [mset_self]
      unfold upd
      by_cases e : j = i
      · rw [if_pos e, e]
      · rw [if_neg e]; exact hP j (by omega)
/-- what all passes of the loop leave alone -/
def FrR (mem m : Mem) : Prop := Fr [36, 56, 57, 58] mem m ∧ ∀ i, ¬ i = 25 → m 36 0 i = mem 36 0 i
theorem FrR.rf {mem : Mem} : FrR mem mem := ⟨Fr.rf, fun _ _ => rfl⟩
theorem FrR.fr {a b c : Mem} {gs : List Nat} (h : FrR a b) (hF : Fr gs b c) (hg : ∀ g, g ∈ gs → g ∈ [56, 57, 58]) : FrR a c := by
  refine ⟨h.1.tr (hF.mono (fun g hg' => ?_)), fun i hi => ?_⟩
  · have := hg g hg'; simp at this ⊢; omega
  · rw [hF 36 (fun z => absurd (hg 36 z) (by decide))]; exact h.2 i hi
theorem FrR.al {a b : Mem} {v : Int32} (h : FrR a b) : FrR a (mset b 36 0 25 v) := by
  refine ⟨h.1.mset (by simp), fun i hi => ?_⟩
  rw [mset_self]
  unfold upd
  rw [if_neg hi]
  exact h.2 i hi
theorem FrR.bm {a b : Mem} (h : FrR a b) (hB : Bm B a) : Bm B b := by
  unfold Bm
  rw [h.2 0 (by decide), h.2 1 (by decide), h.2 2 (by decide), h.1 37 (by decide), h.1 38 (by decide), h.1 39 (by decide), h.1 40 (by decide), h.1 41 (by decide), h.1 42 (by decide), h.1 43 (by decide), h.1 44 (by decide)]
  exact hB
/-- the best row so far, of those that P holds of -/
def Bst (B : BD) (s : Nat) (P : (Nat → Nat) → Prop) (best : Int32) (m : Mem) : Prop := ∃ c, PermF (ouT B s (bN B)).length c ∧ P c ∧ best = nI (dnB B s c) ∧ m 36 0 25 = nI (smB B s c) ∧ (∀ i, i < (lay B s c).length → m 57 0 i = nI ((lay B s c).getD i 0)) ∧ ∀ p, PermF (ouT B s (bN B)).length p → P p → cleB B s c p
theorem Bst.mono {s : Nat} {P P' : (Nat → Nat) → Prop} {best : Int32} {m : Mem} (h : Bst B s P best m) (h1 : ∀ p, P p → P' p) (h2 : ∀ p, PermF (ouT B s (bN B)).length p → P' p → P p) : Bst B s P' best m := by
  obtain ⟨c, a1, a2, a3, a4, a5, a6⟩ := h
  exact ⟨c, a1, h1 c a2, a3, a4, a5, fun p hp hP => a6 p hp (h2 p hp hP)⟩
theorem Bst.fr {s : Nat} {P : (Nat → Nat) → Prop} {best : Int32} {a b : Mem} {gs : List Nat} (h : Bst B s P best a) (hF : Fr gs a b) (h1 : 36 ∉ gs) (h2 : 57 ∉ gs) : Bst B s P best b := by
  unfold Bst
  rw [hF 36 h1, hF 57 h2]
  exact h
theorem mo_loop {s : Nat} (hW : WFB B) (hs : s < 2 ^ bN B) (hl : (ouT B s (bN B)).length ≤ 8) (hB : Bm B mem) (hu : mem 36 0 23 = nI (ouT B s (bN B)).length) (hU : Um (ouT B s (bN B)) mem) (ho : mem 36 0 24 = nI (popN s)) (hQ : ∀ m v, FrR mem m → Bst B s (fun _ => True) v m → Q v m) {o2 : Option PV} : ∀ (k : Nat) (r : Nat → Nat) (m : Mem) (best : Int32) (o5 o6 o7 : Option PV), 8 ^ (ouT B s (bN B)).length - rkT r (ouT B s (bN B)).length < k → FrR mem m → PermF (ouT B s (bN B)).length r → Rw (ouT B s (bN B)).length r m → ((best = -1 ∧ ∀ p, PermF (ouT B s (bN B)).length p → ¬ lexL (ouT B s (bN B)).length p r) ∨ Bst B s (fun p => lexL (ouT B s (bN B)).length p r) best m) → Wp E (moX E d Q) mX9_order 148 [some (pR 36 0), some (pI (nI s)), o2, some (pI best), some (pI 1), o5, o6, o7] [] m := by
  have h24 := hW.1
  intro k
  induction k with
  | zero => intro q _ _ _ _ _ h; omega
  | succ k ih =>
    intro r m best o5 o6 o7 hk hF hr hR hbst
    have hBm : Bm B m := hF.bm hB
    have hl24 : (lay B s r).length = popN s := lay_len hs hr
    have hp24 := popN_le s
    refine r_iload_4 (q := 150) dX9_order_148 rfl ?_
    refine r_if_eq (q := 153) 336 dX9_order_150 (by decide) rfl (fun h150 => ?_) (fun h150 => ?_)
    · exact absurd h150 (by decide)
    · refine r_aload_0 (q := 154) dX9_order_153 rfl ?_
      refine r_iload_1 (q := 155) dX9_order_154 rfl ?_
      refine r_callV1v (M' := mX9_lays) (q := 158) mk_X9_lays mi_X9_lays k_862 rfl rfl rfl rfl (Nat.le_of_ble_eq_true rfl) rm_xm dX9_order_155 rfl (mlays_ok hBm hW hs hl (by rw [hF.2 23 (by decide)]; exact hu) (by unfold Um; rw [hF.1 55 (by decide)]; exact hU) hr hR (fun m1 hF1 hLy => ?_))
      refine r_iconst (q := 159) 0 (by decide) dX9_order_158 rfl ?_
      refine r_istore_5 (q := 161) (by decide) dX9_order_159 rfl ?_
      refine r_iconst (q := 162) 0 (by decide) dX9_order_161 rfl ?_
      refine r_istore_6 (q := 164) (by decide) dX9_order_162 rfl ?_
      refine r_iconst (q := 165) 1 (by decide) dX9_order_164 rfl ?_
      refine r_istore_7 (q := 167) (by decide) dX9_order_165 rfl ?_
      have hFR1 : FrR mem m1 := hF.fr hF1 (by simp)
      have hR1 : Rw (ouT B s (bN B)).length r m1 := by unfold Rw; rw [hF1 56 (by decide)]; exact hR
      have hbst1 : (best = -1 ∧ ∀ p, PermF (ouT B s (bN B)).length p → ¬ lexL (ouT B s (bN B)).length p r) ∨ Bst B s (fun p => lexL (ouT B s (bN B)).length p r) best m1 := by
        rcases hbst with z | z
        · exact Or.inl z
        · exact Or.inr (z.fr hF1 (by simp) (by simp))
      have ho1 : m1 36 0 24 = nI (lay B s r).length := by rw [hl24, hFR1.2 24 (by decide)]; exact ho
      refine mo_cnt (n := 0) (l := lay B s r) (hFR1.bm hB) (by omega) (fun x hx => ordL_lt hx) ho1 hLy (fun i7 => ?_) ((lay B s r).length + 1) 0 (by omega) (by omega)
      have d1 := stepsN_le (downB B) (lay B s r)
      have d2 := stepsN_le (alkB B) (lay B s r)
      -- behind the comparison: the best of all rows up to this one
      have J : ∀ (m2 : Mem) (b2' : Int32) (o7 : Option PV), FrR mem m2 → Rw (ouT B s (bN B)).length r m2 → Bst B s (fun p => lexL (ouT B s (bN B)).length p r ∨ sameR (ouT B s (bN B)).length p r) b2' m2 → Wp E (moX E d Q) mX9_order 327 [some (pR 36 0), some (pI (nI s)), o2, some (pI b2'), some (pI 1), some (pI (nI (stepsN (downB B) (lay B s r)))), some (pI (nI (stepsN (alkB B) (lay B s r)))), o7] [] m2 := by
        intro m2 b2' o7 hF2 hR2 hb2
        refine r_aload_0 (q := 328) dX9_order_327 rfl ?_
        refine r_callV0i (M' := mX9_nextRow) (q := 331) mk_X9_nextRow mi_X9_nextRow k_866 rfl rfl rfl rfl (Nat.le_of_ble_eq_true rfl) rm_xm dX9_order_328 rfl (mnext_ok hl hr (by rw [hF2.2 23 (by decide)]; exact hu) hR2 (fun hno => ?_) (fun m3 r' hF3 hr' hR3 hlt hbt => ?_))
        · refine r_istore_4 (q := 333) (by decide) dX9_order_331 rfl ?_
          refine r_goto 148 dX9_order_333 (by decide) ?_
          refine r_iload_4 (q := 150) dX9_order_148 rfl ?_
          refine r_if_eq (q := 153) 336 dX9_order_150 (by decide) rfl (fun h150b => ?_) (fun h150b => ?_)
          · refine r_iload_3 (q := 337) dX9_order_336 rfl ?_
            refine r_iret rfl dX9_order_337 (?_)
            refine hQ m2 b2' hF2 (hb2.mono (fun _ _ => trivial) (fun p hp _ => ?_))
            rcases lex_tri (m := (ouT B s (bN B)).length) p r with z | z | z
            · exact Or.inr z
            · exact Or.inl z
            · exact absurd z (hno p hp)
          · exact absurd rfl h150b
        · refine r_istore_4 (q := 333) (by decide) dX9_order_331 rfl ?_
          refine r_goto 148 dX9_order_333 (by decide) ?_
          have hrk : rkT r (ouT B s (bN B)).length < rkT r' (ouT B s (bN B)).length := by
            obtain ⟨x, x1, x2, x3⟩ := hlt
            exact rkT_lex x2 x3 _ x1 (fun i hi => by have := hr.1 i hi; omega)
          have hrb : rkT r' (ouT B s (bN B)).length < 8 ^ (ouT B s (bN B)).length := rkT_lt _ (fun i hi => by have := hr'.1 i hi; omega)
          refine ih r' m3 b2' _ _ _ (by omega) (hF2.fr hF3 (by simp)) hr' hR3 (Or.inr ((hb2.fr hF3 (by simp) (by simp)).mono (fun p hp => ?_) (fun p hp hP => ?_)))
          · rcases hp with z | z
            · exact lex_trans z hlt
            · obtain ⟨x, x1, x2, x3⟩ := hlt
              exact ⟨x, x1, fun y hy => (z y (by omega)).trans (x2 y hy), by rw [z x x1]; exact x3⟩
          · rcases lex_tri (m := (ouT B s (bN B)).length) p r with z | z | z
            · exact Or.inr z
            · exact Or.inl z
            · exfalso
              rcases hbt p hp z with w | w
              · obtain ⟨x, x1, x2, x3⟩ := hP
                have := w x x1
                omega
              · exact lex_asym hP w
      have take : (∀ p, PermF (ouT B s (bN B)).length p → lexL (ouT B s (bN B)).length p r → dnB B s r < dnB B s p ∨ (dnB B s r = dnB B s p ∧ smB B s r < smB B s p)) → Wp E (moX E d Q) mX9_order 286 [some (pR 36 0), some (pI (nI s)), o2, some (pI best), some (pI 1), some (pI (nI (stepsN (downB B) (lay B s r)))), some (pI (nI (stepsN (alkB B) (lay B s r)))), some (pI (nI i7))] [] m1 := by
        intro hlt
        refine r_iload_5 (q := 288) dX9_order_286 rfl ?_
        refine r_istore_3 (q := 289) (by decide) dX9_order_288 rfl ?_
        refine r_aload_0 (q := 290) dX9_order_289 rfl ?_
        refine r_iload_6 (q := 292) dX9_order_290 rfl ?_
        refine r_put (k := 25) (q := 295) f_RX9_171_8 pf_8_25 rfl rfl dX9_order_292 rfl ?_
        refine r_iconst (q := 296) 0 (by decide) dX9_order_295 rfl ?_
        refine r_istore_7 (q := 298) (by decide) dX9_order_296 rfl ?_
        have hF2 : FrR mem (mset m1 36 0 25 (nI (stepsN (alkB B) (lay B s r)))) := hFR1.al
        refine mo_put (mem := mset m1 36 0 25 (nI (stepsN (alkB B) (lay B s r)))) (l := lay B s r) (by omega) (fun m3 o7 hF3 hP3 => ?_) ho1 hLy ((lay B s r).length + 1) 0 _ (by omega) (by omega) Fr.rf (fun j hj => by omega)
        refine J m3 _ o7 (hF2.fr hF3 (by simp)) (by unfold Rw; rw [hF3 56 (by decide)]; exact hR1) ⟨r, hr, Or.inr (fun _ _ => rfl), rfl, by rw [hF3 36 (by decide)]; exact mset_at _ _ _ _ _, hP3, fun p hp hP => ?_⟩
        rcases hP with z | z
        · rcases hlt p hp z with w | w
          · exact Or.inl w
          · exact Or.inr ⟨w.1, Or.inl w.2⟩
        · have e := lay_congr (B := B) (s := s) (r := r) (p := p) (fun i hi => (z i hi).symm)
          unfold cleB dnB smB
          rw [e]
          exact Or.inr ⟨rfl, Or.inr ⟨rfl, Or.inl (fun i hi => (z i hi).symm)⟩⟩
      rcases hbst1 with ⟨z1, z2⟩ | hb1
      · subst z1
        refine r_iload_3 (q := 261) dX9_order_260 rfl ?_
        refine r_iconst (q := 262) (-1) (by decide) dX9_order_261 rfl ?_
        refine r_icmp_eq (q := 265) 286 dX9_order_262 (by decide) rfl (fun h262 => ?_) (fun h262 => ?_)
        · exact take (fun p hp hP => absurd hP (z2 p hp))
        · exact absurd rfl h262
      · obtain ⟨c, c1, c2, c3, c4, c5, c6⟩ := hb1
        have hlc : (lay B s c).length = popN s := lay_len hs c1
        have e1 := stepsN_le (downB B) (lay B s c)
        have e2 := stepsN_le (alkB B) (lay B s c)
        have keep : dnB B s c < dnB B s r ∨ (dnB B s c = dnB B s r ∧ smB B s c ≤ smB B s r) → Wp E (moX E d Q) mX9_order 327 [some (pR 36 0), some (pI (nI s)), o2, some (pI best), some (pI 1), some (pI (nI (stepsN (downB B) (lay B s r)))), some (pI (nI (stepsN (alkB B) (lay B s r)))), some (pI (nI i7))] [] m1 := by
          intro hle
          refine J m1 best _ hFR1 hR1 ⟨c, c1, Or.inl c2, c3, c4, c5, fun p hp hP => ?_⟩
          rcases hP with z | z
          · exact c6 p hp z
          · have e := lay_congr (B := B) (s := s) z
            have hd : dnB B s p = dnB B s r := by unfold dnB; rw [e]
            have hsm : smB B s p = smB B s r := by unfold smB; rw [e]
            unfold cleB
            rw [hd, hsm]
            rcases hle with w | ⟨w1, w2⟩
            · exact Or.inl w
            · rcases Nat.lt_or_eq_of_le w2 with v | v
              · exact Or.inr ⟨w1, Or.inl v⟩
              · exact Or.inr ⟨w1, Or.inr ⟨v, Or.inr (lex_same c2 (fun i hi => (z i hi).symm))⟩⟩
        have better : dnB B s r < dnB B s c ∨ (dnB B s r = dnB B s c ∧ smB B s r < smB B s c) → ∀ p, PermF (ouT B s (bN B)).length p → lexL (ouT B s (bN B)).length p r → dnB B s r < dnB B s p ∨ (dnB B s r = dnB B s p ∧ smB B s r < smB B s p) := by
          intro hlt p hp hP
          rcases c6 p hp hP with w | ⟨w1, w | ⟨w2, -⟩⟩ <;> omega
        have hbd : best = nI (stepsN (downB B) (lay B s c)) := c3
        have hbs : m1 36 0 25 = nI (stepsN (alkB B) (lay B s c)) := c4
        have ed : ∀ p, dnB B s p = stepsN (downB B) (lay B s p) := fun _ => rfl
        have es : ∀ p, smB B s p = stepsN (alkB B) (lay B s p) := fun _ => rfl
        rw [ed, ed, es, es] at keep better
        clear c3 c4
        subst hbd
        refine r_iload_3 (q := 261) dX9_order_260 rfl ?_
        refine r_iconst (q := 262) (-1) (by decide) dX9_order_261 rfl ?_
        refine r_icmp_eq (q := 265) 286 dX9_order_262 (by decide) rfl (fun h262 => ?_) (fun h262 => ?_)
        · exfalso
          have h2 := congrArg Int32.toInt h262
          rw [nI_toInt (by omega)] at h2
          have : (-1 : Int32).toInt = -1 := by decide
          omega
        · refine r_iload_5 (q := 267) dX9_order_265 rfl ?_
          refine r_iload_3 (q := 268) dX9_order_267 rfl ?_
          refine r_icmp_lt (q := 271) 286 dX9_order_268 (by decide) rfl (fun h268 => ?_) (fun h268 => ?_)
          · have h268 := (nI_ltI (by omega) (by omega)).mp h268
            exact take (better (Or.inl h268))
          · have h268 : ¬ stepsN (downB B) (lay B s r) < stepsN (downB B) (lay B s c) := fun z => h268 (nI_lt z (by omega))
            refine r_iload_5 (q := 273) dX9_order_271 rfl ?_
            refine r_iload_3 (q := 274) dX9_order_273 rfl ?_
            refine r_icmp_ne (q := 277) 327 dX9_order_274 (by decide) rfl (fun h274 => ?_) (fun h274 => ?_)
            · have h274 : ¬ stepsN (downB B) (lay B s r) = stepsN (downB B) (lay B s c) := fun z => h274 (by rw [z])
              exact keep (Or.inl (by omega))
            · have h274 : stepsN (downB B) (lay B s r) = stepsN (downB B) (lay B s c) := nI_inj (by omega) (by omega) h274
              refine r_iload_6 (q := 279) dX9_order_277 rfl ?_
              refine r_aload_0 (q := 280) dX9_order_279 rfl ?_
              refine r_getI (k := 25) (q := 283) f_RX9_171_8 rfl rfl dX9_order_280 rfl ?_
              rw [hbs]
              refine r_icmp_ge (q := 286) 327 dX9_order_283 (by decide) rfl (fun h283 => ?_) (fun h283 => ?_)
              · have h283 := nI_ge_of (by omega) (by omega) h283
                exact keep (Or.inr ⟨h274.symm, h283⟩)
              · have h283 := nI_lt_of (by omega) h283
                exact take (better (Or.inr ⟨h274, h283⟩))
theorem m_order_ok {S : AS} {x : Int32} (hC : Mk S mem) (hWF : WFS S) (hQ : ∀ (mem' : Mem) (c : Nat → Nat), (ordB S.1 x = true → IsOrd S.1 x.toNatClampNeg c) → Fm mem mem' → Mk (mordS S x c) mem' → Q (mordV S.1 x c) mem') : Call E (d + 2) mX9_order [pR 36 0, pI x] mem Q := by
  refine Call.of [some (pR 36 0), some (pI x), none, none, none, none, none, none] mk_X9_order rfl (Nat.le_of_ble_eq_true rfl) (fun _ => ?_)
  have hB := hC.1
  have hW := hWF.1
  have h24 := hWF.1.1
  refine r_aload_0 (q := 1) dX9_order_0 rfl ?_
  refine r_iload_1 (q := 2) dX9_order_1 rfl ?_
  refine r_callV1i (M' := mX9_isSet) (q := 5) mk_X9_isSet mi_X9_isSet k_769 rfl rfl rfl rfl (Nat.le_of_ble_eq_true rfl) rm_xm dX9_order_2 rfl (isSet_ok hB hWF.1 ?_)
  refine r_if_ne (q := 8) 10 dX9_order_5 (by decide) rfl (fun h5 => ?_) (fun h5 => ?_)
  · have h8 : setB S.1 x = true := b2_ne0.mp h5
    obtain ⟨s, hs, rfl⟩ := setB_ex hWF.1 h8
    have hs24 : s < 2 ^ 24 := Nat.lt_of_lt_of_le hs (pw_le h24)
    have hcl : (nI s).toNatClampNeg = s := nI_clamp (pw24 hs24)
    have hob : ordB S.1 (nI s) = decide ((ouT S.1 s (bN S.1)).length ≤ 8) := by unfold ordB; rw [h8, hcl]; rfl
    refine r_iconst (q := 11) 0 (by decide) dX9_order_10 rfl ?_
    refine r_istore_2 (q := 12) (by decide) dX9_order_11 rfl ?_
    refine r_iconst (q := 13) 0 (by decide) dX9_order_12 rfl ?_
    refine r_istore_3 (q := 14) (by decide) dX9_order_13 rfl ?_
    refine mo_split hW hs24 (fun m1 o4 o5 hF1 hU1 => ?_) (bN S.1 + 1) 0 mem _ _ (by omega) (by omega) hB Fr.rf (fun u hu => absurd hu (Nat.not_lt_zero u))
    have hlen := ouT_len S.1 s (bN S.1)
    have hC1 : Mk S m1 := hC.wk (fun g h1 h2 => hF1 g (by simp; omega)) (hF1 57 (by decide)) (fun i _ _ => by rw [hF1 36 (by decide)])
    refine r_iload_2 (q := 100) dX9_order_99 rfl ?_
    refine r_bipush (q := 102) 8 (by decide) dX9_order_100 rfl ?_
    refine r_icmp_le (q := 105) 107 dX9_order_102 (by decide) rfl (fun h102 => ?_) (fun h102 => ?_)
    · have h102 := nI_ge_of (b := 8) (by omega) (by decide) h102
      have hob : ordB S.1 (nI s) = true := by rw [hob]; exact decide_eq_true h102
      unfold mordS mordV at hQ
      simp only [hob, hcl, ↓reduceIte] at hQ
      refine r_aload_0 (q := 108) dX9_order_107 rfl ?_
      refine r_iload_2 (q := 109) dX9_order_108 rfl ?_
      refine r_put (k := 23) (q := 112) f_RX9_161_8 pf_8_23 rfl rfl dX9_order_109 rfl ?_
      refine r_aload_0 (q := 113) dX9_order_112 rfl ?_
      refine r_iload_1 (q := 114) dX9_order_113 rfl ?_
      refine r_callS1i (M' := mX9_size) (q := 117) mk_X9_size ms_X9_size k_843 rfl (Nat.le_of_ble_eq_true rfl) rm_xm dX9_order_114 rfl (msize_ok hs24 ?_)
      refine r_put (k := 24) (q := 120) f_RX9_164_8 pf_8_24 rfl rfl dX9_order_117 rfl ?_
      refine r_iconst (q := 121) 0 (by decide) dX9_order_120 rfl ?_
      refine r_istore_3 (q := 122) (by decide) dX9_order_121 rfl ?_
      generalize hm2 : mset (mset m1 36 0 23 (nI (ouT S.1 s (bN S.1)).length)) 36 0 24 (nI (popN s)) = m2
      have hF2 : Fr [36] m1 m2 := by rw [← hm2]; exact (Fr.rf.mset (by simp)).mset (by simp)
      have h36 : ∀ i, ¬ i = 23 → ¬ i = 24 → m2 36 0 i = m1 36 0 i := fun i a b => by
        rw [← hm2, mset_self, mset_self]; unfold upd; rw [if_neg b, if_neg a]
      have e23 : m2 36 0 23 = nI (ouT S.1 s (bN S.1)).length := by
        rw [← hm2, mset_self, mset_self]; unfold upd; rw [if_neg (by decide), if_pos rfl]
      have e24 : m2 36 0 24 = nI (popN s) := by rw [← hm2, mset_at]
      clear hm2
      -- the first row
      suffices H : ∀ (k i : Nat) (m : Mem), (ouT S.1 s (bN S.1)).length - i < k → i ≤ (ouT S.1 s (bN S.1)).length → Fr [56] m2 m → (∀ j, j < i → m 56 0 j = nI j) → Wp E (moX E d Q) mX9_order 122 [some (pR 36 0), some (pI (nI s)), some (pI (nI (ouT S.1 s (bN S.1)).length)), some (pI (nI i)), o4, o5, none, none] [] m from H ((ouT S.1 s (bN S.1)).length + 1) 0 m2 (by omega) (by omega) Fr.rf (fun j hj => by omega)
      intro k
      induction k with
      | zero => intro i _ h; omega
      | succ k ih =>
        intro i m h1 h2 hF hrow
        refine r_iload_3 (q := 123) dX9_order_122 rfl ?_
        refine r_aload_0 (q := 124) dX9_order_123 rfl ?_
        refine r_getI (k := 23) (q := 127) f_RX9_161_8 rfl rfl dX9_order_124 rfl ?_
        rw [show m 36 0 23 = nI (ouT S.1 s (bN S.1)).length by rw [hF 36 (by decide)]; exact e23]
        refine r_icmp_ge (q := 130) 143 dX9_order_127 (by decide) rfl (fun h127 => ?_) (fun h127 => ?_)
        · have hi := nI_ge_of (by omega) (by omega) h127
          have hi : i = (ouT S.1 s (bN S.1)).length := by omega
          subst hi
          clear ih
          have hBm : Bm S.1 m := by
            · unfold Bm
              rw [hF 36 (by decide), h36 0 (by decide) (by decide), h36 1 (by decide) (by decide), h36 2 (by decide) (by decide), hF 37 (by decide), hF 38 (by decide), hF 39 (by decide), hF 40 (by decide), hF 41 (by decide), hF 42 (by decide), hF 43 (by decide), hF 44 (by decide), hF2 37 (by decide), hF2 38 (by decide), hF2 39 (by decide), hF2 40 (by decide), hF2 41 (by decide), hF2 42 (by decide), hF2 43 (by decide), hF2 44 (by decide)]
              exact hC1.1
          refine r_iconst (q := 144) (-1) (by decide) dX9_order_143 rfl ?_
          refine r_istore_3 (q := 145) (by decide) dX9_order_144 rfl ?_
          refine r_iconst (q := 146) 1 (by decide) dX9_order_145 rfl ?_
          refine r_istore_4 (q := 148) (by decide) dX9_order_146 rfl ?_
          refine mo_loop (mem := m) hW hs h102 hBm (by rw [hF 36 (by decide)]; exact e23) (by unfold Um; rw [hF 55 (by decide), hF2 55 (by decide)]; exact hU1) (by rw [hF 36 (by decide)]; exact e24) (fun m3 v hF3 hb3 => ?_) (8 ^ (ouT S.1 s (bN S.1)).length + 1) (fun i => i) m (-1) _ _ _ (Nat.lt_succ_of_le (Nat.sub_le _ _)) FrR.rf (perm_id _) (fun j hj => hrow j hj) (Or.inl ⟨rfl, fun p hp hl => ?_⟩)
          · obtain ⟨c, c1, -, c3, c4, c5, c6⟩ := hb3
            subst c3
            have hlc : (lay S.1 s c).length = popN s := lay_len hs c1
            refine hQ m3 c (fun _ => ⟨c1, fun p hp => c6 p hp trivial⟩) ?_ ?_
            · intro g hg
              rw [hF3.1 g (by simp; omega), hF g (by simp; omega), hF2 g (by simp; omega), hF1 g (by simp; omega)]
            · refine ⟨hF3.bm hBm, ?_, ?_, ?_, c4, c5⟩
              · unfold Lm
                rw [hF3.1 45 (by decide), hF3.1 46 (by decide), hF3.1 47 (by decide), hF 45 (by decide), hF 46 (by decide), hF 47 (by decide), hF2 45 (by decide), hF2 46 (by decide), hF2 47 (by decide)]
                exact hC1.2.1
              · rw [hF3.2 22 (by decide), hF 36 (by decide), h36 22 (by decide) (by decide)]
                exact hC1.2.2.1
              · show m3 36 0 24 = nI (lay S.1 s c).length
                rw [hF3.2 24 (by decide), hF 36 (by decide), e24, hlc]
          · obtain ⟨y, y1, y2, y3⟩ := hl
            obtain ⟨z, z1, z2, z3⟩ := later (perm_id _) hp y1 (fun w hw => (y2 w hw).symm) (fun w => by rw [← w] at y3; exact Nat.lt_irrefl _ y3)
            have y3 : p y < y := y3
            have z3 : p y = z := z3
            omega
        · have hi : i < (ouT S.1 s (bN S.1)).length := nI_lt_of (by omega) h127
          refine r_aload_0 (q := 131) dX9_order_130 rfl ?_
          refine r_getR (k := 27) (q := 134) f_RX9_74_8 rfl rfl dX9_order_131 rfl ?_
          refine r_iload_3 (q := 135) dX9_order_134 rfl ?_
          refine r_iload_3 (q := 136) dX9_order_135 rfl ?_
          refine r_iast (q := 137) _ rfl rfl (by first | omega | assumption | decide) dX9_order_136 rfl ?_
          refine r_iinc_3 (q := 140) _ (nI_inc _) (by decide) dX9_order_137 rfl ?_
          refine r_goto 122 dX9_order_140 (by decide) ?_
          refine ih (i + 1) _ (by omega) (by omega) (hF.mset (by simp)) (fun j hj => ?_)
          rw [mset_self]
          unfold upd
          by_cases e : j = i
          · rw [if_pos e, e]
          · rw [if_neg e]; exact hrow j (by omega)
    · have h102 : ¬ (ouT S.1 s (bN S.1)).length ≤ 8 := fun z => h102 (nI_le (b := 8) z (by decide))
      have hob : ordB S.1 (nI s) = false := by rw [hob]; exact decide_eq_false h102
      have hQ := hQ m1 (fun i => i) (fun z => by rw [hob] at z; cases z) (fun g hg => hF1 g (by simp; omega)) (by unfold mordS; rw [hob]; exact hC1)
      unfold mordV at hQ
      rw [hob] at hQ
      refine r_iconst (q := 106) (-1) (by decide) dX9_order_105 rfl ?_
      refine r_iret rfl dX9_order_106 (?_)
      exact hQ
  · have h8 : setB S.1 x = false := b2_eq0.mp h5
    have hob : ordB S.1 x = false := by unfold ordB; rw [h8]; rfl
    have hQ := hQ mem (fun i => i) (fun z => by rw [hob] at z; cases z) Fm.rf (by unfold mordS; rw [hob]; exact hC)
    unfold mordV at hQ
    rw [hob] at hQ
    refine r_iconst (q := 9) (-1) (by decide) dX9_order_8 rfl ?_
    refine r_iret rfl dX9_order_9 (?_)
    exact hQ
end MO
