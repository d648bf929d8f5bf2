/-! THE CLASS: the order, made -/
theorem cheapT_mem {jc T : Nat → Nat → Nat} {u : Option Nat} {r : Nat} : ∀ k, (cheapT jc T u r k).2 < 1000000 → r.testBit (cheapT jc T u r k).1 = true ∧ (cheapT jc T u r k).1 < k ∧ (cheapT jc T u r k).2 = costB jc T u r (cheapT jc T u r k).1
  | 0, h => absurd h (Nat.lt_irrefl _)
  | k + 1, h => by
    have e : cheapT jc T u r (k + 1) = if candB jc T u r k < (cheapT jc T u r k).2 then (k, candB jc T u r k) else cheapT jc T u r k := rfl
    rw [e] at h ⊢
    by_cases hc : candB jc T u r k < (cheapT jc T u r k).2
    · rw [if_pos hc] at h ⊢
      cases hb : r.testBit k with
      | true => exact ⟨rfl, Nat.lt_succ_self k, by show candB jc T u r k = _; unfold candB; rw [hb]; rfl⟩
      | false =>
        have : candB jc T u r k = 1000000 := by unfold candB; rw [hb]; rfl
        rw [this] at h
        exact absurd h (Nat.lt_irrefl _)
    · rw [if_neg hc] at h ⊢
      have := cheapT_mem k h
      exact ⟨this.1, by omega, this.2.2⟩
theorem cheapT_le {jc T : Nat → Nat → Nat} {u : Option Nat} {r : Nat} : ∀ k i, i < k → r.testBit i = true → (cheapT jc T u r k).2 ≤ costB jc T u r i
  | 0, i, h, _ => absurd h (Nat.not_lt_zero i)
  | k + 1, i, h, hb => by
    have e : cheapT jc T u r (k + 1) = if candB jc T u r k < (cheapT jc T u r k).2 then (k, candB jc T u r k) else cheapT jc T u r k := rfl
    rw [e]
    by_cases hi : i = k
    · subst hi
      have ec : candB jc T u r i = costB jc T u r i := by unfold candB; rw [hb]; rfl
      by_cases hc : candB jc T u r i < (cheapT jc T u r i).2
      · rw [if_pos hc]; exact Nat.le_of_eq ec
      · rw [if_neg hc]; omega
    · have ih := cheapT_le (jc := jc) (T := T) (u := u) k i (by omega) hb
      by_cases hc : candB jc T u r k < (cheapT jc T u r k).2
      · rw [if_pos hc]; show candB jc T u r k ≤ _; omega
      · rw [if_neg hc]; exact ih
theorem cheapT_congr {jc T T' : Nat → Nat → Nat} {u : Option Nat} {r : Nat} (h : ∀ k, r.testBit k = true → T' (andn r (2 ^ k)) k = T (andn r (2 ^ k)) k) : ∀ n, cheapT jc T' u r n = cheapT jc T u r n
  | 0 => rfl
  | n + 1 => by
    have ec : candB jc T' u r n = candB jc T u r n := by
      unfold candB
      cases hb : r.testBit n with
      | true => unfold costB; rw [h n hb]
      | false => rfl
    unfold cheapT
    rw [cheapT_congr h n, ec]
theorem low_ex {r : Nat} (h : r ≠ 0) : ∃ i, r.testBit i = true := ne_zero_tb h
/-- the table's own bound on costs -/
theorem cost_lt {jc T : Nat → Nat → Nat} {u : Option Nat} {r m i : Nat} (hj : ∀ a b, jc a b ≤ 33) (hT : ∀ r u, T r u ≤ 33 * r) (hm : m ≤ 8) (hr : r < 2 ^ m) (hi : r.testBit i = true) : costB jc T u r i ≤ 33 * r ∧ costB jc T u r i < 1000000 := by
  have h256 : 2 ^ m ≤ 2 ^ 8 := Nat.pow_le_pow_right (by decide) hm
  have h1 := andn_lt_self hi
  have h2 := hT (andn r (2 ^ i)) i
  have h3 : costB jc T u r i ≤ 33 + T (andn r (2 ^ i)) i := by
    unfold costB
    cases u with
    | none => simp
    | some v => have := hj v i; simp; omega
  omega
theorem cheapB_in {jc T : Nat → Nat → Nat} {u : Option Nat} {r m : Nat} (hj : ∀ a b, jc a b ≤ 33) (hT : ∀ r u, T r u ≤ 33 * r) (hm : m ≤ 8) (hr : r < 2 ^ m) (h0 : r ≠ 0) : r.testBit (cheapB jc T m u r) = true ∧ cheapB jc T m u r < m ∧ ∀ i, i < m → r.testBit i = true → costB jc T u r (cheapB jc T m u r) ≤ costB jc T u r i := by
  obtain ⟨i, hi⟩ := low_ex h0
  have him : i < m := by
    rcases Nat.lt_or_ge i m with z | z
    · exact z
    · rw [tb_hi hr z] at hi; cases hi
  have h1 := cheapT_le (jc := jc) (T := T) (u := u) (r := r) m i him hi
  have h2 := (cost_lt (u := u) hj hT hm hr hi).2
  have h3 := cheapT_mem (jc := jc) (T := T) (u := u) (r := r) m (by omega)
  refine ⟨h3.1, h3.2.1, fun j hj' hb => ?_⟩
  have := cheapT_le (jc := jc) (T := T) (u := u) (r := r) m j hj' hb
  show costB jc T u r (cheapT jc T u r m).1 ≤ _
  rw [← h3.2.2]
  exact this
def TkT (T : Nat → Nat → Nat) (m : Nat) (mem : Mem) : Prop := ∀ r u, r < 2 ^ m → u < m → r.testBit u = false → mem 33 0 (r * 8 + u) = nI (T r u)
def Pl (l : List Nat) (mem : Mem) : Prop := mem 27 0 7 = nI l.length ∧ ∀ i, i < l.length → mem 34 0 i = nI (l.getD i 0)
theorem uv_some (u : Nat) : uv (some u) = nI u := rfl
section O2
variable {E : En} {d : Nat} {mem : Mem} {Q : Int32 → Mem → Prop} {B : BD}
theorem reckonRestCosts_ok {jc : Nat → Nat → Nat} {m : Nat} (hsz : mem 27 0 5 = nI m) (hm : m ≤ 8) (hj : ∀ a b, jc a b ≤ 33) (hJ : Jk jc m mem) (hz : ∀ u, u < 8 → mem 33 0 u = 0) (hQ : ∀ (mem' : Mem) (T : Nat → Nat → Nat), Fr [33] mem mem' → (∀ u, u < 8 → mem' 33 0 u = 0) → TabOK jc T m → TkT T m mem' → Q 0 mem') : Call E (d + 2) mX3_reckonRestCosts [pR 27 0] mem Q := by
  refine Call.of [some (pR 27 0), none, none, none] mk_X3_reckonRestCosts rfl (Nat.le_of_ble_eq_true rfl) (fun _ => ?_)
  have h256 : 2 ^ m ≤ 2 ^ 8 := Nat.pow_le_pow_right (by decide) hm
  have hpos : 0 < 2 ^ m := Nat.pow_pos (by decide)
  refine r_iconst (q := 1) 1 (by decide) dX3_reckonRestCosts_0 rfl ?_
  refine r_istore_1 (q := 2) (by decide) dX3_reckonRestCosts_1 rfl ?_
  suffices H : ∀ (k R : Nat) (mm : Mem) (T : Nat → Nat → Nat), 2 ^ m - R < k → 1 ≤ R → R ≤ 2 ^ m → Fr [33] mem mm → (∀ u, u < 8 → mm 33 0 u = 0) → (∀ u, T 0 u = 0) → (∀ r u, T r u ≤ 33 * r) → (∀ r, 1 ≤ r → r < R → ∀ u, u < m → r.testBit u = false → T r u = costB jc T (some u) r (cheapB jc T m (some u) r)) → (∀ r u, r < R → u < m → r.testBit u = false → mm 33 0 (r * 8 + u) = nI (T r u)) → Wp E (xm E (d + 2) mX3_reckonRestCosts Q) mX3_reckonRestCosts 2 [some (pR 27 0), some (pI (nI R)), none, none] [] mm from H (2 ^ m + 1) 1 mem (fun _ _ => 0) (by omega) (by omega) hpos Fr.rf hz (fun _ => rfl) (fun _ _ => Nat.zero_le _) (fun r h1 h2 => by omega) (fun r u h1 h2 _ => by
    have : r = 0 := by omega
    subst this
    rw [Nat.zero_mul, Nat.zero_add]
    exact hz u (by omega))
  intro k
  induction k with
  | zero => intro R mm T h; omega
  | succ k ih =>
    intro R mm T h1 h2 h3 hF hz hT0 hTb hTe hTk
    refine r_iload_1 (q := 3) dX3_reckonRestCosts_2 rfl ?_
    refine r_iconst (q := 4) 1 (by decide) dX3_reckonRestCosts_3 rfl ?_
    refine r_aload_0 (q := 5) dX3_reckonRestCosts_4 rfl ?_
    refine r_getI (k := 5) (q := 8) f_RX3_29_3 rfl rfl dX3_reckonRestCosts_5 rfl ?_
    rw [show mm 27 0 5 = nI m by rw [hF 27 (by decide)]; exact hsz]
    refine r_ishl (q := 9) dX3_reckonRestCosts_8 rfl ?_
    rw [nb_shl1 m (by omega)]
    refine r_icmp_ge (q := 12) 67 dX3_reckonRestCosts_9 (by decide) rfl (fun h9 => ?_) (fun h9 => ?_)
    · have hq := nI_ge_of (by omega) (by omega) h9
      have hq : R = 2 ^ m := by omega
      subst hq
      refine r_vret rfl dX3_reckonRestCosts_67 (?_)
      exact hQ mm T hF hz ⟨hT0, hTb, fun r h1 h2 => hTe r h1 h2⟩ (fun r u h1 h2 h3 => hTk r u h1 h2 h3)
    · have hR : R < 2 ^ m := nI_lt_of (by omega) h9
      refine r_iconst (q := 13) 0 (by decide) dX3_reckonRestCosts_12 rfl ?_
      refine r_istore_2 (q := 14) (by decide) dX3_reckonRestCosts_13 rfl ?_
      suffices H2 : ∀ (k U : Nat) (mm : Mem) (T : Nat → Nat → Nat), m - U < k → U ≤ m → Fr [33] mem mm → (∀ u, u < 8 → mm 33 0 u = 0) → (∀ u, T 0 u = 0) → (∀ r u, T r u ≤ 33 * r) → (∀ r, 1 ≤ r → ∀ u, (r < R ∨ (r = R ∧ u < U)) → u < m → r.testBit u = false → T r u = costB jc T (some u) r (cheapB jc T m (some u) r)) → (∀ r u, (r < R ∨ (r = R ∧ u < U)) → u < m → r.testBit u = false → mm 33 0 (r * 8 + u) = nI (T r u)) → Wp E (xm E (d + 2) mX3_reckonRestCosts Q) mX3_reckonRestCosts 14 [some (pR 27 0), some (pI (nI R)), some (pI (nI U)), none] [] mm from H2 (m + 1) 0 mm T (by omega) (by omega) hF hz hT0 hTb (fun r h1 u h2 => hTe r h1 (by omega) u) (fun r u h2 => hTk r u (by omega))
      intro k2
      induction k2 with
      | zero => intro U mm T h; omega
      | succ k2 ih2 =>
        intro U mm T h4 h5 hF hz hT0 hTb hTe hTk
        have hsz2 : mm 27 0 5 = nI m := by rw [hF 27 (by decide)]; exact hsz
        refine r_iload_2 (q := 15) dX3_reckonRestCosts_14 rfl ?_
        refine r_aload_0 (q := 16) dX3_reckonRestCosts_15 rfl ?_
        refine r_getI (k := 5) (q := 19) f_RX3_29_3 rfl rfl dX3_reckonRestCosts_16 rfl ?_
        rw [hsz2]
        refine r_icmp_ge (q := 22) 61 dX3_reckonRestCosts_19 (by decide) rfl (fun h19 => ?_) (fun h19 => ?_)
        · have hq := nI_ge_of (by omega) (by omega) h19
          have hq : U = m := by omega
          subst hq
          refine r_iinc_1 (q := 64) _ (nI_inc _) (by decide) dX3_reckonRestCosts_61 rfl ?_
          refine r_goto 2 dX3_reckonRestCosts_64 (by decide) ?_
          exact (ih (R + 1) mm T (by omega) (by omega) (by omega) hF hz hT0 hTb (fun r h6 h7 u h8 h9 => hTe r h6 u (by omega) h8 h9) (fun r u h6 h7 h8 => hTk r u (by omega) h7 h8)).sub (by simp [lsub])
        · have hU : U < m := nI_lt_of (by omega) h19
          refine r_iload_1 (q := 23) dX3_reckonRestCosts_22 rfl ?_
          refine r_iload_2 (q := 24) dX3_reckonRestCosts_23 rfl ?_
          refine r_callN2i (M' := mX8_contains) (q := 27) mk_X8_contains ms_X8_contains (by decide +kernel) rfl (Nat.le_of_ble_eq_true rfl) rm_xm dX3_reckonRestCosts_24 rfl (contains_ok (by omega) (by omega) ?_)
          refine r_if_ne (q := 30) 55 dX3_reckonRestCosts_27 (by decide) rfl (fun h27 => ?_) (fun h27 => ?_)
          · have h27 := b2_ne0.mp h27
            refine r_iinc_2 (q := 58) _ (nI_inc _) (by decide) dX3_reckonRestCosts_55 rfl ?_
            refine r_goto 14 dX3_reckonRestCosts_58 (by decide) ?_
            refine (ih2 (U + 1) mm T (by omega) (by omega) hF hz hT0 hTb (fun r h6 u h7 h8 hb9 => ?_) (fun r u h7 h8 hb9 => ?_)).sub (by simp [lsub])
            · refine hTe r h6 u ?_ h8 hb9
              rcases h7 with h7 | ⟨rfl, h7⟩
              · exact Or.inl h7
              · by_cases e : u = U
                · subst e; rw [h27] at hb9; cases hb9
                · exact Or.inr ⟨rfl, by omega⟩
            · refine hTk r u ?_ h8 hb9
              rcases h7 with h7 | ⟨rfl, h7⟩
              · exact Or.inl h7
              · by_cases e : u = U
                · subst e; rw [h27] at hb9; cases hb9
                · exact Or.inr ⟨rfl, by omega⟩
          · have h27 := b2_eq0.mp h27
            have hJ2 : ∀ v nx, some U = some v → nx < m → R.testBit nx = true → v < m ∧ mm 32 v nx = nI (jc v nx) := by
              intro v nx e hn _
              cases e
              exact ⟨hU, by rw [hF 32 (by decide)]; exact hJ U nx hU hn⟩
            have hT2 : ∀ nx, nx < m → R.testBit nx = true → mm 33 0 (andn R (2 ^ nx) * 8 + nx) = nI (T (andn R (2 ^ nx)) nx) := by
              intro nx hn hb
              exact hTk _ nx (Or.inl (andn_lt_self hb)) hn (by rw [andn_tb, tb_pow]; simp)
            have hin := cheapB_in (jc := jc) (T := T) (u := some U) hj hTb hm hR (show R ≠ 0 by omega)
            have hcl := cost_lt (u := some U) hj hTb hm hR hin.1
            rw [← uv_some]
            refine r_aload_0 (q := 31) dX3_reckonRestCosts_30 rfl ?_
            refine r_iload_2 (q := 32) dX3_reckonRestCosts_31 rfl ?_
            refine r_iload_1 (q := 33) dX3_reckonRestCosts_32 rfl ?_
            refine r_callV2i (M' := mX3_cheapestBehind) (q := 36) mk_X3_cheapestBehind mi_X3_cheapestBehind k_595 rfl rfl rfl rfl (Nat.le_of_ble_eq_true rfl) rm_xm dX3_reckonRestCosts_33 rfl (cheapestBehind_ok (T := T) hsz2 hm hR hJ2 hT2 (fun nx _ hb => Nat.le_of_lt (cost_lt hj hTb hm hR hb).2) ?_)
            refine r_istore_3 (q := 37) (by decide) dX3_reckonRestCosts_36 rfl ?_
            refine r_aload_0 (q := 38) dX3_reckonRestCosts_37 rfl ?_
            refine r_getR (k := 4) (q := 41) f_RX3_26_3 rfl rfl dX3_reckonRestCosts_38 rfl ?_
            refine r_iload_1 (q := 42) dX3_reckonRestCosts_41 rfl ?_
            refine r_bipush (q := 44) 8 (by decide) dX3_reckonRestCosts_42 rfl ?_
            refine r_imul (q := 45) dX3_reckonRestCosts_44 rfl ?_
            refine r_iload_2 (q := 46) dX3_reckonRestCosts_45 rfl ?_
            refine r_iadd (q := 47) dX3_reckonRestCosts_46 rfl ?_
            refine r_aload_0 (q := 48) dX3_reckonRestCosts_47 rfl ?_
            refine r_iload_2 (q := 49) dX3_reckonRestCosts_48 rfl ?_
            refine r_iload_1 (q := 50) dX3_reckonRestCosts_49 rfl ?_
            refine r_iload_3 (q := 51) dX3_reckonRestCosts_50 rfl ?_
            refine r_callV3i (M' := mX3_costBehind) (q := 54) mk_X3_costBehind mi_X3_costBehind k_600 rfl rfl rfl rfl (Nat.le_of_ble_eq_true rfl) rm_xm dX3_reckonRestCosts_51 rfl (costBehind_ok (m := m) (fun v hv => hJ2 v _ hv hin.2.1 hin.1) (hT2 _ hin.2.1 hin.1) hm hR hin.2.1 ?_)
            rw [uv_some]
            generalize hv : costB jc T (some U) R (cheapB jc T m (some U) R) = v at hcl
            refine r_iast (q := 55) (R * 8 + U) (by rw [show (8 : Int32) = nI 8 from rfl, pk_mul, nI_add]) rfl (by omega) dX3_reckonRestCosts_54 rfl ?_
            refine r_iinc_2 (q := 58) _ (nI_inc _) (by decide) dX3_reckonRestCosts_55 rfl ?_
            refine r_goto 14 dX3_reckonRestCosts_58 (by decide) ?_
            have hcg : ∀ (r u : Nat), r ≤ R → ∀ k, r.testBit k = true → (fun r' u' => if r' = R ∧ u' = U then v else T r' u') (andn r (2 ^ k)) k = T (andn r (2 ^ k)) k := by
              intro r u hr k hk
              have := andn_lt_self hk
              show (if andn r (2 ^ k) = R ∧ k = U then v else _) = _
              rw [if_neg (fun z => by omega)]
            refine (ih2 (U + 1) _ (fun r' u' => if r' = R ∧ u' = U then v else T r' u') (by omega) (by omega) (hF.mset (by simp)) (fun u hu => ?_) (fun u => ?_) (fun r u => ?_) (fun r h6 u h7 h8 h9 => ?_) (fun r u h7 h8 h9 => ?_)).sub (by simp [lsub])
            · rw [mset_self]
              unfold upd
              rw [if_neg (by omega)]
              exact hz u hu
            · show (if 0 = R ∧ u = U then v else T 0 u) = 0
              rw [if_neg (by omega)]
              exact hT0 u
            · show (if r = R ∧ u = U then v else T r u) ≤ _
              split
              · rename_i e; rw [e.1]; exact hcl.1
              · exact hTb r u
            · have hrR : r ≤ R := by omega
              have e1 : cheapB jc (fun r' u' => if r' = R ∧ u' = U then v else T r' u') m (some u) r = cheapB jc T m (some u) r := by
                unfold cheapB
                rw [cheapT_congr (hcg r u hrR)]
              have hin2 := cheapB_in (jc := jc) (T := T) (u := some u) hj hTb hm (show r < 2 ^ m by omega) (show r ≠ 0 by omega)
              rw [e1]
              have e2 : costB jc (fun r' u' => if r' = R ∧ u' = U then v else T r' u') (some u) r (cheapB jc T m (some u) r) = costB jc T (some u) r (cheapB jc T m (some u) r) := by
                unfold costB
                rw [hcg r u hrR _ hin2.1]
              rw [e2]
              show (if r = R ∧ u = U then v else T r u) = _
              by_cases e : r = R ∧ u = U
              · rw [if_pos e, e.1, e.2]; exact hv.symm
              · rw [if_neg e]
                exact hTe r h6 u (by omega) h8 h9
            · rw [mset_self]
              show upd _ _ _ _ = nI (if r = R ∧ u = U then v else T r u)
              unfold upd
              by_cases e : r = R ∧ u = U
              · rw [if_pos e, if_pos (by rw [e.1, e.2])]
              · rw [if_neg e, if_neg (by omega)]
                exact hTk r u (by omega) h8 h9
theorem placeQuestions_ok {s : Nat} {l : List Nat} (hs : s < 2 ^ 24) (hP : Pl l mem) (hl : l.length + (bitsT s 24).length ≤ 24) (hQ : ∀ mem', Fr [27, 34] mem mem' → (∀ i, i ≠ 7 → mem' 27 0 i = mem 27 0 i) → Pl (l ++ bitsT s 24) mem' → Q 0 mem') : Call E (d + 1) mX3_placeQuestions [pR 27 0, pI (nI s)] mem Q := by
  refine Call.of [some (pR 27 0), some (pI (nI s)), none] mk_X3_placeQuestions rfl (Nat.le_of_ble_eq_true rfl) (fun _ => ?_)
  rw [bitsT_len] at hl
  refine r_iconst (q := 1) 0 (by decide) dX3_placeQuestions_0 rfl ?_
  refine r_istore_2 (q := 2) (by decide) dX3_placeQuestions_1 rfl ?_
  suffices H : ∀ (k q : Nat) (m : Mem), 24 - q < k → q ≤ 24 → Fr [27, 34] mem m → (∀ i, i ≠ 7 → m 27 0 i = mem 27 0 i) → Pl (l ++ bitsT s q) m → Wp E (xm E (d + 1) mX3_placeQuestions Q) mX3_placeQuestions 2 [some (pR 27 0), some (pI (nI s)), some (pI (nI q))] [] m from H 25 0 mem (by omega) (by omega) Fr.rf (fun _ _ => rfl) (by rw [bitsT, List.append_nil]; exact hP)
  intro k
  induction k with
  | zero => intro q m h; omega
  | succ k ih =>
    intro q m h1 h2 hF h7 hPm
    have hlen : (l ++ bitsT s q).length = l.length + cnt (fun i => s.testBit i) q := by rw [List.length_append, bitsT_len]
    have hmono := cnt_mono (fun i => s.testBit i) h2
    refine r_iload_2 (q := 3) dX3_placeQuestions_2 rfl ?_
    refine r_bipush (q := 5) 24 (by decide) dX3_placeQuestions_3 rfl ?_
    refine r_icmp_ge (q := 8) 51 dX3_placeQuestions_5 (by decide) rfl (fun h5 => ?_) (fun h5 => ?_)
    · have hq := nI_ge_of (a := 24) (by decide) (by omega) h5
      have hq : q = 24 := by omega
      subst hq
      refine r_vret rfl dX3_placeQuestions_51 (?_)
      exact hQ m hF h7 hPm
    · have hq : q < 24 := nI_lt_of (a := 24) (by omega) h5
      refine r_aload_0 (q := 9) dX3_placeQuestions_8 rfl ?_
      refine r_getI (k := 7) (q := 12) f_RX3_36_3 rfl rfl dX3_placeQuestions_9 rfl ?_
      refine r_bipush (q := 14) 24 (by decide) dX3_placeQuestions_12 rfl ?_
      rw [hPm.1]
      refine r_icmp_ge (q := 17) 51 dX3_placeQuestions_14 (by decide) rfl (fun h14 => ?_) (fun h14 => ?_)
      · have h14 := nI_ge_of (a := 24) (by decide) (by omega) h14
        have hz : ∀ j, q ≤ j → j ≤ 24 → bitsT s j = bitsT s q := by
          intro j hj
          induction hj with
          | refl => intro _; rfl
          | step hj' ihj =>
            rename_i j'
            intro hj24
            have ihj := ihj (by omega)
            have hc : cnt (fun i => s.testBit i) (j' + 1) ≤ cnt (fun i => s.testBit i) 24 := cnt_mono _ hj24
            have hc2 : cnt (fun i => s.testBit i) q ≤ cnt (fun i => s.testBit i) j' := cnt_mono _ hj'
            rw [cnt] at hc
            cases hb : s.testBit j' with
            | true => rw [hb] at hc; simp at hc; omega
            | false => rw [bitsT, hb, ← ihj]; rfl
        have := hz 24 (by omega) (Nat.le_refl _)
        rw [← this] at hPm
        refine r_vret rfl dX3_placeQuestions_51 (?_)
        exact hQ m hF h7 hPm
      · have h14 : (l ++ bitsT s q).length < 24 := nI_lt_of (a := 24) (by omega) h14
        refine r_iload_1 (q := 18) dX3_placeQuestions_17 rfl ?_
        refine r_iload_2 (q := 19) dX3_placeQuestions_18 rfl ?_
        refine r_callN2i (M' := mX8_contains) (q := 22) mk_X8_contains ms_X8_contains (by decide +kernel) rfl (Nat.le_of_ble_eq_true rfl) rm_xm dX3_placeQuestions_19 rfl (contains_ok (pw24 hs) (by omega) ?_)
        refine r_if_eq (q := 25) 45 dX3_placeQuestions_22 (by decide) rfl (fun h22 => ?_) (fun h22 => ?_)
        · have h22 := b2_eq0.mp h22
          refine r_iinc_2 (q := 48) _ (nI_inc _) (by decide) dX3_placeQuestions_45 rfl ?_
          refine r_goto 2 dX3_placeQuestions_48 (by decide) ?_
          exact ih (q + 1) m (by omega) (by omega) hF h7 (by rw [bitsT, h22]; exact hPm)
        · have h22 := b2_ne0.mp h22
          refine r_aload_0 (q := 26) dX3_placeQuestions_25 rfl ?_
          refine r_getR (k := 6) (q := 29) f_RX3_33_3 rfl rfl dX3_placeQuestions_26 rfl ?_
          refine r_aload_0 (q := 30) dX3_placeQuestions_29 rfl ?_
          refine r_getI (k := 7) (q := 33) f_RX3_36_3 rfl rfl dX3_placeQuestions_30 rfl ?_
          rw [hPm.1]
          refine r_iload_2 (q := 34) dX3_placeQuestions_33 rfl ?_
          refine r_iast (q := 35) _ rfl rfl (by first | omega | assumption | decide) dX3_placeQuestions_34 rfl ?_
          refine r_aload_0 (q := 36) dX3_placeQuestions_35 rfl ?_
          refine r_dup (q := 37) dX3_placeQuestions_36 rfl ?_
          refine r_getI (k := 7) (q := 40) f_RX3_36_3 rfl rfl dX3_placeQuestions_37 rfl ?_
          rw [show mset m 34 0 (l ++ bitsT s q).length (nI q) 27 0 7 = nI (l ++ bitsT s q).length from hPm.1]
          refine r_iconst (q := 41) 1 (by decide) dX3_placeQuestions_40 rfl ?_
          refine r_iadd (q := 42) dX3_placeQuestions_41 rfl ?_
          rw [nI_1]
          refine r_put (k := 7) (q := 45) f_RX3_36_3 pf_3_7 rfl rfl dX3_placeQuestions_42 rfl ?_
          refine r_iinc_2 (q := 48) _ (nI_inc _) (by decide) dX3_placeQuestions_45 rfl ?_
          refine r_goto 2 dX3_placeQuestions_48 (by decide) ?_
          refine ih (q + 1) _ (by omega) (by omega) ((hF.mset (by simp)).mset (by simp)) (fun i hi => ?_) ?_
          · rw [mset_self]
            unfold upd
            rw [if_neg hi, mset_g _ _ _ _ (by decide)]
            exact h7 i hi
          · rw [bitsT, if_pos h22, ← List.append_assoc]
            refine ⟨by rw [mset_at, List.length_append (as := l ++ bitsT s q)]; rfl, fun i hi => ?_⟩
            rw [List.length_append, List.length_singleton] at hi
            rw [mset_g _ _ _ _ (by decide), mset_self]
            unfold upd
            rw [List.getD_eq_getElem?_getD]
            by_cases e : i = (l ++ bitsT s q).length
            · rw [if_pos e, e, List.getElem?_append_right (Nat.le_refl _), Nat.sub_self]
              rfl
            · rw [if_neg e, List.getElem?_append_left (by omega), ← List.getD_eq_getElem?_getD]
              exact hPm.2 i (by omega)
end O2
