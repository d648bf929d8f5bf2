/-! THE REFERENCE: rows of units, one after another -/
def PermF (m : Nat) (r : Nat → Nat) : Prop := (∀ i, i < m → r i < m) ∧ (∀ i j, i < m → j < m → r i = r j → i = j) ∧ ∀ v, v < m → ∃ i, i < m ∧ r i = v
def lexL (m : Nat) (r p : Nat → Nat) : Prop := ∃ x, x < m ∧ (∀ y, y < x → r y = p y) ∧ r x < p x
def sameR (m : Nat) (r p : Nat → Nat) : Prop := ∀ i, i < m → r i = p i
theorem first_diff {m : Nat} {r p : Nat → Nat} (h : ¬ sameR m r p) : ∃ x, x < m ∧ (∀ y, y < x → r y = p y) ∧ ¬ r x = p x := by
  have : ∃ x, x < m ∧ ¬ r x = p x := by
    refine Classical.byContradiction (fun z => h (fun i hi => ?_))
    exact Classical.byContradiction (fun w => z ⟨i, hi, w⟩)
  obtain ⟨x, ⟨h1, h2⟩, h3⟩ := pk_least (fun x => x < m ∧ ¬ r x = p x) this
  refine ⟨x, h1, fun y hy => ?_, h2⟩
  exact Classical.byContradiction (fun w => h3 y hy ⟨by omega, w⟩)
theorem lex_tri {m : Nat} (r p : Nat → Nat) : sameR m r p ∨ lexL m r p ∨ lexL m p r := by
  by_cases h : sameR m r p
  · exact Or.inl h
  · obtain ⟨x, h1, h2, h3⟩ := first_diff h
    rcases Nat.lt_or_gt_of_ne h3 with z | z
    · exact Or.inr (Or.inl ⟨x, h1, h2, z⟩)
    · exact Or.inr (Or.inr ⟨x, h1, fun y hy => (h2 y hy).symm, z⟩)
theorem lex_asym {m : Nat} {r p : Nat → Nat} (h1 : lexL m r p) (h2 : lexL m p r) : False := by
  obtain ⟨x, a1, a2, a3⟩ := h1
  obtain ⟨y, b1, b2, b3⟩ := h2
  rcases Nat.lt_trichotomy x y with z | z | z
  · have := b2 x z; omega
  · subst z; omega
  · have := a2 y z; omega
theorem lex_trans {m : Nat} {r p s : Nat → Nat} (h1 : lexL m r p) (h2 : lexL m p s) : lexL m r s := by
  obtain ⟨x, a1, a2, a3⟩ := h1
  obtain ⟨y, b1, b2, b3⟩ := h2
  rcases Nat.lt_trichotomy x y with z | z | z
  · exact ⟨x, a1, fun w hw => (a2 w hw).trans (b2 w (by omega)), by rw [← b2 x z]; exact a3⟩
  · subst z; exact ⟨x, a1, fun w hw => (a2 w hw).trans (b2 w hw), by omega⟩
  · exact ⟨y, b1, fun w hw => (a2 w (by omega)).trans (b2 w hw), by rw [a2 y z]; exact b3⟩
theorem lex_same {m : Nat} {r p s : Nat → Nat} (h1 : lexL m r p) (h2 : sameR m p s) : lexL m r s := by
  obtain ⟨x, a1, a2, a3⟩ := h1
  exact ⟨x, a1, fun w hw => (a2 w hw).trans (h2 w (by omega)), by rw [← h2 x a1]; exact a3⟩
/-- a row's rank -/
def rkT (r : Nat → Nat) : Nat → Nat
  | 0 => 0
  | k + 1 => rkT r k * 8 + r k
theorem rkT_lt {r : Nat → Nat} : ∀ k, (∀ i, i < k → r i < 8) → rkT r k < 8 ^ k
  | 0, _ => by simp [rkT]
  | k + 1, h => by
    have ih := rkT_lt k (fun i hi => h i (by omega))
    have := h k (by omega)
    unfold rkT
    rw [Nat.pow_succ]
    omega
theorem rkT_congr {r p : Nat → Nat} : ∀ k, (∀ i, i < k → r i = p i) → rkT r k = rkT p k
  | 0, _ => rfl
  | k + 1, h => by
    unfold rkT
    rw [rkT_congr k (fun i hi => h i (by omega)), h k (by omega)]
theorem rkT_lex {r p : Nat → Nat} {x : Nat} (h2 : ∀ y, y < x → r y = p y) (h3 : r x < p x) : ∀ k, x < k → (∀ i, i < k → r i < 8) → rkT r k < rkT p k
  | 0, h, _ => absurd h (Nat.not_lt_zero x)
  | k + 1, h, hr => by
    unfold rkT
    by_cases e : x = k
    · subst e
      rw [rkT_congr x h2]
      omega
    · have ih := rkT_lex h2 h3 k (by omega) (fun i hi => hr i (by omega))
      have := hr k (by omega)
      omega
theorem perm_id (m : Nat) : PermF m (fun i => i) := ⟨fun i h => h, fun _ _ _ _ h => h, fun v h => ⟨v, h, rfl⟩⟩
theorem perm_inv {m : Nat} {r s : Nat → Nat} (h : PermF m r) (h1 : ∀ i, i < m → s i < m) (h2 : ∀ i, i < m → s (s i) = i) : PermF m (fun i => r (s i)) := by
  refine ⟨fun i hi => h.1 _ (h1 i hi), fun i j hi hj e => ?_, fun v hv => ?_⟩
  · have := h.2.1 _ _ (h1 i hi) (h1 j hj) e
    rw [← h2 i hi, ← h2 j hj, this]
  · obtain ⟨i, hi, e⟩ := h.2.2 v hv
    exact ⟨s i, h1 i hi, by show r (s (s i)) = v; rw [h2 i hi]; exact e⟩
/-- what stands at x in another row that begins alike stands at x or behind it in this one -/
theorem later {m : Nat} {r p : Nat → Nat} (hr : PermF m r) (hp : PermF m p) {x : Nat} (hx : x < m) (h : ∀ y, y < x → r y = p y) (hd : ¬ r x = p x) : ∃ y, x < y ∧ y < m ∧ p x = r y := by
  obtain ⟨y, hy, e⟩ := hr.2.2 (p x) (hp.1 x hx)
  refine ⟨y, ?_, hy, e.symm⟩
  rcases Nat.lt_trichotomy x y with z | z | z
  · exact z
  · subst z; exact absurd e hd
  · have h1 := h y z
    rw [e] at h1
    have := hp.2.1 x y hx hy h1
    omega
def dsc (m k : Nat) (r : Nat → Nat) : Prop := ∀ x y, k ≤ x → x < y → y < m → r y < r x
theorem last_row {m : Nat} {r p : Nat → Nat} (hr : PermF m r) (hp : PermF m p) (h : dsc m 0 r) : ¬ lexL m r p := by
  rintro ⟨x, h1, h2, h3⟩
  obtain ⟨y, g1, g2, g3⟩ := later hr hp h1 h2 (by omega)
  have := h x y (Nat.zero_le _) g1 g2
  omega
def swF (i j x : Nat) : Nat := if x = i then j else if x = j then i else x
def rvF (m i x : Nat) : Nat := if x ≤ i then x else m + i - x
theorem swF_i (i j : Nat) : swF i j i = j := by unfold swF; rw [if_pos rfl]
theorem swF_j {i j : Nat} (h : ¬ j = i) : swF i j j = i := by unfold swF; rw [if_neg h, if_pos rfl]
theorem swF_o {i j x : Nat} (h : ¬ x = i) (h2 : ¬ x = j) : swF i j x = x := by unfold swF; rw [if_neg h, if_neg h2]
theorem rvF_le {m i x : Nat} (h : x ≤ i) : rvF m i x = x := by unfold rvF; rw [if_pos h]
theorem rvF_gt {m i x : Nat} (h : ¬ x ≤ i) : rvF m i x = m + i - x := by unfold rvF; rw [if_neg h]
def nxF (m : Nat) (r : Nat → Nat) (i j : Nat) : Nat → Nat := fun x => r (swF i j (rvF m i x))
theorem next_ok {m : Nat} {r : Nat → Nat} {i j : Nat} (hr : PermF m r) (hi : i < j) (hj : j < m) (hd : dsc m (i + 1) r) (hij : r i < r j) (hjl : ∀ y, j < y → y < m → r y < r i) : PermF m (nxF m r i j) ∧ lexL m r (nxF m r i j) ∧ ∀ p, PermF m p → lexL m r p → sameR m (nxF m r i j) p ∨ lexL m (nxF m r i j) p := by
  have hsw : ∀ x, x < m → swF i j x < m := fun x hx => by unfold swF; split; omega; split <;> omega
  have hsw2 : ∀ x, x < m → swF i j (swF i j x) = x := fun x hx => by
    by_cases a : x = i
    · subst a; rw [swF_i, swF_j (by omega)]
    · by_cases b : x = j
      · subst b; rw [swF_j a, swF_i]
      · rw [swF_o a b, swF_o a b]
  have hrv : ∀ x, x < m → rvF m i x < m := fun x hx => by unfold rvF; split <;> omega
  have hrv2 : ∀ x, x < m → rvF m i (rvF m i x) = x := fun x hx => by
    unfold rvF
    by_cases a : x ≤ i
    · rw [if_pos a, if_pos a]
    · rw [if_neg a, if_neg (by omega)]; omega
  have h1 : PermF m (fun x => r (swF i j x)) := perm_inv hr hsw hsw2
  have h2 : PermF m (nxF m r i j) := perm_inv (r := fun x => r (swF i j x)) h1 hrv hrv2
  have ev : ∀ x, x < i → nxF m r i j x = r x := fun x hx => by
    unfold nxF
    rw [rvF_le (by omega), swF_o (by omega) (by omega)]
  have evi : nxF m r i j i = r j := by
    unfold nxF
    rw [rvF_le (Nat.le_refl i), swF_i]
  have d1 : dsc m (i + 1) (fun x => r (swF i j x)) := by
    intro x y hx hxy hy
    show r (swF i j y) < r (swF i j x)
    by_cases a : x = j
    · subst a
      rw [swF_j (by omega), swF_o (by omega) (by omega)]
      exact hjl y (by omega) hy
    · rw [swF_o (show ¬ x = i by omega) a]
      by_cases b : y = j
      · subst b
        rw [swF_j (by omega)]
        have := hd x y hx hxy hj
        omega
      · rw [swF_o (show ¬ y = i by omega) b]; exact hd x y hx hxy hy
  have up : ∀ x y, i < x → x < y → y < m → nxF m r i j x < nxF m r i j y := by
    intro x y hx hxy hy
    have := d1 (m + i - y) (m + i - x) (by omega) (by omega) (by omega)
    unfold nxF
    rw [rvF_gt (by omega), rvF_gt (by omega)]
    exact this
  refine ⟨h2, ⟨i, by omega, fun y hy => (ev y hy).symm, by rw [evi]; exact hij⟩, fun p hp hl => ?_⟩
  obtain ⟨x, g1, g2, g3⟩ := hl
  rcases Nat.lt_trichotomy x i with z | z | z
  · exact Or.inr ⟨x, g1, fun y hy => (ev y (by omega)).trans (g2 y hy), by rw [ev x z]; exact g3⟩
  · subst z
    obtain ⟨y, k1, k2, k3⟩ := later hr hp g1 g2 (by omega)
    have hyj : y ≤ j := by
      rcases Nat.lt_or_ge j y with w | w
      · have := hjl y w k2; omega
      · exact w
    have hge : r j ≤ p x := by
      rw [k3]
      rcases Nat.lt_or_eq_of_le hyj with w | w
      · exact Nat.le_of_lt (hd y j (by omega) w hj)
      · rw [w]; exact Nat.le_refl _
    by_cases e : r j = p x
    · by_cases hs : sameR m (nxF m r x j) p
      · exact Or.inl hs
      · obtain ⟨w, w1, w2, w3⟩ := first_diff hs
        have hxw : x < w := by
          rcases Nat.lt_trichotomy x w with q | q | q
          · exact q
          · subst q; exact absurd (evi.trans e) w3
          · exact absurd ((ev w q).trans (g2 w q)) w3
        obtain ⟨v, v1, v2, v3⟩ := later h2 hp w1 w2 w3
        have := up w v hxw v1 v2
        exact Or.inr ⟨w, w1, w2, by rw [v3]; exact this⟩
    · exact Or.inr ⟨x, g1, fun y hy => (ev y hy).trans (g2 y hy), by rw [evi]; omega⟩
  · exfalso
    obtain ⟨y, k1, k2, k3⟩ := later hr hp g1 g2 (by omega)
    have := hd x y (by omega) k1 k2
    omega
section NR
variable {E : En} {d : Nat} {mem : Mem} {Q : Int32 → Mem → Prop}
def Rw (m : Nat) (r : Nat → Nat) (mem : Mem) : Prop := ∀ i, i < m → mem 56 0 i = nI (r i)
theorem mnext_ok {m : Nat} {r : Nat → Nat} (hm : m ≤ 8) (hr : PermF m r) (hu : mem 36 0 23 = nI m) (hR : Rw m r mem) (hQ0 : (∀ p, PermF m p → ¬ lexL m r p) → Q 0 mem) (hQ1 : ∀ mem' r', Fr [56] mem mem' → PermF m r' → Rw m r' mem' → lexL m r r' → (∀ p, PermF m p → lexL m r p → sameR m r' p ∨ lexL m r' p) → Q 1 mem') : Call E d mX9_nextRow [pR 36 0] mem Q := by
  refine Call.of [some (pR 36 0), none, none, none, none, none] mk_X9_nextRow rfl (Nat.le_of_ble_eq_true rfl) (fun _ => ?_)
  have hrl : ∀ i, i < m → r i < 8 := fun i hi => by have := hr.1 i hi; omega
  refine r_aload_0 (q := 1) dX9_nextRow_0 rfl ?_
  refine r_getI (k := 23) (q := 4) f_RX9_161_8 rfl rfl dX9_nextRow_1 rfl ?_
  refine r_iconst (q := 5) 2 (by decide) dX9_nextRow_4 rfl ?_
  refine r_isub (q := 6) dX9_nextRow_5 rfl ?_
  rw [hu]
  have neg : ∀ x : Int32, x < 0 → dsc m 0 r → Wp E (xm E d mX9_nextRow Q) mX9_nextRow 34 [some (pR 36 0), some (pI x), none, none, none, none] [] mem := by
    intro x hx hd
    refine r_iload_1 (q := 35) dX9_nextRow_34 rfl ?_
    refine r_if_ge (q := 38) 40 dX9_nextRow_35 (by decide) rfl (fun h35 => ?_) (fun h35 => ?_)
    · exact absurd hx (Int32.not_lt.mpr h35)
    · refine r_iconst (q := 39) 0 (by decide) dX9_nextRow_38 rfl ?_
      refine r_zret (by first | exact Or.inl rfl | exact Or.inr rfl | assumption) rfl dX9_nextRow_39 (?_)
      exact hQ0 (fun p hp => last_row hr hp hd)
  rcases (by omega : m = 0 ∨ m = 1 ∨ 2 ≤ m) with rfl | rfl | h2
  · refine r_istore_1 (q := 7) (by decide) dX9_nextRow_6 rfl ?_
    refine r_iload_1 (q := 8) dX9_nextRow_7 rfl ?_
    refine r_if_lt (q := 11) 34 dX9_nextRow_8 (by decide) rfl (fun h8 => ?_) (fun h8 => ?_)
    · exact neg _ h8 (fun x y _ h1 h2 => by omega)
    · exact absurd (show nI 0 - 2 < 0 by decide) h8
  · refine r_istore_1 (q := 7) (by decide) dX9_nextRow_6 rfl ?_
    refine r_iload_1 (q := 8) dX9_nextRow_7 rfl ?_
    refine r_if_lt (q := 11) 34 dX9_nextRow_8 (by decide) rfl (fun h8 => ?_) (fun h8 => ?_)
    · exact neg _ h8 (fun x y _ h1 h2 => by omega)
    · exact absurd (show nI 1 - 2 < 0 by decide) h8
  · rw [show nI m - 2 = nI (m - 2) from pk_sub (b := 2) h2]
    refine r_istore_1 (q := 7) (by decide) dX9_nextRow_6 rfl ?_
    have found : ∀ i, i + 1 < m → r i < r (i + 1) → dsc m (i + 1) r → Wp E (xm E d mX9_nextRow Q) mX9_nextRow 34 [some (pR 36 0), some (pI (nI i)), none, none, none, none] [] mem := by
      intro i hi hlt hd
      refine r_iload_1 (q := 35) dX9_nextRow_34 rfl ?_
      refine r_if_ge (q := 38) 40 dX9_nextRow_35 (by decide) rfl (fun h35 => ?_) (fun h35 => ?_)
      · refine r_aload_0 (q := 41) dX9_nextRow_40 rfl ?_
        refine r_getI (k := 23) (q := 44) f_RX9_161_8 rfl rfl dX9_nextRow_41 rfl ?_
        refine r_iconst (q := 45) 1 (by decide) dX9_nextRow_44 rfl ?_
        refine r_isub (q := 46) dX9_nextRow_45 rfl ?_
        rw [hu, show nI m - 1 = nI (m - 1) from pk_sub (b := 1) (by omega)]
        refine r_istore_2 (q := 47) (by decide) dX9_nextRow_46 rfl ?_
        suffices H2 : ∀ (j : Nat), i + 1 ≤ j → j < m → (∀ y, j < y → y < m → r y < r i) → Wp E (xm E d mX9_nextRow Q) mX9_nextRow 47 [some (pR 36 0), some (pI (nI i)), some (pI (nI j)), none, none, none] [] mem from H2 (m - 1) (by omega) (by omega) (fun y h3 h4 => by omega)
        intro j
        induction j with
        | zero => intro h; omega
        | succ j jh =>
          intro hj1 hj2 hj3
          have c1 := hrl (j + 1) hj2
          have c2 := hrl i (by omega)
          refine r_aload_0 (q := 48) dX9_nextRow_47 rfl ?_
          refine r_getR (k := 27) (q := 51) f_RX9_74_8 rfl rfl dX9_nextRow_48 rfl ?_
          refine r_iload_2 (q := 52) dX9_nextRow_51 rfl ?_
          refine r_iald (q := 53) _ rfl rfl (by first | omega | assumption | decide) dX9_nextRow_52 rfl ?_
          rw [hR (j + 1) hj2]
          refine r_aload_0 (q := 54) dX9_nextRow_53 rfl ?_
          refine r_getR (k := 27) (q := 57) f_RX9_74_8 rfl rfl dX9_nextRow_54 rfl ?_
          refine r_iload_1 (q := 58) dX9_nextRow_57 rfl ?_
          refine r_iald (q := 59) _ rfl rfl (by first | omega | assumption | decide) dX9_nextRow_58 rfl ?_
          rw [hR i (by omega)]
          refine r_icmp_ge (q := 62) 68 dX9_nextRow_59 (by decide) rfl (fun h59 => ?_) (fun h59 => ?_)
          · have h59 := nI_ge_of (by omega) (by omega) h59
            have hne : ¬ r i = r (j + 1) := fun z => by
              have := hr.2.1 i (j + 1) (by omega) hj2 z
              omega
            clear jh
            generalize j + 1 = jj at *
            have hnx := next_ok hr (i := i) (j := jj) (by omega) hj2 hd (by omega) hj3
            refine r_aload_0 (q := 69) dX9_nextRow_68 rfl ?_
            refine r_getR (k := 27) (q := 72) f_RX9_74_8 rfl rfl dX9_nextRow_69 rfl ?_
            refine r_iload_1 (q := 73) dX9_nextRow_72 rfl ?_
            refine r_iald (q := 74) _ rfl rfl (by first | omega | assumption | decide) dX9_nextRow_73 rfl ?_
            rw [hR i (by omega)]
            refine r_istore_3 (q := 75) (by decide) dX9_nextRow_74 rfl ?_
            refine r_aload_0 (q := 76) dX9_nextRow_75 rfl ?_
            refine r_getR (k := 27) (q := 79) f_RX9_74_8 rfl rfl dX9_nextRow_76 rfl ?_
            refine r_iload_1 (q := 80) dX9_nextRow_79 rfl ?_
            refine r_aload_0 (q := 81) dX9_nextRow_80 rfl ?_
            refine r_getR (k := 27) (q := 84) f_RX9_74_8 rfl rfl dX9_nextRow_81 rfl ?_
            refine r_iload_2 (q := 85) dX9_nextRow_84 rfl ?_
            refine r_iald (q := 86) _ rfl rfl (by first | omega | assumption | decide) dX9_nextRow_85 rfl ?_
            rw [hR jj hj2]
            refine r_iast (q := 87) i rfl rfl (by first | omega | assumption | decide) dX9_nextRow_86 rfl ?_
            refine r_aload_0 (q := 88) dX9_nextRow_87 rfl ?_
            refine r_getR (k := 27) (q := 91) f_RX9_74_8 rfl rfl dX9_nextRow_88 rfl ?_
            refine r_iload_2 (q := 92) dX9_nextRow_91 rfl ?_
            refine r_iload_3 (q := 93) dX9_nextRow_92 rfl ?_
            refine r_iast (q := 94) jj rfl rfl (by first | omega | assumption | decide) dX9_nextRow_93 rfl ?_
            refine r_iload_1 (q := 95) dX9_nextRow_94 rfl ?_
            refine r_iconst (q := 96) 1 (by decide) dX9_nextRow_95 rfl ?_
            refine r_iadd (q := 97) dX9_nextRow_96 rfl ?_
            rw [show nI i + 1 = nI (i + 1) from nI_1 i]
            refine r_istore_4 (q := 99) (by decide) dX9_nextRow_97 rfl ?_
            refine r_aload_0 (q := 100) dX9_nextRow_99 rfl ?_
            refine r_getI (k := 23) (q := 103) f_RX9_161_8 rfl rfl dX9_nextRow_100 rfl ?_
            generalize hm1 : mset (mset mem 56 0 i (nI (r jj))) 56 0 jj (nI (r i)) = m1
            have hF1 : Fr [56] mem m1 := by rw [← hm1]; exact (Fr.rf.mset (by simp)).mset (by simp)
            have hR1 : Rw m (fun x => r (swF i jj x)) m1 := by
              intro x hx
              show m1 56 0 x = nI (r (swF i jj x))
              rw [← hm1, mset_self, mset_self]
              unfold upd
              by_cases a : x = jj
              · subst a; rw [if_pos rfl, swF_j (by omega)]
              · rw [if_neg a]
                by_cases b : x = i
                · subst b; rw [if_pos rfl, swF_i]
                · rw [if_neg b, swF_o b a]; exact hR x hx
            clear hm1
            rw [show m1 36 0 23 = nI m by rw [hF1 36 (by decide)]; exact hu]
            refine r_iconst (q := 104) 1 (by decide) dX9_nextRow_103 rfl ?_
            refine r_isub (q := 105) dX9_nextRow_104 rfl ?_
            rw [show nI m - 1 = nI (m - 1) from pk_sub (b := 1) (by omega)]
            refine r_istore_5 (q := 107) (by decide) dX9_nextRow_105 rfl ?_
            suffices H3 : ∀ (k a b : Nat) (mm : Mem) (o3 : Option PV), b < k → a + b = i + m → i < a → b < m → i ≤ b → Fr [56] mem mm → Rw m (fun x => r (swF i jj (if (i < x ∧ x < a) ∨ b < x then m + i - x else x))) mm → Wp E (xm E d mX9_nextRow Q) mX9_nextRow 107 [some (pR 36 0), some (pI (nI i)), some (pI (nI jj)), o3, some (pI (nI a)), some (pI (nI b))] [] mm from H3 m (i + 1) (m - 1) m1 _ (by omega) (by omega) (by omega) (by omega) (by omega) hF1 (fun x hx => by
              show m1 56 0 x = nI (r (swF i jj (if (i < x ∧ x < i + 1) ∨ m - 1 < x then m + i - x else x)))
              rw [if_neg (by omega)]; exact hR1 x hx)
            intro k
            induction k with
            | zero => intro a b _ _ h; omega
            | succ k kh =>
              intro a b mm o3 hk hab ha hb hib hF hRR
              refine r_iload_4 (q := 109) dX9_nextRow_107 rfl ?_
              refine r_iload_5 (q := 111) dX9_nextRow_109 rfl ?_
              refine r_icmp_ge (q := 114) 153 dX9_nextRow_111 (by decide) rfl (fun h111 => ?_) (fun h111 => ?_)
              · have h111 := nI_ge_of (by omega) (by omega) h111
                refine r_iconst (q := 154) 1 (by decide) dX9_nextRow_153 rfl ?_
                refine r_zret (by first | exact Or.inl rfl | exact Or.inr rfl | assumption) rfl dX9_nextRow_154 (?_)
                refine hQ1 mm (nxF m r i jj) hF hnx.1 (fun x hx => ?_) hnx.2.1 hnx.2.2
                rw [hRR x hx]
                show nI (r (swF i jj (if (i < x ∧ x < a) ∨ b < x then m + i - x else x))) = nI (r (swF i jj (rvF m i x)))
                by_cases z : x ≤ i
                · rw [rvF_le z, if_neg (by omega)]
                · rw [rvF_gt z]
                  by_cases w : (i < x ∧ x < a) ∨ b < x
                  · rw [if_pos w]
                  · rw [if_neg w, show m + i - x = x by omega]
              · have h111 : a < b := nI_lt_of (by omega) h111
                have ea : mm 56 0 a = nI (r (swF i jj a)) := by
                  rw [hRR a (by omega)]
                  show nI (r (swF i jj (if (i < a ∧ a < a) ∨ b < a then m + i - a else a))) = _
                  rw [if_neg (by omega)]
                have eb : mm 56 0 b = nI (r (swF i jj b)) := by
                  rw [hRR b (by omega)]
                  show nI (r (swF i jj (if (i < b ∧ b < a) ∨ b < b then m + i - b else b))) = _
                  rw [if_neg (by omega)]
                refine r_aload_0 (q := 115) dX9_nextRow_114 rfl ?_
                refine r_getR (k := 27) (q := 118) f_RX9_74_8 rfl rfl dX9_nextRow_115 rfl ?_
                refine r_iload_4 (q := 120) dX9_nextRow_118 rfl ?_
                refine r_iald (q := 121) _ rfl rfl (by first | omega | assumption | decide) dX9_nextRow_120 rfl ?_
                rw [ea]
                refine r_istore_3 (q := 122) (by decide) dX9_nextRow_121 rfl ?_
                refine r_aload_0 (q := 123) dX9_nextRow_122 rfl ?_
                refine r_getR (k := 27) (q := 126) f_RX9_74_8 rfl rfl dX9_nextRow_123 rfl ?_
                refine r_iload_4 (q := 128) dX9_nextRow_126 rfl ?_
                refine r_aload_0 (q := 129) dX9_nextRow_128 rfl ?_
                refine r_getR (k := 27) (q := 132) f_RX9_74_8 rfl rfl dX9_nextRow_129 rfl ?_
                refine r_iload_5 (q := 134) dX9_nextRow_132 rfl ?_
                refine r_iald (q := 135) _ rfl rfl (by first | omega | assumption | decide) dX9_nextRow_134 rfl ?_
                rw [eb]
                refine r_iast (q := 136) a rfl rfl (by first | omega | assumption | decide) dX9_nextRow_135 rfl ?_
                refine r_aload_0 (q := 137) dX9_nextRow_136 rfl ?_
                refine r_getR (k := 27) (q := 140) f_RX9_74_8 rfl rfl dX9_nextRow_137 rfl ?_
                refine r_iload_5 (q := 142) dX9_nextRow_140 rfl ?_
                refine r_iload_3 (q := 143) dX9_nextRow_142 rfl ?_
                refine r_iast (q := 144) b rfl rfl (by first | omega | assumption | decide) dX9_nextRow_143 rfl ?_
                refine r_iinc_4 (q := 147) _ (nI_inc _) (by decide) dX9_nextRow_144 rfl ?_
                refine r_iinc_5 (q := 150) (nI (b - 1)) (by rw [dec1]; exact pk_sub (b := 1) (by omega)) (by decide) dX9_nextRow_147 rfl ?_
                refine r_goto 107 dX9_nextRow_150 (by decide) ?_
                refine kh (a + 1) (b - 1) _ _ (by omega) (by omega) (by omega) (by omega) (by omega) ((hF.mset (by simp)).mset (by simp)) (fun x hx => ?_)
                show mset (mset mm 56 0 a (nI (r (swF i jj b)))) 56 0 b (nI (r (swF i jj a))) 56 0 x = nI (r (swF i jj (if (i < x ∧ x < a + 1) ∨ b - 1 < x then m + i - x else x)))
                rw [mset_self, mset_self]
                unfold upd
                by_cases z : x = b
                · rw [if_pos z, if_pos (by omega), show m + i - x = a by omega]
                · rw [if_neg z]
                  by_cases w : x = a
                  · rw [if_pos w, if_pos (by omega), show m + i - x = b by omega]
                  · rw [if_neg w, hRR x hx]
                    show nI (r (swF i jj (if (i < x ∧ x < a) ∨ b < x then m + i - x else x))) = _
                    by_cases v : (i < x ∧ x < a) ∨ b < x
                    · rw [if_pos v, if_pos (by omega)]
                    · rw [if_neg v, if_neg (by omega)]
          · have h59 : r (j + 1) < r i := nI_lt_of (by omega) h59
            have hji : ¬ j + 1 = i + 1 := fun z => by
              rw [z] at h59
              omega
            refine r_iinc_2 (q := 65) (nI j) (by rw [dec1]; exact nI_pred j) (by decide) dX9_nextRow_62 rfl ?_
            refine r_goto 47 dX9_nextRow_65 (by decide) ?_
            refine jh (by omega) (by omega) (fun y h3 h4 => ?_)
            by_cases z : y = j + 1
            · rw [z]; exact h59
            · exact hj3 y (by omega) h4
      · exact absurd (nI_pos' (show i < 2 ^ 31 by omega)) h35
    suffices H1 : ∀ (i : Nat), i + 1 < m → dsc m (i + 1) r → Wp E (xm E d mX9_nextRow Q) mX9_nextRow 7 [some (pR 36 0), some (pI (nI i)), none, none, none, none] [] mem from H1 (m - 2) (by omega) (fun x y h3 h4 h5 => by omega)
    intro i
    induction i with
    | zero =>
      intro hi hd
      have c1 := hrl 0 (by omega)
      have c2 := hrl 1 (by omega)
      refine r_iload_1 (q := 8) dX9_nextRow_7 rfl ?_
      refine r_if_lt (q := 11) 34 dX9_nextRow_8 (by decide) rfl (fun h8 => ?_) (fun h8 => ?_)
      · exact absurd h8 (by decide)
      · refine r_aload_0 (q := 12) dX9_nextRow_11 rfl ?_
        refine r_getR (k := 27) (q := 15) f_RX9_74_8 rfl rfl dX9_nextRow_12 rfl ?_
        refine r_iload_1 (q := 16) dX9_nextRow_15 rfl ?_
        refine r_iald (q := 17) _ rfl rfl (by first | omega | assumption | decide) dX9_nextRow_16 rfl ?_
        rw [hR 0 (by omega)]
        refine r_aload_0 (q := 18) dX9_nextRow_17 rfl ?_
        refine r_getR (k := 27) (q := 21) f_RX9_74_8 rfl rfl dX9_nextRow_18 rfl ?_
        refine r_iload_1 (q := 22) dX9_nextRow_21 rfl ?_
        refine r_iconst (q := 23) 1 (by decide) dX9_nextRow_22 rfl ?_
        refine r_iadd (q := 24) dX9_nextRow_23 rfl ?_
        rw [show nI 0 + 1 = nI 1 from nI_1 0]
        refine r_iald (q := 25) _ rfl rfl (by first | omega | assumption | decide) dX9_nextRow_24 rfl ?_
        rw [hR 1 (by omega)]
        refine r_icmp_le (q := 28) 34 dX9_nextRow_25 (by decide) rfl (fun h25 => ?_) (fun h25 => ?_)
        · have h25 := nI_ge_of (by omega) (by omega) h25
          have hne : ¬ r 0 = r 1 := fun z => by
            have := hr.2.1 0 1 (by omega) (by omega) z
            omega
          exact found 0 hi (by show r 0 < r 1; omega) hd
        · have h25 := nI_lt_of (by omega) h25
          refine r_iinc_1 (q := 31) (-1) (by decide) (by decide) dX9_nextRow_28 rfl ?_
          refine r_goto 7 dX9_nextRow_31 (by decide) ?_
          have hd0 : dsc m 0 r := fun x y _ h4 h5 => by
            by_cases z : x = 0
            · subst z
              by_cases w : y = 1
              · rw [w]; exact h25
              · have := hd 1 y (Nat.le_refl _) (by omega) h5
                omega
            · exact hd x y (by omega) h4 h5
          refine r_iload_1 (q := 8) dX9_nextRow_7 rfl ?_
          refine r_if_lt (q := 11) 34 dX9_nextRow_8 (by decide) rfl (fun h8b => ?_) (fun h8b => ?_)
          · exact neg _ (by decide) hd0
          · exact absurd (show (-1 : Int32) < 0 by decide) h8b
    | succ i ih =>
      intro hi hd
      have c1 := hrl (i + 1) (by omega)
      have c2 := hrl (i + 2) (by omega)
      refine r_iload_1 (q := 8) dX9_nextRow_7 rfl ?_
      refine r_if_lt (q := 11) 34 dX9_nextRow_8 (by decide) rfl (fun h8 => ?_) (fun h8 => ?_)
      · exact absurd (nI_pos' (show i + 1 < 2 ^ 31 by omega)) (Int32.not_le.mpr h8)
      · refine r_aload_0 (q := 12) dX9_nextRow_11 rfl ?_
        refine r_getR (k := 27) (q := 15) f_RX9_74_8 rfl rfl dX9_nextRow_12 rfl ?_
        refine r_iload_1 (q := 16) dX9_nextRow_15 rfl ?_
        refine r_iald (q := 17) _ rfl rfl (by first | omega | assumption | decide) dX9_nextRow_16 rfl ?_
        rw [hR (i + 1) (by omega)]
        refine r_aload_0 (q := 18) dX9_nextRow_17 rfl ?_
        refine r_getR (k := 27) (q := 21) f_RX9_74_8 rfl rfl dX9_nextRow_18 rfl ?_
        refine r_iload_1 (q := 22) dX9_nextRow_21 rfl ?_
        refine r_iconst (q := 23) 1 (by decide) dX9_nextRow_22 rfl ?_
        refine r_iadd (q := 24) dX9_nextRow_23 rfl ?_
        rw [show nI (i + 1) + 1 = nI (i + 2) from nI_1 _]
        refine r_iald (q := 25) _ rfl rfl (by first | omega | assumption | decide) dX9_nextRow_24 rfl ?_
        rw [hR (i + 2) (by omega)]
        refine r_icmp_le (q := 28) 34 dX9_nextRow_25 (by decide) rfl (fun h25 => ?_) (fun h25 => ?_)
        · have h25 := nI_ge_of (by omega) (by omega) h25
          have hne : ¬ r (i + 1) = r (i + 2) := fun z => by
            have := hr.2.1 (i + 1) (i + 2) (by omega) (by omega) z
            omega
          exact found (i + 1) hi (by show r (i + 1) < r (i + 2); omega) hd
        · have h25 := nI_lt_of (by omega) h25
          refine r_iinc_1 (q := 31) (nI i) (by rw [dec1]; exact nI_pred i) (by decide) dX9_nextRow_28 rfl ?_
          refine r_goto 7 dX9_nextRow_31 (by decide) ?_
          refine ih (by omega) (fun x y h3 h4 h5 => ?_)
          by_cases z : x = i + 1
          · subst z
            by_cases w : y = i + 2
            · rw [w]; exact h25
            · have := hd (i + 2) y (Nat.le_refl _) (by omega) h5
              omega
          · exact hd x y (by omega) h4 h5
end NR
