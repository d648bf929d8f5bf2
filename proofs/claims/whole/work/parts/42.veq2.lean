/-! BOTH SIDES: versions -/
/-- spreads, questions, first, second: nearer, fewer, larger, larger -/
def vle (x y : B4) : Prop := x.1 < y.1 ∨ (x.1 = y.1 ∧ (x.2.1 < y.2.1 ∨ (x.2.1 = y.2.1 ∧ (y.2.2.1 < x.2.2.1 ∨ (y.2.2.1 = x.2.2.1 ∧ y.2.2.2 ≤ x.2.2.2)))))
theorem vle_rf (x : B4) : vle x x := Or.inr ⟨rfl, Or.inr ⟨rfl, Or.inr ⟨rfl, Nat.le_refl _⟩⟩⟩
theorem vle_trans {x y z : B4} (h1 : vle x y) (h2 : vle y z) : vle x z := by
  unfold vle at *
  omega
theorem vle_tot {x y : B4} (h : ¬ vle x y) : vle y x := by
  unfold vle at *
  omega
theorem vle_anti {x y : B4} (h1 : vle x y) (h2 : vle y x) : x.2.2.1 = y.2.2.1 ∧ x.2.2.2 = y.2.2.2 := by
  unfold vle at *
  omega
def okP (k : K21) (D : Nat) (i j : Nat) : Prop := ¬ k.1 i = 0 ∧ ¬ k.1 j = 0 ∧ alikeB k D i j = true
def valP (k : K21) (i j : Nat) : B4 := (k.2.2.2.1 i + k.2.2.2.1 j, popN (k.1 i ||| k.1 j), k.1 i, k.1 j)
def v0 : B4 := (1000000, 0, 0, 0)
/-- the best of the pairs that C holds of -/
def Inv4 (k : K21) (D : Nat) (C : Nat → Nat → Prop) (b : B4) : Prop := (b = v0 ∧ ∀ i j, C i j → ¬ okP k D i j) ∨ (∃ i j, C i j ∧ okP k D i j ∧ b = valP k i j ∧ ∀ i' j', C i' j' → okP k D i' j' → vle (valP k i j) (valP k i' j'))
theorem Inv4.congr {k : K21} {D : Nat} {C C' : Nat → Nat → Prop} {b : B4} (h : Inv4 k D C b) (e : ∀ i j, C i j ↔ C' i j) : Inv4 k D C' b := by
  rcases h with ⟨h1, h2⟩ | ⟨i, j, h1, h2, h3, h4⟩
  · exact Or.inl ⟨h1, fun i j hc => h2 i j ((e i j).mpr hc)⟩
  · exact Or.inr ⟨i, j, (e i j).mp h1, h2, h3, fun i' j' hc => h4 i' j' ((e i' j').mpr hc)⟩
theorem Inv4.skip {k : K21} {D : Nat} {C C' : Nat → Nat → Prop} {b : B4} (h : Inv4 k D C b) (h1 : ∀ i j, C i j → C' i j) (h2 : ∀ i j, C' i j → okP k D i j → C i j) : Inv4 k D C' b := by
  rcases h with ⟨a1, a2⟩ | ⟨i, j, a1, a2, a3, a4⟩
  · exact Or.inl ⟨a1, fun i j hc ho => a2 i j (h2 i j hc ho) ho⟩
  · exact Or.inr ⟨i, j, h1 i j a1, a2, a3, fun i' j' hc ho => a4 i' j' (h2 i' j' hc ho) ho⟩
theorem better_iff {k : K21} {i j : Nat} {b : B4} (h : ¬ vle b (valP k i j)) : betterB k i j b = true ∧ k.2.2.2.1 i + k.2.2.2.1 j ≤ b.1 := by
  unfold vle valP at h
  unfold betterB
  refine ⟨?_, by omega⟩
  by_cases e1 : k.2.2.2.1 i + k.2.2.2.1 j = b.1
  · rw [if_pos e1]
    by_cases e2 : popN (k.1 i ||| k.1 j) = b.2.1
    · rw [if_pos e2]
      by_cases e3 : k.1 i = b.2.2.1
      · rw [if_pos e3]; exact decide_eq_true (by simp only at h; omega)
      · rw [if_neg e3]; exact decide_eq_true (by simp only at h; omega)
    · rw [if_neg e2]; exact decide_eq_true (by simp only at h; omega)
  · rw [if_neg e1]; exact decide_eq_true (by simp only at h; omega)
theorem better_vle {k : K21} {i j : Nat} {b : B4} (h : betterB k i j b = true) : vle (valP k i j) b := by
  unfold betterB at h
  unfold vle valP
  simp only
  by_cases e1 : k.2.2.2.1 i + k.2.2.2.1 j = b.1
  · rw [if_pos e1] at h
    by_cases e2 : popN (k.1 i ||| k.1 j) = b.2.1
    · rw [if_pos e2] at h
      by_cases e3 : k.1 i = b.2.2.1
      · rw [if_pos e3] at h; have := of_decide_eq_true h; omega
      · rw [if_neg e3] at h; have := of_decide_eq_true h; omega
    · rw [if_neg e2] at h; have := of_decide_eq_true h; omega
  · rw [if_neg e1] at h; have := of_decide_eq_true h; omega
theorem upd_ok {k : K21} {D i j : Nat} {C : Nat → Nat → Prop} {b : B4} (hi : ¬ k.1 i = 0) (hsp : ¬ k.1 j = 0 → k.2.2.2.1 i + k.2.2.2.1 j < 1000000) (h : Inv4 k D C b) : Inv4 k D (fun i' j' => C i' j' ∨ (i' = i ∧ j' = j)) (upd1 k D i j b) := by
  unfold upd1
  by_cases hc : ((¬ k.1 j = 0 ∧ k.2.2.2.1 i + k.2.2.2.1 j ≤ b.1) ∧ alikeB k D i j = true) ∧ betterB k i j b = true
  · rw [if_pos hc]
    have ho : okP k D i j := ⟨hi, hc.1.1.1, hc.1.2⟩
    refine Or.inr ⟨i, j, Or.inr ⟨rfl, rfl⟩, ho, rfl, fun i' j' hC ho' => ?_⟩
    rcases hC with z | ⟨z1, z2⟩
    · have hb := better_vle hc.2
      rcases h with ⟨a1, a2⟩ | ⟨i1, j1, a1, a2, a3, a4⟩
      · exact absurd ho' (a2 i' j' z)
      · rw [a3] at hb
        exact vle_trans hb (a4 i' j' z ho')
    · rw [z1, z2]; exact vle_rf _
  · rw [if_neg hc]
    rcases h with ⟨a1, a2⟩ | ⟨i1, j1, a1, a2, a3, a4⟩
    · refine Or.inl ⟨a1, fun i' j' hC ho' => ?_⟩
      rcases hC with z | ⟨z1, z2⟩
      · exact a2 i' j' z ho'
      · subst z1; subst z2
        have hlt := hsp ho'.2.1
        have hb := better_iff (k := k) (i := i') (j := j') (b := b) (fun w => by
          rw [a1] at w
          unfold vle valP v0 at w
          simp only at w
          omega)
        exact hc ⟨⟨⟨ho'.2.1, hb.2⟩, ho'.2.2⟩, hb.1⟩
    · refine Or.inr ⟨i1, j1, Or.inl a1, a2, a3, fun i' j' hC ho' => ?_⟩
      rcases hC with z | ⟨z1, z2⟩
      · exact a4 i' j' z ho'
      · subst z1; subst z2
        refine Classical.byContradiction (fun w => ?_)
        rw [← a3] at w
        have hb := better_iff w
        exact hc ⟨⟨⟨ho'.2.1, hb.2⟩, ho'.2.2⟩, hb.1⟩
theorem pair_ok {k : K21} {D i free : Nat} (hi : ¬ k.1 i = 0) (hsp : ∀ j, j ≤ free → ¬ k.1 j = 0 → k.2.2.2.1 i + k.2.2.2.1 j < 1000000) : ∀ (f j : Nat) (C : Nat → Nat → Prop) (b : B4), j < f → subB j free → Inv4 k D C b → Inv4 k D (fun i' j' => C i' j' ∨ (i' = i ∧ subB j' free ∧ ¬ j' = 0 ∧ j' ≤ j)) (pairP k D i free f j b)
  | 0, j, C, b, hf, _, _ => absurd hf (Nat.not_lt_zero j)
  | f + 1, j, C, b, hf, hj, h => by
    unfold pairP
    by_cases h0 : j = 0
    · rw [if_pos h0]
      refine h.congr (fun i' j' => ⟨Or.inl, fun z => ?_⟩)
      rcases z with z | z
      · exact z
      · omega
    · rw [if_neg h0]
      have hle : (j - 1) &&& free ≤ j - 1 := Nat.and_le_left
      have h1 := upd_ok (D := D) hi (hsp j (subB_le hj)) h
      have h2 := pair_ok (D := D) hi hsp f ((j - 1) &&& free) _ _ (by omega) sub_and h1
      refine h2.congr (fun i' j' => ?_)
      constructor
      · rintro ((z | ⟨z1, z2⟩) | ⟨z1, z2, z3, z4⟩)
        · exact Or.inl z
        · subst z2; exact Or.inr ⟨z1, hj, h0, Nat.le_refl _⟩
        · exact Or.inr ⟨z1, z2, z3, by omega⟩
      · rintro (z | ⟨z1, z2, z3, z4⟩)
        · exact Or.inl (Or.inl z)
        · by_cases e : j' = j
          · exact Or.inl (Or.inr ⟨z1, e⟩)
          · exact Or.inr ⟨z1, z2, z3, sub_next hj z2 h0 (by omega)⟩
theorem all_ok {k : K21} {D al : Nat} (hsp : ∀ i j, i ≤ al → j ≤ al → ¬ k.1 i = 0 → ¬ k.1 j = 0 → k.2.2.2.1 i + k.2.2.2.1 j < 1000000) : ∀ n, n ≤ al → Inv4 k D (fun i j => 1 ≤ i ∧ i ≤ n ∧ ¬ k.1 i = 0 ∧ subB j (freeB al i) ∧ ¬ j = 0) (allP k D al n v0)
  | 0, _ => Or.inl ⟨rfl, fun i j h => by omega⟩
  | n + 1, hn => by
    have ih := all_ok (D := D) hsp n (by omega)
    show Inv4 k D _ (if k.1 (n + 1) = 0 then allP k D al n v0 else pairP k D (n + 1) (freeB al (n + 1)) (al + 1) (freeB al (n + 1)) (allP k D al n v0))
    have hfl : freeB al (n + 1) ≤ al := subB_le (fun y hy => by
      unfold freeB at hy
      rw [andn_tb, andn_tb, Bool.and_eq_true, Bool.and_eq_true] at hy
      exact hy.1.1)
    by_cases h0 : k.1 (n + 1) = 0
    · rw [if_pos h0]
      refine ih.congr (fun i j => ?_)
      constructor
      · rintro ⟨a, b, c⟩; exact ⟨a, by omega, c⟩
      · rintro ⟨a, b, c⟩
        refine ⟨a, ?_, c⟩
        rcases Nat.lt_or_eq_of_le b with z | z
        · omega
        · rw [z] at c; exact absurd h0 c.1
    · rw [if_neg h0]
      have h2 := pair_ok (D := D) (free := freeB al (n + 1)) h0 (fun j hj hk => hsp (n + 1) j hn (by omega) h0 hk) (al + 1) (freeB al (n + 1)) _ _ (by omega) (fun _ h => h) ih
      refine h2.congr (fun i j => ?_)
      constructor
      · rintro (⟨a, b, c⟩ | ⟨a, b, c, -⟩)
        · exact ⟨a, by omega, c⟩
        · subst a; exact ⟨by omega, Nat.le_refl _, h0, b, c⟩
      · rintro ⟨a, b, c, d, e⟩
        rcases Nat.lt_or_eq_of_le b with z | z
        · exact Or.inl ⟨a, by omega, c, d, e⟩
        · subst z; exact Or.inr ⟨rfl, d, e, subB_le d⟩
/-- two versions -/
def PPS (B : BD) (L : LD) (D a b : Nat) : Prop := (papS B L a = true ∧ a < 2 ^ bN B ∧ ¬ a = 0) ∧ (papS B L b = true ∧ b < 2 ^ bN B ∧ ¬ b = 0) ∧ a &&& b = 0 ∧ aheadP a b ∧ farN (sumN B a 2) (sumN B b 2) ≤ D ∧ farN (sumN B a 1) (sumN B b 1) ≤ D
def valS (B : BD) (L : LD) (a b : Nat) : B4 := (sprS B L a + sprS B L b, popN (a ||| b), a, b)
def IsVer (B : BD) (L : LD) (D : Nat) (f s : Nat) : Prop := (f = 0 ∧ s = 0 ∧ ∀ a b, ¬ PPS B L D a b) ∨ (PPS B L D f s ∧ ∀ a b, PPS B L D a b → vle (valS B L f s) (valS B L a b))
theorem ver_uniq {B : BD} {L : LD} {D f s f' s' : Nat} (h1 : IsVer B L D f s) (h2 : IsVer B L D f' s') : f = f' ∧ s = s' := by
  rcases h1 with ⟨a1, a2, a3⟩ | ⟨a1, a2⟩ <;> rcases h2 with ⟨b1, b2, b3⟩ | ⟨b1, b2⟩
  · omega
  · exact absurd b1 (a3 _ _)
  · exact absurd a1 (b3 _ _)
  · exact vle_anti (a2 _ _ b1) (b2 _ _ a1)
theorem uU_zero {B : BD} {t : Nat} (ht : t < 2 ^ (unitsB B).length) (h : ¬ t = 0) : ¬ uU B t = 0 := by
  intro z
  obtain ⟨x, hx⟩ := ne_zero_tb h
  have hxl : x < (unitsB B).length := by
    rcases Nat.lt_or_ge x (unitsB B).length with w | w
    · exact w
    · rw [tb_hi ht w] at hx; cases hx
  obtain ⟨q, hq⟩ := units_low hxl
  have := (uU_tb (B := B) (tk := t) (q := q)).mpr ⟨x, hxl, hx, (lowQ_iff.mp hq).1⟩
  rw [z, Nat.zero_testBit] at this
  cases this
theorem uU_0 (B : BD) : uU B 0 = 0 := tb_ext (fun q => by
  rw [Nat.zero_testBit]
  cases h : (uU B 0).testBit q with
  | false => rfl
  | true =>
    obtain ⟨i, -, h2, -⟩ := uU_tb.mp h
    rw [Nat.zero_testBit] at h2
    cases h2)
theorem ver_class {B : BD} {L : LD} (hW : WFB B) (hWL : WFL L) (hh : handB B ≤ 10) {k0 : K21} (h0 : k0.1 = fun _ => 0) (D : Nat) : IsVer B L D (verR B L (unitsB B) D k0).2.2.1 (verR B L (unitsB B) D k0).2.2.2 := by
  have hlen : (unitsB B).length ≤ 10 := Nat.le_trans (unitsT_hand B (Nat.le_refl _)) hh
  have hp10 : 2 ^ (unitsB B).length ≤ 2 ^ 10 := Nat.pow_le_pow_right (by decide) hlen
  have hp0 : 0 < 2 ^ (unitsB B).length := Nat.pow_pos (by decide)
  have tn : ∀ t, ¬ (verK B L (unitsB B) k0).1 t = 0 → _ := fun t h => tab_ne (B := B) (L := L) h0 h
  have ti : ∀ s, papS B L s = true → s < 2 ^ bN B → _ := fun s h1 h2 => tab_in (k0 := k0) h1 h2
  have hR : verR B L (unitsB B) D k0 = allP (verK B L (unitsB B) k0) D (2 ^ (unitsB B).length - 1) (2 ^ (unitsB B).length - 1) v0 := rfl
  rw [hR]
  generalize verK B L (unitsB B) k0 = k at tn ti
  have ev : ∀ t, ¬ k.1 t = 0 → k.1 t = uU B t ∧ k.2.1 t = sumN B (uU B t) 1 ∧ k.2.2.1 t = sumN B (uU B t) 2 ∧ k.2.2.2.1 t = sprS B L (uU B t) := fun t ht => by
    have := (tn t ht).2.2.2
    unfold valK valT at this
    exact ⟨congrArg (fun x => x.1) this, congrArg (fun x => x.2.1) this, congrArg (fun x => x.2.2.1) this, congrArg (fun x => x.2.2.2) this⟩
  have hsp : ∀ i j, i ≤ 2 ^ (unitsB B).length - 1 → j ≤ 2 ^ (unitsB B).length - 1 → ¬ k.1 i = 0 → ¬ k.1 j = 0 → k.2.2.2.1 i + k.2.2.2.1 j < 1000000 := by
    intro i j _ _ hi hj
    rw [(ev i hi).2.2.2, (ev j hj).2.2.2]
    have := sprS_le (B := B) (L := L) hW hWL (uU B i)
    have := sprS_le (B := B) (L := L) hW hWL (uU B j)
    omega
  have hall := all_ok (D := D) hsp _ (Nat.le_refl _)
  generalize allP k D (2 ^ (unitsB B).length - 1) (2 ^ (unitsB B).length - 1) v0 = r at hall
  have hal : ∀ j, subB j (2 ^ (unitsB B).length - 1) ↔ j < 2 ^ (unitsB B).length := fun j => by
    constructor
    · intro h
      have := subB_le h
      omega
    · intro h y hy
      rw [Nat.testBit_two_pow_sub_one]
      rcases Nat.lt_or_ge y (unitsB B).length with w | w
      · exact decide_eq_true w
      · rw [tb_hi h w] at hy; cases hy
  -- from places to sets
  have to : ∀ i j, 1 ≤ i → subB j (freeB (2 ^ (unitsB B).length - 1) i) → ¬ j = 0 → okP k D i j → PPS B L D (uU B i) (uU B j) ∧ valP k i j = valS B L (uU B i) (uU B j) := by
    rintro i j hi hj hj0 ⟨o1, o2, o3⟩
    obtain ⟨a1, a2, a3, -⟩ := tn i o1
    obtain ⟨b1, b2, b3, -⟩ := tn j o2
    obtain ⟨c1, c2, c3, c4⟩ := ev i o1
    obtain ⟨d1, d2, d3, d4⟩ := ev j o2
    have hi24 : i < 2 ^ 24 := by omega
    obtain ⟨-, f2, f3⟩ := (free_iff hi24 (by omega)).mp hj
    have f3 : aheadP i j := by
      rcases f3 with z | z
      · exact absurd z hj0
      · exact z
    have o3 := of_decide_eq_true o3
    rw [c2, c3, d2, d3] at o3
    refine ⟨⟨⟨a2, a3, uU_zero a1 (by omega)⟩, ⟨b2, b3, uU_zero b1 hj0⟩, uU_and f2, uU_ahead a1 f3, ?_, ?_⟩, ?_⟩
    · unfold farN; omega
    · unfold farN; omega
    · unfold valP valS
      rw [c1, d1, c4, d4]
  -- from sets to places
  have fro : ∀ a b, PPS B L D a b → ∃ i j, 1 ≤ i ∧ i ≤ 2 ^ (unitsB B).length - 1 ∧ ¬ k.1 i = 0 ∧ subB j (freeB (2 ^ (unitsB B).length - 1) i) ∧ ¬ j = 0 ∧ okP k D i j ∧ uU B i = a ∧ uU B j = b := by
    rintro a b ⟨⟨p1, p2, p3⟩, ⟨q1, q2, q3⟩, pab, pah, pf2, pf1⟩
    obtain ⟨i, i1, i2, i3⟩ := ti a p1 p2
    obtain ⟨j, j1, j2, j3⟩ := ti b q1 q2
    have hi0 : ¬ i = 0 := fun z => p3 (by rw [← i2, z]; exact uU_0 B)
    have hj0 : ¬ j = 0 := fun z => q3 (by rw [← j2, z]; exact uU_0 B)
    have ki : k.1 i = a := congrArg (fun x => x.1) i3
    have kj : k.1 j = b := congrArg (fun x => x.1) j3
    have ki1 : k.2.1 i = sumN B a 1 := congrArg (fun x => x.2.1) i3
    have kj1 : k.2.1 j = sumN B b 1 := congrArg (fun x => x.2.1) j3
    have ki2 : k.2.2.1 i = sumN B a 2 := congrArg (fun x => x.2.2.1) i3
    have kj2 : k.2.2.1 j = sumN B b 2 := congrArg (fun x => x.2.2.1) j3
    have hij : i &&& j = 0 := uU_apart i1 (by rw [i2, j2]; exact pab)
    have hne : ¬ i = j := fun z => by
      subst z
      rw [Nat.and_self] at hij
      exact hi0 hij
    have hah : aheadP i j := by
      rcases ahead_tot hne with z | z
      · exact z
      · have := uU_ahead (B := B) j1 z
        rw [i2, j2] at this
        exact absurd this (fun w => ahead_asym pah w)
    refine ⟨i, j, by omega, by omega, by rw [ki]; exact p3, (free_iff (by omega) hi0).mpr ⟨(hal j).mpr j1, hij, Or.inr hah⟩, hj0, ⟨by rw [ki]; exact p3, by rw [kj]; exact q3, ?_⟩, i2, j2⟩
    unfold alikeB
    rw [ki1, kj1, ki2, kj2]
    unfold farN at pf1 pf2
    exact decide_eq_true (by omega)
  rcases hall with ⟨r1, r2⟩ | ⟨i, j, ⟨c1, c2, c3, c4, c5⟩, o, r1, r2⟩
  · refine Or.inl ⟨by rw [r1]; rfl, by rw [r1]; rfl, fun a b hp => ?_⟩
    obtain ⟨i, j, g1, g2, g3, g4, g5, g6, -⟩ := fro a b hp
    exact r2 i j ⟨g1, g2, g3, g4, g5⟩ g6
  · obtain ⟨t1, t2⟩ := to i j c1 c4 c5 o
    rw [r1, t2]
    refine Or.inr ⟨t1, fun a b hp => ?_⟩
    obtain ⟨i', j', g1, g2, g3, g4, g5, g6, g7, g8⟩ := fro a b hp
    have := r2 i' j' ⟨g1, g2, g3, g4, g5⟩ g6
    rw [t2, (to i' j' g1 g4 g5 g6).2, g7, g8] at this
    exact this
/-! the reference's -/
theorem top_diff : ∀ t t' : Nat, t < t' → ∃ x, t.testBit x = false ∧ t'.testBit x = true ∧ ∀ y, x < y → t.testBit y = t'.testBit y := by
  intro t
  induction t using Nat.strongRecOn with
  | _ t ih =>
    intro t' h
    by_cases e : t / 2 = t' / 2
    · refine ⟨0, ?_, ?_, fun y hy => ?_⟩
      · rw [Nat.testBit_zero]; exact decide_eq_false (by omega)
      · rw [Nat.testBit_zero]; exact decide_eq_true (by omega)
      · obtain ⟨z, rfl⟩ : ∃ z, y = z + 1 := ⟨y - 1, by omega⟩
        rw [Nat.testBit_succ, Nat.testBit_succ, e]
    · by_cases h0 : t = 0
      · subst h0
        have : ¬ t' = 0 := by omega
        obtain ⟨x, hx⟩ := ne_zero_tb this
        -- the highest bit of t'
        refine ⟨Nat.log2 t', by simp, ?_, fun y hy => ?_⟩
        · exact Nat.testBit_log2 this
        · rw [Nat.zero_testBit]
          exact (Nat.testBit_lt_two_pow (Nat.lt_of_lt_of_le Nat.lt_log2_self (Nat.pow_le_pow_right (by decide) hy))).symm
      · obtain ⟨x, h1, h2, h3⟩ := ih (t / 2) (by omega) (t' / 2) (by omega)
        refine ⟨x + 1, by rw [Nat.testBit_succ]; exact h1, by rw [Nat.testBit_succ]; exact h2, fun y hy => ?_⟩
        obtain ⟨z, rfl⟩ : ∃ z, y = z + 1 := ⟨y - 1, by omega⟩
        rw [Nat.testBit_succ, Nat.testBit_succ]
        exact h3 z (by omega)
theorem tb_ltd {a b x : Nat} (h1 : a.testBit x = false) (h2 : b.testBit x = true) (h3 : ∀ y, x < y → a.testBit y = b.testBit y) : a < b := by
  rcases Nat.lt_trichotomy a b with z | z | z
  · exact z
  · rw [z, h2] at h1; cases h1
  · exfalso
    obtain ⟨w, g1, g2, g3⟩ := top_diff b a z
    rcases Nat.lt_trichotomy w x with v | v | v
    · have := g3 x v; rw [h1, h2] at this; cases this
    · subst v; rw [h2] at g1; cases g1
    · have := h3 w v; rw [g1, g2] at this; cases this
theorem tol_mono {B : BD} {t t' : Nat} (ht' : t' < 2 ^ handB B) (h : t < t') : tolN B t < tolN B t' := by
  obtain ⟨x, h1, h2, h3⟩ := top_diff t t' h
  have hx : x < handB B := by
    rcases Nat.lt_or_ge x (handB B) with z | z
    · exact z
    · rw [tb_hi ht' z] at h2; cases h2
  refine tb_ltd (x := hnd B x) (by rw [tol_hq hx]; exact h1) (by rw [tol_hq hx]; exact h2) (fun j hj => ?_)
  have hi : ∀ i, i < handB B → hnd B i = j → x < i := fun i hi e => by
    rcases Nat.lt_trichotomy x i with z | z | z
    · exact z
    · subst z; omega
    · have := hnd_lt z hx; omega
  rw [Bool.eq_iff_iff, tol_tb, tol_tb]
  constructor
  · rintro ⟨i, g1, g2, g3⟩
    exact ⟨i, g1, by rw [← h3 i (hi i g1 g3)]; exact g2, g3⟩
  · rintro ⟨i, g1, g2, g3⟩
    exact ⟨i, g1, by rw [h3 i (hi i g1 g3)]; exact g2, g3⟩
theorem tol_le {B : BD} {t t' : Nat} (ht : t < 2 ^ handB B) (ht' : t' < 2 ^ handB B) : tolN B t ≤ tolN B t' ↔ t ≤ t' := by
  constructor
  · intro h
    rcases Nat.lt_or_ge t' t with z | z
    · have := tol_mono ht z; omega
    · exact z
  · intro h
    rcases Nat.lt_or_eq_of_le h with z | z
    · exact Nat.le_of_lt (tol_mono ht' z)
    · rw [z]; exact Nat.le_refl _
theorem sumf_cnt (p : Nat → Bool) : ∀ n, sumf (fun q => if p q then 1 else 0) n = cnt p n
  | 0 => rfl
  | n + 1 => by unfold sumf cnt; rw [sumf_cnt p n]
theorem sumN_pop {B : BD} (hW : WFB B) {s : Nat} (hs : s < 2 ^ bN B) : sumN B s 0 = popN s := by
  have e1 : sumN B s 0 = cnt (fun q => s.testBit q) (bN B) := sumf_cnt (fun q => s.testBit q) (bN B)
  rw [e1]
  unfold popN
  have : ∀ k, cnt (fun q => s.testBit q) (bN B + k) = cnt (fun q => s.testBit q) (bN B) := by
    intro k
    induction k with
    | zero => rfl
    | succ k ih =>
      show cnt (fun q => s.testBit q) (bN B + k) + (if s.testBit (bN B + k) then 1 else 0) = _
      rw [ih, tb_hi hs (by omega)]
      rfl
  have h24 := hW.1
  have := this (24 - bN B)
  rw [show bN B + (24 - bN B) = 24 by omega] at this
  exact this.symm
/-- the reference's best of the pairs that C holds of -/
def okM (B : BD) (L : LD) (D a b : Nat) : Prop := papS B L (tolN B a) = true ∧ mvP B L D a b = true
def valM (B : BD) (L : LD) (a b : Nat) : B4 := (sprS B L (tolN B a) + sprS B L (tolN B b), sumN B (tolN B a) 0 + sumN B (tolN B b) 0, a, b)
def InvM (B : BD) (L : LD) (D : Nat) (C : Nat → Nat → Prop) (k : K4) : Prop := (k = (0, 0, 0, 0) ∧ ∀ a b, C a b → ¬ okM B L D a b) ∨ (0 < k.1 ∧ C k.1 k.2.1 ∧ okM B L D k.1 k.2.1 ∧ (k.2.2.1, k.2.2.2, k.1, k.2.1) = valM B L k.1 k.2.1 ∧ ∀ a b, C a b → okM B L D a b → vle (valM B L k.1 k.2.1) (valM B L a b))
theorem InvM.congr {B : BD} {L : LD} {D : Nat} {C C' : Nat → Nat → Prop} {k : K4} (h : InvM B L D C k) (e : ∀ i j, C i j → C' i j) (e2 : ∀ i j, C' i j → okM B L D i j → C i j) : InvM B L D C' k := by
  rcases h with ⟨h1, h2⟩ | ⟨h1, h2, h3, h4, h5⟩
  · exact Or.inl ⟨h1, fun a b hc ho => h2 a b (e2 a b hc ho) ho⟩
  · exact Or.inr ⟨h1, e _ _ h2, h3, h4, fun a b hc ho => h5 a b (e2 a b hc ho) ho⟩
theorem mvS_ok {B : BD} {L : LD} {D a b : Nat} {C : Nat → Nat → Prop} {k : K4} (ha : papS B L (tolN B a) = true) (ha0 : 0 < a) (h : InvM B L D C k) : InvM B L D (fun a' b' => C a' b' ∨ (a' = a ∧ b' = b)) (mvS B L D a b k) := by
  unfold mvS
  by_cases hp : mvP B L D a b = true
  · rw [if_pos hp]
    by_cases hw : mvW (sprS B L (tolN B a) + sprS B L (tolN B b)) (sumN B (tolN B a) 0 + sumN B (tolN B b) 0) a b k
    · rw [if_pos hw]
      rcases h with ⟨h1, h2⟩ | ⟨h1, h2, h3, h4, h5⟩
      · exfalso
        rw [h1] at hw
        exact Nat.lt_irrefl 0 hw.1
      · refine Or.inr ⟨h1, Or.inl h2, h3, h4, fun a' b' hC ho => ?_⟩
        rcases hC with z | ⟨z1, z2⟩
        · exact h5 a' b' z ho
        · subst z1; subst z2
          rw [← h4]
          unfold vle valM
          obtain ⟨-, hw⟩ := hw
          simp only
          omega
    · rw [if_neg hw]
      refine Or.inr ⟨ha0, Or.inr ⟨rfl, rfl⟩, ⟨ha, hp⟩, rfl, fun a' b' hC ho => ?_⟩
      show vle (valM B L a b) (valM B L a' b')
      rcases hC with z | ⟨z1, z2⟩
      · rcases h with ⟨h1, h2⟩ | ⟨h1, h2, h3, h4, h5⟩
        · exact absurd ho (h2 a' b' z)
        · have h6 := h5 a' b' z ho
          rw [← h4] at h6
          refine vle_trans ?_ h6
          have hw : ¬ ((k.2.2.1 < sprS B L (tolN B a) + sprS B L (tolN B b) ∨ (sprS B L (tolN B a) + sprS B L (tolN B b) = k.2.2.1 ∧ k.2.2.2 < sumN B (tolN B a) 0 + sumN B (tolN B b) 0)) ∨ (sprS B L (tolN B a) + sprS B L (tolN B b) = k.2.2.1 ∧ sumN B (tolN B a) 0 + sumN B (tolN B b) 0 = k.2.2.2 ∧ (a < k.1 ∨ (a = k.1 ∧ b < k.2.1)))) := fun z => hw ⟨h1, z⟩
          unfold vle valM
          simp only
          omega
      · rw [z1, z2]; exact vle_rf _
  · rw [if_neg hp]
    refine h.congr (fun _ _ => Or.inl) (fun a' b' hC ho => ?_)
    rcases hC with z | ⟨z1, z2⟩
    · exact z
    · subst z1; subst z2; exact absurd ho.2 hp
theorem mvB_ok {B : BD} {L : LD} {D a : Nat} {C : Nat → Nat → Prop} {k : K4} (ha : papS B L (tolN B a) = true) (ha0 : 0 < a) (h : InvM B L D C k) : ∀ n, InvM B L D (fun a' b' => C a' b' ∨ (a' = a ∧ 1 ≤ b' ∧ b' < n)) (mvB B L D a n k)
  | 0 => h.congr (fun _ _ => Or.inl) (fun a' b' hC _ => by
    rcases hC with z | z
    · exact z
    · omega)
  | n + 1 => by
    have ih := mvB_ok (D := D) ha ha0 h n
    unfold mvB
    by_cases e : n = 0
    · rw [if_pos e]
      exact h.congr (fun _ _ => Or.inl) (fun a' b' hC _ => by
        rcases hC with z | z
        · exact z
        · omega)
    · rw [if_neg e]
      refine (mvS_ok ha ha0 ih (b := n)).congr (fun a' b' hC => ?_) (fun a' b' hC _ => ?_)
      · rcases hC with (z | z) | z
        · exact Or.inl z
        · exact Or.inr ⟨z.1, z.2.1, by omega⟩
        · exact Or.inr ⟨z.1, by omega, by omega⟩
      · rcases hC with z | ⟨z1, z2, z3⟩
        · exact Or.inl (Or.inl z)
        · by_cases w : b' = n
          · exact Or.inr ⟨z1, w⟩
          · exact Or.inl (Or.inr ⟨z1, z2, by omega⟩)
theorem mvA_ok {B : BD} {L : LD} {D m : Nat} : ∀ n, InvM B L D (fun a b => 1 ≤ a ∧ a < n ∧ 1 ≤ b ∧ b < m) (mvA B L D m n)
  | 0 => Or.inl ⟨rfl, fun a b h => by omega⟩
  | n + 1 => by
    have ih := mvA_ok (B := B) (L := L) (D := D) (m := m) n
    unfold mvA
    by_cases e : n = 0
    · rw [if_pos e]
      exact Or.inl ⟨rfl, fun a b h => by omega⟩
    · rw [if_neg e]
      by_cases hp : papS B L (tolN B n) = true
      · rw [if_pos hp]
        refine (mvB_ok hp (by omega) ih m).congr (fun a b hC => ?_) (fun a b hC _ => ?_)
        · rcases hC with z | z
          · exact ⟨z.1, by omega, z.2.2⟩
          · exact ⟨by omega, by omega, z.2⟩
        · by_cases w : a = n
          · exact Or.inr ⟨w, hC.2.2⟩
          · exact Or.inl ⟨hC.1, by omega, hC.2.2⟩
      · rw [if_neg hp]
        refine ih.congr (fun a b hC => ⟨hC.1, by omega, hC.2.2⟩) (fun a b hC ho => ⟨hC.1, ?_, hC.2.2⟩)
        rcases Nat.lt_or_eq_of_le (Nat.le_of_lt_succ hC.2.1) with z | z
        · exact z
        · rw [z] at ho; exact absurd ho.1 hp
theorem tol_ne {B : BD} {t : Nat} (ht : t < 2 ^ handB B) (h : ¬ t = 0) : ¬ tolN B t = 0 := fun z => by
  have := tol_mono (B := B) ht (show 0 < t by omega)
  omega
theorem tol_and {B : BD} {a b : Nat} (ha : a < 2 ^ handB B) : tolN B a &&& tolN B b = 0 ↔ a &&& b = 0 := by
  rw [and_zero_iff, and_zero_iff]
  constructor
  · rintro h i ⟨h1, h2⟩
    have hi : i < handB B := by
      rcases Nat.lt_or_ge i (handB B) with z | z
      · exact z
      · rw [tb_hi ha z] at h1; cases h1
    exact h (hnd B i) ⟨by rw [tol_hq hi]; exact h1, by rw [tol_hq hi]; exact h2⟩
  · rintro h q ⟨h1, h2⟩
    obtain ⟨i, a1, a2, a3⟩ := tol_tb.mp h1
    rw [← a3, tol_hq a1] at h2
    exact h i ⟨a2, h2⟩
theorem ver_m {B : BD} {L : LD} (hW : WFB B) (hh : handB B ≤ 10) (D : Nat) : IsVer B L D (tolN B (mverR B L D).1) (tolN B (mverR B L D).2.1) := by
  have hp10 : 2 ^ handB B ≤ 2 ^ 10 := Nat.pow_le_pow_right (by decide) hh
  have hM := mvA_ok (B := B) (L := L) (D := D) (m := 2 ^ handB B) (2 ^ handB B)
  show IsVer B L D (tolN B (mvA B L D (2 ^ handB B) (2 ^ handB B)).1) (tolN B (mvA B L D (2 ^ handB B) (2 ^ handB B)).2.1)
  generalize mvA B L D (2 ^ handB B) (2 ^ handB B) = k at hM
  have pok : ∀ a b, 1 ≤ a → a < 2 ^ handB B → 1 ≤ b → b < 2 ^ handB B → (okM B L D a b ↔ PPS B L D (tolN B a) (tolN B b)) := by
    intro a b a1 a2 b1 b2
    have hal := tol_lt (B := B) a
    have hbl := tol_lt (B := B) b
    unfold okM mvP PPS
    rw [Bool.and_eq_true, Bool.and_eq_true, Bool.and_eq_true, Bool.and_eq_true, decide_eq_true_iff, decide_eq_true_iff, decide_eq_true_iff, ahead_iff (by omega) (by omega), tol_and a2]
    constructor
    · rintro ⟨p1, ⟨q1, q2, q3⟩, q4, q5⟩
      exact ⟨⟨p1, hal, tol_ne a2 (by omega)⟩, ⟨q2, hbl, tol_ne b2 (by omega)⟩, q1, ahead_tol a2 q3, q4, q5⟩
    · rintro ⟨⟨p1, -, -⟩, ⟨q1, -, -⟩, q2, q3, q4, q5⟩
      refine ⟨p1, ⟨q2, q1, ?_⟩, q4, q5⟩
      have hne : ¬ a = b := fun z => by
        subst z
        rw [Nat.and_self] at q2
        omega
      rcases ahead_tot hne with z | z
      · exact z
      · exact absurd (ahead_tol b2 z) (fun w => ahead_asym q3 w)
  have pv : ∀ a b a' b', 1 ≤ a → a < 2 ^ handB B → 1 ≤ b → b < 2 ^ handB B → 1 ≤ a' → a' < 2 ^ handB B → 1 ≤ b' → b' < 2 ^ handB B → okM B L D a b → okM B L D a' b' → vle (valM B L a b) (valM B L a' b') → vle (valS B L (tolN B a) (tolN B b)) (valS B L (tolN B a') (tolN B b')) := by
    intro a b a' b' h1 h2 h3 h4 h5 h6 h7 h8 o o' hv
    have hp := ((pok a b h1 h2 h3 h4).mp o).2.2.1
    have hp' := ((pok a' b' h5 h6 h7 h8).mp o').2.2.1
    unfold vle valM at hv
    unfold vle valS
    simp only at hv ⊢
    rw [popN_or hp, popN_or hp', ← sumN_pop hW (tol_lt a), ← sumN_pop hW (tol_lt b), ← sumN_pop hW (tol_lt a'), ← sumN_pop hW (tol_lt b')]
    have e1 := tol_le (B := B) h2 h6
    have e2 := tol_le (B := B) h6 h2
    have e3 := tol_le (B := B) h4 h8
    have e4 := tol_le (B := B) h8 h4
    omega
  rcases hM with ⟨m1, m2⟩ | ⟨m1, m2, m3, m4, m5⟩
  · subst m1
    refine Or.inl ⟨tol_zero B, tol_zero B, fun a b hp => ?_⟩
    have fa : fitB B a = true := by have := hp.1.1; unfold papS at this; rw [Bool.and_eq_true] at this; exact this.1
    have fb : fitB B b = true := by have := hp.2.1.1; unfold papS at this; rw [Bool.and_eq_true] at this; exact this.1
    obtain ⟨ta, t1, t2⟩ := tol_ex hp.1.2.1 fa
    obtain ⟨tb, s1, s2⟩ := tol_ex hp.2.1.2.1 fb
    have ta0 : ¬ ta = 0 := fun z => hp.1.2.2 (by rw [← t2, z, tol_zero])
    have tb0 : ¬ tb = 0 := fun z => hp.2.1.2.2 (by rw [← s2, z, tol_zero])
    exact m2 ta tb ⟨by omega, t1, by omega, s1⟩ ((pok ta tb (by omega) t1 (by omega) s1).mpr (by rw [t2, s2]; exact hp))
  · obtain ⟨c1, c2, c3, c4⟩ := m2
    refine Or.inr ⟨(pok _ _ c1 c2 c3 c4).mp m3, fun a b hp => ?_⟩
    have fa : fitB B a = true := by have := hp.1.1; unfold papS at this; rw [Bool.and_eq_true] at this; exact this.1
    have fb : fitB B b = true := by have := hp.2.1.1; unfold papS at this; rw [Bool.and_eq_true] at this; exact this.1
    obtain ⟨ta, t1, t2⟩ := tol_ex hp.1.2.1 fa
    obtain ⟨tb, s1, s2⟩ := tol_ex hp.2.1.2.1 fb
    have ta0 : ¬ ta = 0 := fun z => hp.1.2.2 (by rw [← t2, z, tol_zero])
    have tb0 : ¬ tb = 0 := fun z => hp.2.1.2.2 (by rw [← s2, z, tol_zero])
    have ho := (pok ta tb (by omega) t1 (by omega) s1).mpr (by rw [t2, s2]; exact hp)
    have := pv _ _ ta tb c1 c2 c3 c4 (by omega) t1 (by omega) s1 m3 ho (m5 ta tb ⟨by omega, t1, by omega, s1⟩ ho)
    rw [t2, s2] at this
    exact this
theorem ver_eq {S : AS} (hWF : WFS S) {k0 : K21} (h0 : k0.1 = fun _ => 0) (x : Int32) : verV S.1 S.2.1 x k0 = mverV S.1 S.2.1 x ∧ verS S x k0 = mverS S x := by
  unfold verV mverV verS mverS mverC
  by_cases hc : (decide (0 ≤ x ∧ x ≤ 1000) && decide (handB S.1 ≤ 10)) = true
  · rw [if_pos hc, if_pos hc, if_pos hc, if_pos hc]
    have hh : handB S.1 ≤ 10 := by
      rw [Bool.and_eq_true] at hc
      exact of_decide_eq_true hc.2
    have hu := ver_uniq (ver_class hWF.1 hWF.2.1 hh h0 x.toNatClampNeg) (ver_m hWF.1 hh x.toNatClampNeg)
    rw [hu.1, hu.2]
    refine ⟨?_, rfl⟩
    have hM := mvA_ok (B := S.1) (L := S.2.1) (D := x.toNatClampNeg) (m := 2 ^ handB S.1) (2 ^ handB S.1)
    show (if tolN S.1 (mvA S.1 S.2.1 x.toNatClampNeg (2 ^ handB S.1) (2 ^ handB S.1)).1 = 0 then (-2 : Int32) else nI (tolN S.1 (mvA S.1 S.2.1 x.toNatClampNeg (2 ^ handB S.1) (2 ^ handB S.1)).1)) = (if (mvA S.1 S.2.1 x.toNatClampNeg (2 ^ handB S.1) (2 ^ handB S.1)).1 = 0 then -2 else nI (tolN S.1 (mvA S.1 S.2.1 x.toNatClampNeg (2 ^ handB S.1) (2 ^ handB S.1)).1))
    rcases hM with ⟨m1, -⟩ | ⟨m1, m2, -⟩
    · rw [m1]
      rw [if_pos rfl, if_pos (tol_zero S.1)]
    · rw [if_neg (tol_ne m2.2.1 (by omega)), if_neg (by omega)]
  · rw [if_neg hc, if_neg hc, if_neg hc, if_neg hc]
    exact ⟨rfl, rfl⟩
