/-! BOTH SIDES: why -/
def keptS (B : BD) (L : LD) (b : Nat) : Prop := ∃ s, fitB B s = true ∧ s < 2 ^ bN B ∧ brokenB L (sumN B s) noMo &&& b = 0
theorem keep_tb {B : BD} {L : LD} {Us : List Nat} {s i : Nat} : (keepB B L Us s).testBit i = true ↔ i < 10 ∧ (brokenB L (sumN B s) (sumFrom B Us)).testBit i = false := by
  unfold keepB
  rw [andn_tb, Bool.and_eq_true, show (1023 : Nat) = 2 ^ 10 - 1 from rfl, Nat.testBit_two_pow_sub_one, decide_eq_true_iff, Bool.not_eq_true']
theorem keep_nil {B : BD} {L : LD} {s b : Nat} (hb : b < 1024) : andn b (keepB B L [] s) = 0 ↔ brokenB L (sumN B s) noMo &&& b = 0 := by
  rw [andn_zero_iff, and_zero_iff]
  constructor
  · rintro h i ⟨h1, h2⟩
    have := keep_tb.mp (h i h2)
    rw [from_nil, h1] at this
    cases this.2
  · intro h i hi
    rw [keep_tb, from_nil]
    refine ⟨?_, ?_⟩
    · rcases Nat.lt_or_ge i 10 with z | z
      · exact z
      · rw [tb_hi (n := 10) hb z] at hi; cases hi
    · cases hz : (brokenB L (sumN B s) noMo).testBit i with
      | false => rfl
      | true => exact absurd ⟨hz, hi⟩ (h i)
def dcl (k : K18) : Prop := ∀ a b, k b = true → andn a b = 0 → k a = true
theorem why_step_I {B : BD} {L : LD} (k : K18) (p : Nat × Nat) (h : dcl k) : dcl (stepW (hop18 B L) (mt18 B L) k p) := by
  unfold stepW
  split
  · exact h
  · intro a b hb hab
    unfold mt18 at hb ⊢
    rw [Bool.or_eq_true, decide_eq_true_iff] at hb ⊢
    rcases hb with z | z
    · exact Or.inl (h a b z hab)
    · refine Or.inr (andn_zero_iff.mpr (fun i hi => ?_))
      exact andn_zero_iff.mp z i (andn_zero_iff.mp hab i hi)
theorem why_step {B : BD} {L : LD} {k : K18} {p : Nat × Nat} (h : dcl k) (b : Nat) : stepW (hop18 B L) (mt18 B L) k p b = true ↔ k b = true ∨ andn b (keepB B L [] p.1) = 0 := by
  unfold stepW
  by_cases hh : hop18 B L [] p.1 k = true
  · rw [if_pos hh]
    constructor
    · exact Or.inl
    · rintro (z | z)
      · exact z
      · exact h b _ hh z
  · rw [if_neg hh]
    unfold mt18
    rw [Bool.or_eq_true, decide_eq_true_iff]
theorem why_fold {B : BD} {L : LD} (b : Nat) : ∀ (l : List (Nat × Nat)) (k : K18), dcl k → (l.foldl (stepW (hop18 B L) (mt18 B L)) k b = true ↔ k b = true ∨ ∃ p, p ∈ l ∧ andn b (keepB B L [] p.1) = 0)
  | [], k, _ => by simp
  | x :: t, k, h => by
    rw [List.foldl_cons, why_fold b t _ (why_step_I k x h), why_step h]
    constructor
    · rintro ((z | z) | ⟨p, h1, h2⟩)
      · exact Or.inl z
      · exact Or.inr ⟨x, List.mem_cons_self, z⟩
      · exact Or.inr ⟨p, List.mem_cons_of_mem _ h1, h2⟩
    · rintro (z | ⟨p, h1, h2⟩)
      · exact Or.inl (Or.inl z)
      · rcases List.mem_cons.mp h1 with e | e
        · subst e; exact Or.inl (Or.inr h2)
        · exact Or.inr ⟨p, e, h2⟩
theorem whyK_iff {B : BD} {L : LD} {b : Nat} (hb : b < 1024) : whyK B L (unitsB B) b = true ↔ keptS B L b := by
  unfold whyK
  rw [walkP_fold (I := dcl) (fun k p h => why_step_I k p h) (fun Us dp set tk k hk hh p hp => ?_) (unitsB B) 0 0 0 _ (fun _ _ h _ => by cases h), why_fold b _ _ (fun _ _ h _ => by cases h)]
  · constructor
    · rintro (z | ⟨p, h1, h2⟩)
      · cases z
      · have := ext0_iff.mp ⟨p.2, h1⟩
        exact ⟨p.1, this.1, this.2, (keep_nil hb).mp h2⟩
    · rintro ⟨s, h1, h2, h3⟩
      obtain ⟨tk, ht⟩ := ext0_iff.mpr ⟨h1, h2⟩
      exact Or.inr ⟨(s, tk), ht, (keep_nil hb).mpr h3⟩
  · unfold stepW
    rw [if_pos]
    refine hk _ _ hh (andn_zero_iff.mpr (fun i hi => ?_))
    rw [keep_tb] at hi ⊢
    refine ⟨hi.1, ?_⟩
    cases hz : (brokenB L (sumN B set) (sumFrom B Us)).testBit i with
    | false => rfl
    | true =>
      have := ext_broken hp i hz
      rw [from_nil, this] at hi
      cases hi.2
theorem ib_iff {B : BD} {L : LD} (j : Nat) : ∀ n, ibT B L n j = true ↔ ∃ t, t < n ∧ fitB B (tolN B t) = true ∧ j = brokenB L (sumN B (tolN B t)) noMo
  | 0 => by simp [ibT]
  | n + 1 => by
    have ih := ib_iff (B := B) (L := L) j n
    unfold ibT
    rw [Bool.or_eq_true, ih, Bool.and_eq_true, decide_eq_true_iff]
    constructor
    · rintro (⟨t, h1, h2⟩ | h)
      · exact ⟨t, by omega, h2⟩
      · exact ⟨n, by omega, h⟩
    · rintro ⟨t, h1, h2⟩
      by_cases e : t = n
      · subst e; exact Or.inr h2
      · exact Or.inl ⟨t, by omega, h2⟩
theorem keptM_iff {B : BD} {L : LD} {b : Nat} : keptM (ibT B L (2 ^ handB B)) b = true ↔ keptS B L b := by
  have e : keptM (ibT B L (2 ^ handB B)) b = true ↔ ∃ j, j < 1024 ∧ ibT B L (2 ^ handB B) j = true ∧ j &&& b = 0 := by
    unfold keptM
    rw [Bool.not_eq_true']
    constructor
    · intro h
      refine Classical.byContradiction (fun z => ?_)
      have : allb (kpM (ibT B L (2 ^ handB B)) b) 1024 = true := (allb_iff _ _).mpr (fun j hj => by
        unfold kpM
        cases h1 : ibT B L (2 ^ handB B) j with
        | false => rfl
        | true =>
          by_cases h2 : j &&& b = 0
          · exact absurd ⟨j, hj, h1, h2⟩ z
          · rw [decide_eq_false h2]; rfl)
      rw [this] at h
      cases h
    · rintro ⟨j, h1, h2, h3⟩
      exact allb_false _ h1 (by unfold kpM; rw [h2, decide_eq_true h3]; rfl)
  rw [e]
  constructor
  · rintro ⟨j, h1, h2, h3⟩
    obtain ⟨t, g1, g2, g3⟩ := (ib_iff j _).mp h2
    exact ⟨tolN B t, g2, tol_lt t, by rw [← g3]; exact h3⟩
  · rintro ⟨s, h1, h2, h3⟩
    obtain ⟨t, t1, t2⟩ := tol_ex h2 h1
    exact ⟨_, brokenB_lt L (sumN B s) noMo, (ib_iff _ _).mpr ⟨t, t1, by rw [t2]; exact h1, by rw [t2]⟩, h3⟩
def WhyR (kf : Nat → Bool) (n r : Nat) : Prop := (r = 0 ∧ ∀ b, 1 ≤ b → b ≤ n → kf b = true) ∨ (1 ≤ r ∧ r ≤ n ∧ kf r = false ∧ ∀ b, 1 ≤ b → b ≤ n → kf b = false → popN r < popN b ∨ (popN r = popN b ∧ r ≤ b))
theorem why_uniq {kf kg : Nat → Bool} {n r r' : Nat} (he : ∀ b, 1 ≤ b → b ≤ n → kf b = kg b) (h1 : WhyR kf n r) (h2 : WhyR kg n r') : r = r' := by
  rcases h1 with ⟨a1, a2⟩ | ⟨a1, a2, a3, a4⟩ <;> rcases h2 with ⟨b1, b2⟩ | ⟨b1, b2, b3, b4⟩
  · omega
  · rw [← he r' b1 b2, a2 r' b1 b2] at b3; cases b3
  · rw [he r a1 a2, b2 r a1 a2] at a3; cases a3
  · have c1 := a4 r' b1 b2 (by rw [he r' b1 b2]; exact b3)
    have c2 := b4 r a1 a2 (by rw [← he r a1 a2]; exact a3)
    omega
theorem few_ok (kf : Nat → Bool) : ∀ n, WhyR kf n (fewT kf n)
  | 0 => Or.inl ⟨rfl, fun b h1 h2 => by omega⟩
  | n + 1 => by
    have ih := few_ok kf n
    unfold fewT
    generalize fewT kf n = f at ih
    split
    · rename_i hc
      refine Or.inr ⟨by omega, Nat.le_refl _, hc.1, fun b h1 h2 h3 => ?_⟩
      by_cases e : b = n + 1
      · subst e; exact Or.inr ⟨rfl, Nat.le_refl _⟩
      · rcases ih with ⟨a1, a2⟩ | ⟨a1, a2, a3, a4⟩
        · rw [a2 b h1 (by omega)] at h3; cases h3
        · have := a4 b h1 (by omega) h3
          rcases hc.2 with z | z <;> omega
    · rename_i hc
      rcases ih with ⟨a1, a2⟩ | ⟨a1, a2, a3, a4⟩
      · refine Or.inl ⟨a1, fun b h1 h2 => ?_⟩
        by_cases e : b = n + 1
        · subst e
          cases hz : kf (n + 1) with
          | true => rfl
          | false => exact absurd ⟨hz, Or.inl a1⟩ hc
        · exact a2 b h1 (by omega)
      · refine Or.inr ⟨a1, by omega, a3, fun b h1 h2 h3 => ?_⟩
        by_cases e : b = n + 1
        · subst e
          have : ¬ popN (n + 1) < popN f := fun z => hc ⟨h3, Or.inr z⟩
          omega
        · exact a4 b h1 (by omega) h3
theorem mwD_ok {ib : Nat → Bool} {N : Nat} (n : Nat) : ∀ best, n ≤ N → 1 ≤ best → best ≤ N → (n < best ∨ best = N) → keptM ib best = false → (∀ b, n < b → b ≤ N → keptM ib b = false → popN best < popN b ∨ (popN best = popN b ∧ best ≤ b)) → WhyR (keptM ib) N (mwD ib n best) := by
  induction n with
  | zero =>
    intro best _ h1 h2 h3 h4 h5
    exact Or.inr ⟨h1, h2, h4, fun b b1 b2 b3 => h5 b (by omega) b2 b3⟩
  | succ n ih =>
    intro best hn h1 h2 h3 h4 h5
    rw [mwD]
    by_cases hc : popN (n + 1) ≤ popN best ∧ keptM ib (n + 1) = false
    · rw [if_pos hc]
      refine ih (n + 1) (by omega) (by omega) hn (Or.inl (by omega)) hc.2 (fun b b1 b2 b3 => ?_)
      by_cases e : b = n + 1
      · subst e; exact Or.inr ⟨rfl, Nat.le_refl _⟩
      · have := h5 b (by omega) b2 b3
        omega
    · rw [if_neg hc]
      by_cases eb : best = n + 1
      · exact absurd ⟨by rw [eb]; exact Nat.le_refl _, by rw [← eb]; exact h4⟩ hc
      · refine ih best (by omega) h1 h2 (by omega) h4 (fun b b1 b2 b3 => ?_)
        by_cases e : b = n + 1
        · subst e
          have : ¬ popN (n + 1) ≤ popN best := fun z => hc ⟨z, b3⟩
          omega
        · exact h5 b (by omega) b2 b3
theorem why_eq {B : BD} {L : LD} : whyV B L = mwhyV B L := by
  unfold whyV mwhyV
  by_cases hh : handB B ≤ 16
  · rw [if_pos hh, if_pos hh]
    have hkk : ∀ b, 1 ≤ b → b ≤ 1023 → whyK B L (unitsB B) b = keptM (ibT B L (2 ^ handB B)) b := fun b _ hb => by
      rw [Bool.eq_iff_iff, whyK_iff (by omega), keptM_iff]
    have h1 := few_ok (whyK B L (unitsB B)) 1023
    by_cases h0 : ibT B L (2 ^ handB B) 0 = true
    · rw [if_pos h0]
      obtain ⟨t, t1, t2, t3⟩ := (ib_iff 0 _).mp h0
      have hall : ∀ b, 1 ≤ b → b ≤ 1023 → whyK B L (unitsB B) b = true := fun b _ hb => (whyK_iff (by omega)).mpr ⟨tolN B t, t2, tol_lt t, by rw [← t3, Nat.zero_and]⟩
      have := why_uniq (fun b _ _ => rfl) h1 (Or.inl ⟨rfl, hall⟩)
      rw [this]
      rfl
    · rw [if_neg h0]
      have hk : keptM (ibT B L (2 ^ handB B)) 1023 = false := by
        cases hz : keptM (ibT B L (2 ^ handB B)) 1023 with
        | false => rfl
        | true =>
          exfalso
          obtain ⟨s, s1, s2, s3⟩ := keptM_iff.mp hz
          obtain ⟨t, t1, t2⟩ := tol_ex s2 s1
          refine h0 ((ib_iff 0 _).mpr ⟨t, t1, by rw [t2]; exact s1, ?_⟩)
          rw [t2]
          have hb := brokenB_lt L (sumN B s) noMo
          rw [show (1023 : Nat) = 2 ^ 10 - 1 from rfl, Nat.and_two_pow_sub_one_eq_mod, Nat.mod_eq_of_lt hb] at s3
          exact s3.symm
      have h2 := mwD_ok (ib := ibT B L (2 ^ handB B)) (N := 1023) 1023 1023 (Nat.le_refl _) (by decide) (Nat.le_refl _) (Or.inr rfl) hk (fun b b1 b2 => by omega)
      rw [why_uniq hkk h1 h2]
  · rw [if_neg hh, if_neg hh]
