/-! BOTH SIDES: best -/
def RU (u v : Nat) : Prop := (∃ q, lowQ u q = true ∧ ∀ j, j ≤ q → v.testBit j = false) ∧ u &&& v = 0
theorem lowQ_iff {s q : Nat} : lowQ s q = true ↔ s.testBit q = true ∧ ∀ j, j < q → s.testBit j = false := by
  unfold lowQ
  rw [Bool.and_eq_true, allb_iff]
  constructor
  · rintro ⟨a, b⟩
    exact ⟨a, fun j hj => by have := b j hj; simpa using this⟩
  · rintro ⟨a, b⟩
    exact ⟨a, fun j hj => by rw [b j hj]; rfl⟩
theorem units_pair {B : BD} : ∀ k, k ≤ bN B → (unitsT B k).Pairwise RU
  | 0, _ => List.Pairwise.nil
  | k + 1, hk => by
    have ih := units_pair (B := B) k (by omega)
    have eu : unitsT B (k + 1) = if isU B k then unitsT B k ++ [wholeB B k] else unitsT B k := rfl
    rw [eu]
    by_cases hu : isU B k = true
    · rw [if_pos hu, List.pairwise_append]
      refine ⟨ih, List.pairwise_singleton _ _, fun a ha b hb => ?_⟩
      rw [List.mem_singleton] at hb
      subst hb
      obtain ⟨q, h1, h2, rfl⟩ := (units_mem k a).mp ha
      unfold isU at hu h2
      rw [Bool.and_eq_true] at hu h2
      refine ⟨⟨q, h2.1, fun j hj => (lowQ_iff.mp hu.1).2 j (by omega)⟩, and_zero_iff.mpr ?_⟩
      rintro x ⟨g1, g2⟩
      have e := whole_eq (by omega) (by omega) g1 g2
      rw [← e] at hu
      have := lowQ_inj h2.1 hu.1
      omega
    · rw [if_neg hu]; exact ih
theorem ext_sub {cl : Nat → Nat} : ∀ (Us : List Nat) (dp set tk : Nat) (p : Nat × Nat), p ∈ extT cl Us dp set tk → subB set p.1
  | [], dp, set, tk, p, h => by
    rw [List.mem_singleton.mp h]
    exact fun i hi => hi
  | u :: rest, dp, set, tk, p, h => by
    rcases List.mem_append.mp h with h | h
    · by_cases hc : cl u &&& set = 0
      · rw [if_pos hc] at h
        have := ext_sub rest _ _ _ p h
        exact fun i hi => this i (by rw [Nat.testBit_or, hi]; rfl)
      · rw [if_neg hc] at h; cases h
    · exact ext_sub rest _ _ _ p h
theorem ext_out {cl : Nat → Nat} {i : Nat} : ∀ (Us : List Nat) (dp set tk : Nat) (p : Nat × Nat), p ∈ extT cl Us dp set tk → (∀ u, u ∈ Us → u.testBit i = false) → p.1.testBit i = set.testBit i
  | [], dp, set, tk, p, h, _ => by
    rw [List.mem_singleton.mp h]
  | u :: rest, dp, set, tk, p, h, hU => by
    rcases List.mem_append.mp h with h | h
    · by_cases hc : cl u &&& set = 0
      · rw [if_pos hc] at h
        rw [ext_out rest _ _ _ p h (fun v hv => hU v (List.mem_cons_of_mem _ hv)), Nat.testBit_or, hU u List.mem_cons_self, Bool.or_false]
      · rw [if_neg hc] at h; cases h
    · exact ext_out rest _ _ _ p h (fun v hv => hU v (List.mem_cons_of_mem _ hv))
theorem ext_pair {cl : Nat → Nat} : ∀ (Us : List Nat) (dp set tk : Nat), Us.Pairwise RU → (∀ u, u ∈ Us → ¬ u = 0) → (∀ u, u ∈ Us → set &&& u = 0) → (extT cl Us dp set tk).Pairwise (fun p q => aheadP p.1 q.1)
  | [], dp, set, tk, _, _, _ => List.pairwise_singleton _ _
  | u :: rest, dp, set, tk, hP, hN, hd => by
    have hP := List.pairwise_cons.mp hP
    have i2 := ext_pair (cl := cl) rest (dp + 1) set tk hP.2 (fun v hv => hN v (List.mem_cons_of_mem _ hv)) (fun v hv => hd v (List.mem_cons_of_mem _ hv))
    show ((if cl u &&& set = 0 then extT cl rest (dp + 1) (set ||| u) (tk ||| 2 ^ dp) else []) ++ extT cl rest (dp + 1) set tk).Pairwise _
    by_cases hc : cl u &&& set = 0
    · rw [if_pos hc, List.pairwise_append]
      refine ⟨ext_pair rest _ _ _ hP.2 (fun v hv => hN v (List.mem_cons_of_mem _ hv)) (fun v hv => or_and_zero (hd v (List.mem_cons_of_mem _ hv)) (hP.1 v hv).2), i2, fun p hp p' hp' => ?_⟩
      have hsu := and_zero_iff.mp (hd u List.mem_cons_self)
      -- the lowest of u, and nothing of the rest is so low
      obtain ⟨q, hq, hlow⟩ : ∃ q, lowQ u q = true ∧ ∀ v, v ∈ rest → ∀ j, j ≤ q → v.testBit j = false := by
        cases rest with
        | nil =>
          obtain ⟨i, hi⟩ := ne_zero_tb (hN u List.mem_cons_self)
          obtain ⟨k, h1, h2⟩ := pk_least (fun i => u.testBit i = true) ⟨i, hi⟩
          refine ⟨k, lowQ_iff.mpr ⟨h1, fun j hj => ?_⟩, fun v hv => by cases hv⟩
          cases hb : u.testBit j with
          | false => rfl
          | true => exact absurd hb (h2 j hj)
        | cons v t =>
          obtain ⟨⟨q, h1, h2⟩, -⟩ := hP.1 v List.mem_cons_self
          refine ⟨q, h1, fun w hw j hj => ?_⟩
          obtain ⟨⟨q', g1, g2⟩, -⟩ := hP.1 w hw
          rw [← lowQ_inj h1 g1] at g2
          exact g2 j hj
      have hlq := lowQ_iff.mp hq
      refine ⟨q, ext_sub rest _ _ _ p hp q (by rw [Nat.testBit_or, hlq.1, Bool.or_true]), ?_, fun j hj => ?_⟩
      · rw [ext_out rest _ _ _ p' hp' (fun v hv => hlow v hv q (Nat.le_refl _))]
        cases hz : set.testBit q with
        | false => rfl
        | true => exact absurd ⟨hz, hlq.1⟩ (hsu q)
      · rw [ext_out rest _ _ _ p hp (fun v hv => hlow v hv j (by omega)), ext_out rest _ _ _ p' hp' (fun v hv => hlow v hv j (by omega)), Nat.testBit_or, hlq.2 j hj, Bool.or_false]
    · rw [if_neg hc]; exact i2
theorem units_ne {B : BD} : ∀ u, u ∈ unitsB B → ¬ u = 0 := by
  intro u hu e
  obtain ⟨q, h1, h2, h3⟩ := (units_mem (bN B) u).mp hu
  have := wholeB_self B q
  rw [← h3, e, Nat.zero_testBit] at this
  cases this
theorem ext0_pair {B : BD} : (ext0 B).Pairwise (fun p q => aheadP p.1 q.1) := ext_pair (unitsB B) 0 0 0 (units_pair (bN B) (Nat.le_refl _)) units_ne (fun u _ => Nat.zero_and u)
/-- nearer, or as near with fewer, or as few and ahead; or the same -/
def leP (B : BD) (L : LD) (s p : Nat) : Prop := sprS B L s < sprS B L p ∨ (sprS B L s = sprS B L p ∧ (sumN B s 0 < sumN B p 0 ∨ (sumN B s 0 = sumN B p 0 ∧ (s = p ∨ aheadP s p))))
theorem leP_anti {B : BD} {L : LD} {s p : Nat} (h1 : leP B L s p) (h2 : leP B L p s) : s = p := by
  rcases h1 with a | ⟨a, b | ⟨b, c | c⟩⟩
  · rcases h2 with d | ⟨d, -⟩ <;> omega
  · rcases h2 with d | ⟨d, e | ⟨e, -⟩⟩ <;> omega
  · exact c
  · rcases h2 with d | ⟨d, e | ⟨e, f | f⟩⟩
    · omega
    · omega
    · exact f.symm
    · exact absurd f (fun z => ahead_asym c z)
/-- the best of a list of sets that stand ahead of each other -/
def BestL (B : BD) (L : LD) (l : List (Nat × Nat)) (k : K16) : Prop := (k = (none, 1000000, 0) ∧ ∀ p, p ∈ l → ¬ brokenB L (sumN B p.1) noMo = 0) ∨ (∃ s tk, k = (some s, sprS B L s, sumN B s 0) ∧ (s, tk) ∈ l ∧ brokenB L (sumN B s) noMo = 0 ∧ ∀ p, p ∈ l → brokenB L (sumN B p.1) noMo = 0 → leP B L s p.1)
theorem hop16_nil {B : BD} {L : LD} {s : Nat} {k : K16} : hop16 B L [] s k = true ↔ ¬ brokenB L (sumN B s) noMo = 0 ∨ k.2.1 < sprS B L s ∨ (sprS B L s = k.2.1 ∧ k.2.2 ≤ sumN B s 0) := by
  unfold hop16 sprS
  rw [from_nil, Bool.or_eq_true, Bool.or_eq_true, Bool.and_eq_true, decide_eq_true_iff, decide_eq_true_iff, decide_eq_true_iff, decide_eq_true_iff]
theorem best_step {B : BD} {L : LD} (hW : WFB B) (hWL : WFL L) {l : List (Nat × Nat)} {k : K16} {x : Nat × Nat} (h : BestL B L l k) (ha : ∀ p, p ∈ l → aheadP p.1 x.1) : BestL B L (l ++ [x]) (stepW (hop16 B L) (mt16 B L) k x) := by
  have hx9 := sprS_le (B := B) (L := L) hW hWL x.1
  unfold stepW
  by_cases hh : hop16 B L [] x.1 k = true
  · rw [if_pos hh]
    rw [hop16_nil] at hh
    rcases h with ⟨rfl, h2⟩ | ⟨s, tk, rfl, h2, h3, h4⟩
    · refine Or.inl ⟨rfl, fun p hp => ?_⟩
      rcases List.mem_append.mp hp with z | z
      · exact h2 p z
      · rw [List.mem_singleton.mp z]
        rcases hh with w | w | ⟨w, -⟩
        · exact w
        · have w : 1000000 < sprS B L x.1 := w; omega
        · have w : sprS B L x.1 = 1000000 := w; omega
    · refine Or.inr ⟨s, tk, rfl, List.mem_append_left _ h2, h3, fun p hp hb => ?_⟩
      rcases List.mem_append.mp hp with z | z
      · exact h4 p z hb
      · rw [List.mem_singleton.mp z] at hb ⊢
        rcases hh with w | w | ⟨w1, w2⟩
        · exact absurd hb w
        · exact Or.inl w
        · have w1 : sprS B L x.1 = sprS B L s := w1
          have w2 : sumN B s 0 ≤ sumN B x.1 0 := w2
          rcases Nat.lt_or_eq_of_le w2 with v | v
          · exact Or.inr ⟨w1.symm, Or.inl v⟩
          · exact Or.inr ⟨w1.symm, Or.inr ⟨v, Or.inr (ha _ h2)⟩⟩
  · rw [if_neg hh]
    have hb : brokenB L (sumN B x.1) noMo = 0 := Classical.byContradiction (fun z => hh (hop16_nil.mpr (Or.inl z)))
    have n1 : ¬ k.2.1 < sprS B L x.1 := fun z => hh (hop16_nil.mpr (Or.inr (Or.inl z)))
    have n2 : ¬ (sprS B L x.1 = k.2.1 ∧ k.2.2 ≤ sumN B x.1 0) := fun z => hh (hop16_nil.mpr (Or.inr (Or.inr z)))
    refine Or.inr ⟨x.1, x.2, rfl, List.mem_append_right _ (List.mem_singleton.mpr rfl), hb, fun p hp hbp => ?_⟩
    rcases List.mem_append.mp hp with z | z
    · rcases h with ⟨rfl, h2⟩ | ⟨s, tk, rfl, h2, h3, h4⟩
      · exact absurd hbp (h2 p z)
      · have n1 : ¬ sprS B L s < sprS B L x.1 := n1
        have n2 : ¬ (sprS B L x.1 = sprS B L s ∧ sumN B s 0 ≤ sumN B x.1 0) := n2
        rcases h4 p z hbp with v | ⟨v, w⟩
        · exact Or.inl (by omega)
        · by_cases e : sprS B L x.1 = sprS B L s
          · refine Or.inr ⟨by omega, Or.inl ?_⟩
            rcases w with w | ⟨w, -⟩ <;> omega
          · exact Or.inl (by omega)
    · rw [List.mem_singleton.mp z]
      exact Or.inr ⟨rfl, Or.inr ⟨rfl, Or.inl rfl⟩⟩
theorem best_fold {B : BD} {L : LD} (hW : WFB B) (hWL : WFL L) : ∀ (l l0 : List (Nat × Nat)) (k : K16), BestL B L l0 k → (l0 ++ l).Pairwise (fun p q => aheadP p.1 q.1) → BestL B L (l0 ++ l) (l.foldl (stepW (hop16 B L) (mt16 B L)) k)
  | [], l0, k, h, _ => by rw [List.append_nil]; exact h
  | x :: t, l0, k, h, hp => by
    have e : l0 ++ x :: t = (l0 ++ [x]) ++ t := by rw [List.append_assoc]; rfl
    have hp2 := (List.pairwise_append.mp hp).2.2
    rw [e] at hp ⊢
    exact best_fold hW hWL t (l0 ++ [x]) _ (best_step hW hWL h (fun p hp' => hp2 p hp' x List.mem_cons_self)) hp
theorem best_class {B : BD} {L : LD} (hW : WFB B) (hWL : WFL L) : BestL B L (ext0 B) (walkP (hop16 B L) (mt16 B L) (clashB B) (unitsB B) 0 0 0 (none, 1000000, 0)) := by
  rw [walkP_fold (I := fun _ => True) (fun _ _ _ => trivial) (fun Us dp set tk k _ hh p hp => ?_) (unitsB B) 0 0 0 _ trivial]
  · have := best_fold (B := B) (L := L) hW hWL (ext0 B) [] (none, 1000000, 0) (Or.inl ⟨rfl, fun p hp => by cases hp⟩) ext0_pair
    exact this
  · unfold stepW
    rw [if_pos]
    rw [hop16_nil]
    unfold hop16 at hh
    rw [Bool.or_eq_true, Bool.or_eq_true, Bool.and_eq_true, decide_eq_true_iff, decide_eq_true_iff, decide_eq_true_iff, decide_eq_true_iff] at hh
    have h1 := ext_spread (L := L) hp (B := B)
    have h2 := (ext_sum (B := B) 0 Us dp set tk p hp).1
    rcases hh with z | z | ⟨z1, z2⟩
    · exact Or.inl (ext_brk hp z)
    · exact Or.inr (Or.inl (by omega))
    · by_cases e : sprS B L p.1 = k.2.1
      · exact Or.inr (Or.inr ⟨e, by omega⟩)
      · exact Or.inr (Or.inl (by omega))
/-! the reference's -/
theorem tol_ex {B : BD} {s : Nat} (hs : s < 2 ^ bN B) (hf : fitB B s = true) : ∃ t, t < 2 ^ handB B ∧ tolN B t = s := by
  refine ⟨bset (fun i => s.testBit (hnd B i)) (handB B), bset_lt _ _, tb_ext (fun q => ?_)⟩
  rw [Bool.eq_iff_iff, tol_tb]
  constructor
  · rintro ⟨i, h1, h2, h3⟩
    rw [bset_tb, Bool.and_eq_true] at h2
    rw [← h3]
    exact h2.2
  · intro h
    have hq : q < bN B := by
      rcases Nat.lt_or_ge q (bN B) with z | z
      · exact z
      · rw [tb_hi hs z] at h; cases h
    obtain ⟨i, h1, h2⟩ := hnd_ex hq (fit_iff.mp hf q hq h).1
    exact ⟨i, h1, by rw [bset_tb, decide_eq_true h1, h2, h]; rfl, h2⟩
def BestM (B : BD) (L : LD) (n : Nat) (k : KM) : Prop := (k.1 = none ∧ ∀ t, t < n → papS B L (tolN B t) = false) ∨ (∃ b, k = (some b, sprS B L (tolN B b), sumN B (tolN B b) 0) ∧ b < n ∧ papS B L (tolN B b) = true ∧ ∀ t, t < n → papS B L (tolN B t) = true → leP B L (tolN B b) (tolN B t))
theorem best_m {B : BD} {L : LD} (hW : WFB B) (hWL : WFL L) (hh : handB B ≤ 16) : ∀ n, n ≤ 2 ^ handB B → BestM B L n (mbT B L n)
  | 0, _ => Or.inl ⟨rfl, fun t ht => by omega⟩
  | n + 1, hn => by
    have hp16 : 2 ^ handB B ≤ 2 ^ 16 := Nat.pow_le_pow_right (by decide) hh
    have ih := best_m (B := B) (L := L) hW hWL hh n (by omega)
    show BestM B L (n + 1) (mbS B L n (mbT B L n))
    generalize mbT B L n = k at ih
    unfold mbS
    cases hp : papS B L (tolN B n) with
    | false =>
      rw [if_neg (by decide)]
      rcases ih with ⟨h1, h2⟩ | ⟨b, h1, h2, h3, h4⟩
      · refine Or.inl ⟨h1, fun t ht => ?_⟩
        by_cases e : t = n
        · rw [e]; exact hp
        · exact h2 t (by omega)
      · refine Or.inr ⟨b, h1, by omega, h3, fun t ht hpt => ?_⟩
        by_cases e : t = n
        · rw [e, hp] at hpt; cases hpt
        · exact h4 t (by omega) hpt
    | true =>
      rw [if_pos rfl]
      rcases ih with ⟨h1, h2⟩ | ⟨b, h1, h2, h3, h4⟩
      · rw [h1]
        refine Or.inr ⟨n, rfl, by omega, hp, fun t ht hpt => ?_⟩
        by_cases e : t = n
        · rw [e]; exact Or.inr ⟨rfl, Or.inr ⟨rfl, Or.inl rfl⟩⟩
        · rw [h2 t (by omega)] at hpt; cases hpt
      · subst h1
        show BestM B L (n + 1) (if sprS B L (tolN B b) < sprS B L (tolN B n) ∨ (sprS B L (tolN B n) = sprS B L (tolN B b) ∧ (sumN B (tolN B b) 0 < sumN B (tolN B n) 0 ∨ (sumN B (tolN B n) 0 = sumN B (tolN B b) 0 ∧ aheadB n b = false))) then (some b, sprS B L (tolN B b), sumN B (tolN B b) 0) else (some n, sprS B L (tolN B n), sumN B (tolN B n) 0))
        have hbn : ¬ n = b := by omega
        split
        · rename_i hc
          refine Or.inr ⟨b, rfl, by omega, h3, fun t ht hpt => ?_⟩
          by_cases e : t = n
          · rw [e]
            rcases hc with c | ⟨c, d | ⟨d, f⟩⟩
            · exact Or.inl c
            · exact Or.inr ⟨c.symm, Or.inl d⟩
            · refine Or.inr ⟨c.symm, Or.inr ⟨d.symm, Or.inr ?_⟩⟩
              rcases ahead_tot hbn with z | z
              · rw [(ahead_iff (by omega) (by omega)).mpr z] at f; cases f
              · exact ahead_tol (by omega) z
          · exact h4 t (by omega) hpt
        · rename_i hc
          have c1 : ¬ sprS B L (tolN B b) < sprS B L (tolN B n) := fun z => hc (Or.inl z)
          refine Or.inr ⟨n, rfl, by omega, hp, fun t ht hpt => ?_⟩
          by_cases e : t = n
          · rw [e]; exact Or.inr ⟨rfl, Or.inr ⟨rfl, Or.inl rfl⟩⟩
          · have h5 := h4 t (by omega) hpt
            by_cases e1 : sprS B L (tolN B n) = sprS B L (tolN B b)
            · have c2 : ¬ sumN B (tolN B b) 0 < sumN B (tolN B n) 0 := fun z => hc (Or.inr ⟨e1, Or.inl z⟩)
              rcases h5 with a | ⟨a, a2⟩
              · exact Or.inl (by omega)
              · refine Or.inr ⟨by omega, ?_⟩
                by_cases e2 : sumN B (tolN B n) 0 = sumN B (tolN B b) 0
                · have c3 : aheadB n b = true := by
                    cases hz : aheadB n b with
                    | true => rfl
                    | false => exact absurd (Or.inr ⟨e1, Or.inr ⟨e2, hz⟩⟩) hc
                  have c4 := ahead_tol (B := B) (show n < 2 ^ handB B by omega) ((ahead_iff (by omega) (by omega)).mp c3)
                  rcases a2 with a3 | ⟨a3, a4⟩
                  · exact Or.inl (by omega)
                  · refine Or.inr ⟨by omega, Or.inr ?_⟩
                    rcases a4 with a5 | a5
                    · rw [← a5]; exact c4
                    · exact ahead_trans c4 a5
                · refine Or.inl ?_
                  rcases a2 with a3 | ⟨a3, -⟩ <;> omega
            · refine Or.inl ?_
              rcases h5 with a | ⟨a, -⟩ <;> omega
theorem best_eq {B : BD} {L : LD} (hW : WFB B) (hWL : WFL L) : bestV B L = mbestV B L := by
  unfold bestV mbestV
  by_cases hh : handB B ≤ 16
  · rw [if_pos hh, if_pos hh]
    have hc := best_class (B := B) (L := L) hW hWL
    have hm := best_m (B := B) (L := L) hW hWL hh _ (Nat.le_refl _)
    have pap : ∀ t, papS B L (tolN B t) = true ↔ fitB B (tolN B t) = true ∧ brokenB L (sumN B (tolN B t)) noMo = 0 := fun t => by
      unfold papS
      rw [Bool.and_eq_true, decide_eq_true_iff]
    rcases hc with ⟨c1, c2⟩ | ⟨s, tk, c1, c2, c3, c4⟩
    · rw [c1]
      rcases hm with ⟨m1, -⟩ | ⟨b, m1, m2, m3, m4⟩
      · rw [m1]; rfl
      · exfalso
        have := (pap b).mp m3
        obtain ⟨tk, ht⟩ := ext0_iff.mpr ⟨this.1, tol_lt b⟩
        exact c2 _ ht this.2
    · rw [c1]
      have hs := ext0_iff.mp ⟨tk, c2⟩
      obtain ⟨t, t1, t2⟩ := tol_ex hs.2 hs.1
      rcases hm with ⟨m1, m2⟩ | ⟨b, m1, m2, m3, m4⟩
      · exfalso
        have := m2 t t1
        rw [(pap t).mpr ⟨by rw [t2]; exact hs.1, by rw [t2]; exact c3⟩] at this
        cases this
      · rw [m1]
        have := (pap b).mp m3
        obtain ⟨tk', ht⟩ := ext0_iff.mpr ⟨this.1, tol_lt b⟩
        have l1 := c4 _ ht this.2
        have l2 := m4 t t1 ((pap t).mpr ⟨by rw [t2]; exact hs.1, by rw [t2]; exact c3⟩)
        rw [t2] at l2
        have e := leP_anti l1 l2
        show nI s = nI (tolN B b)
        rw [e]
  · rw [if_neg hh, if_neg hh]
