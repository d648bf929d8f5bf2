/-! BOTH SIDES: the sets that the walk meets -/
def extT (cl : Nat → Nat) : List Nat → Nat → Nat → Nat → List (Nat × Nat)
  | [], _, set, tk => [(set, tk)]
  | u :: rest, dp, set, tk => (if cl u &&& set = 0 then extT cl rest (dp + 1) (set ||| u) (tk ||| 2 ^ dp) else []) ++ extT cl rest (dp + 1) set tk
def stepW {κ : Type} (hop : List Nat → Nat → κ → Bool) (mt : Nat → Nat → κ → κ) (k : κ) (p : Nat × Nat) : κ := if hop [] p.1 k then k else mt p.1 p.2 k
theorem foldl_id {κ α : Type} {f : κ → α → κ} {k : κ} : ∀ (l : List α), (∀ p, p ∈ l → f k p = k) → l.foldl f k = k
  | [], _ => rfl
  | a :: t, h => by
    rw [List.foldl_cons, h a List.mem_cons_self]
    exact foldl_id t (fun p hp => h p (List.mem_cons_of_mem _ hp))
theorem foldl_inv {κ α : Type} {f : κ → α → κ} {I : κ → Prop} (h : ∀ k p, I k → I (f k p)) : ∀ (l : List α) (k : κ), I k → I (l.foldl f k)
  | [], _, hk => hk
  | a :: t, k, hk => foldl_inv h t (f k a) (h k a hk)
theorem walkP_fold {κ : Type} {hop : List Nat → Nat → κ → Bool} {mt : Nat → Nat → κ → κ} {cl : Nat → Nat} {I : κ → Prop} (hI : ∀ k p, I k → I (stepW hop mt k p)) (hH : ∀ Us dp set tk k, I k → hop Us set k = true → ∀ p, p ∈ extT cl Us dp set tk → stepW hop mt k p = k) : ∀ (Us : List Nat) (dp set tk : Nat) (k : κ), I k → walkP hop mt cl Us dp set tk k = (extT cl Us dp set tk).foldl (stepW hop mt) k
  | [], dp, set, tk, k, hk => rfl
  | u :: rest, dp, set, tk, k, hk => by
    have e : walkP hop mt cl (u :: rest) dp set tk k = if hop (u :: rest) set k then k else walkP hop mt cl rest (dp + 1) set tk (if cl u &&& set = 0 then walkP hop mt cl rest (dp + 1) (set ||| u) (tk ||| 2 ^ dp) k else k) := rfl
    rw [e]
    by_cases hh : hop (u :: rest) set k = true
    · rw [if_pos hh, foldl_id _ (hH _ dp set tk k hk hh)]
    · rw [if_neg hh]
      show _ = ((if cl u &&& set = 0 then extT cl rest (dp + 1) (set ||| u) (tk ||| 2 ^ dp) else []) ++ extT cl rest (dp + 1) set tk).foldl (stepW hop mt) k
      rw [List.foldl_append]
      by_cases hc : cl u &&& set = 0
      · rw [if_pos hc, if_pos hc, walkP_fold hI hH rest (dp + 1) (set ||| u) (tk ||| 2 ^ dp) k hk]
        exact walkP_fold hI hH rest (dp + 1) set tk _ (foldl_inv hI _ k hk)
      · rw [if_neg hc, if_neg hc]
        exact walkP_fold hI hH rest (dp + 1) set tk _ hk
theorem sumf_mono {f g : Nat → Nat} : ∀ n, (∀ q, q < n → f q ≤ g q) → sumf f n ≤ sumf g n
  | 0, _ => Nat.le_refl _
  | n + 1, h => by
    unfold sumf
    have h1 := sumf_mono n (fun q hq => h q (by omega))
    have h2 := h n (by omega)
    omega
theorem sumN_le_or {B : BD} (s t b : Nat) : sumN B s b ≤ sumN B (s ||| t) b := sumf_mono _ (fun q _ => by
  rw [Nat.testBit_or]
  cases s.testBit q <;> simp)
theorem sumN_or_le {B : BD} (s t b : Nat) : sumN B (s ||| t) b ≤ sumN B s b + sumN B t b := by
  unfold sumN
  rw [← sumf_add]
  refine sumf_mono _ (fun q _ => ?_)
  rw [Nat.testBit_or]
  cases s.testBit q <;> cases t.testBit q <;> simp
theorem ext_sum {B : BD} {cl : Nat → Nat} (b : Nat) : ∀ (Us : List Nat) (dp set tk : Nat) (p : Nat × Nat), p ∈ extT cl Us dp set tk → sumN B set b ≤ sumN B p.1 b ∧ sumN B p.1 b ≤ sumN B set b + sumFrom B Us b
  | [], dp, set, tk, p, h => by
    rw [List.mem_singleton.mp h]
    exact ⟨Nat.le_refl _, Nat.le_add_right _ _⟩
  | u :: rest, dp, set, tk, p, h => by
    have es : sumFrom B (u :: rest) b = sumN B u b + sumFrom B rest b := rfl
    rw [es]
    rcases List.mem_append.mp h with h | h
    · by_cases hc : cl u &&& set = 0
      · rw [if_pos hc] at h
        have ih := ext_sum (B := B) b rest _ _ _ p h
        have h1 := sumN_le_or (B := B) set u b
        have h2 := sumN_or_le (B := B) set u b
        omega
      · rw [if_neg hc] at h; cases h
    · have ih := ext_sum (B := B) b rest _ _ _ p h
      omega
theorem broken_iff {L : LD} {S Mo : Nat → Nat} : ¬ brokenB L S Mo = 0 ↔ ∃ b, b < 10 ∧ (L.2.1 b < S b ∨ S b + Mo b < L.1 b) := by
  constructor
  · intro h
    obtain ⟨i, hi⟩ := ne_zero_tb h
    unfold brokenB at hi
    rw [bset_tb, Bool.and_eq_true, decide_eq_true_iff, decide_eq_true_iff] at hi
    exact ⟨i, hi⟩
  · rintro ⟨b, h1, h2⟩ h
    have : (brokenB L S Mo).testBit b = true := by
      unfold brokenB
      rw [bset_tb, decide_eq_true h1, decide_eq_true h2]
      rfl
    rw [h, Nat.zero_testBit] at this
    cases this
theorem broken_tb {L : LD} {S Mo : Nat → Nat} (b : Nat) : (brokenB L S Mo).testBit b = true ↔ b < 10 ∧ (L.2.1 b < S b ∨ S b + Mo b < L.1 b) := by
  unfold brokenB
  rw [bset_tb, Bool.and_eq_true, decide_eq_true_iff, decide_eq_true_iff]
theorem from_nil (B : BD) : sumFrom B [] = noMo := rfl
theorem ext_broken {B : BD} {L : LD} {cl : Nat → Nat} {Us : List Nat} {dp set tk : Nat} {p : Nat × Nat} (h : p ∈ extT cl Us dp set tk) (b : Nat) (hb : (brokenB L (sumN B set) (sumFrom B Us)).testBit b = true) : (brokenB L (sumN B p.1) noMo).testBit b = true := by
  rw [broken_tb] at hb ⊢
  have := ext_sum (B := B) b Us dp set tk p h
  refine ⟨hb.1, ?_⟩
  show _ ∨ sumN B p.1 b + 0 < _
  rcases hb.2 with z | z <;> omega
theorem ext_brk {B : BD} {L : LD} {cl : Nat → Nat} {Us : List Nat} {dp set tk : Nat} {p : Nat × Nat} (h : p ∈ extT cl Us dp set tk) (hb : ¬ brokenB L (sumN B set) (sumFrom B Us) = 0) : ¬ brokenB L (sumN B p.1) noMo = 0 := by
  obtain ⟨b, hb⟩ := ne_zero_tb hb
  intro z
  have := ext_broken h b hb
  rw [z, Nat.zero_testBit] at this
  cases this
theorem ext_spread {B : BD} {L : LD} {cl : Nat → Nat} {Us : List Nat} {dp set tk : Nat} {p : Nat × Nat} (h : p ∈ extT cl Us dp set tk) : spreadB L (sumN B set) (sumFrom B Us) ≤ sprS B L p.1 := by
  refine sumf_mono 4 (fun t _ => ?_)
  have := ext_sum (B := B) (3 + t) Us dp set tk p h
  rw [farB_no]
  unfold farB
  omega
/-! which of two sets is ahead -/
def aheadP (a b : Nat) : Prop := ∃ k, a.testBit k = true ∧ b.testBit k = false ∧ ∀ j, j < k → a.testBit j = b.testBit j
theorem ahead_asym {a b : Nat} (h1 : aheadP a b) (h2 : aheadP b a) : False := by
  obtain ⟨k, a1, a2, a3⟩ := h1
  obtain ⟨l, b1, b2, b3⟩ := h2
  rcases Nat.lt_trichotomy k l with z | z | z
  · have := b3 k z; rw [a1, a2] at this; cases this
  · subst z; rw [a1] at b2; cases b2
  · have := a3 l z; rw [b1, b2] at this; cases this
theorem ahead_trans {a b c : Nat} (h1 : aheadP a b) (h2 : aheadP b c) : aheadP a c := by
  obtain ⟨k, a1, a2, a3⟩ := h1
  obtain ⟨l, b1, b2, b3⟩ := h2
  rcases Nat.lt_trichotomy k l with z | z | z
  · exact ⟨k, a1, by rw [← b3 k z]; exact a2, fun j hj => (a3 j hj).trans (b3 j (by omega))⟩
  · subst z; rw [a2] at b1; cases b1
  · exact ⟨l, by rw [a3 l z]; exact b1, b2, fun j hj => (a3 j (by omega)).trans (b3 j hj)⟩
theorem ahead_tot {a b : Nat} (h : ¬ a = b) : aheadP a b ∨ aheadP b a := by
  have : ∃ i, ¬ a.testBit i = b.testBit i := by
    refine Classical.byContradiction (fun z => h (tb_ext (fun i => ?_)))
    exact Classical.byContradiction (fun w => z ⟨i, w⟩)
  obtain ⟨k, h1, h2⟩ := pk_least (fun i => ¬ a.testBit i = b.testBit i) this
  have h2 : ∀ j, j < k → a.testBit j = b.testBit j := fun j hj => Classical.byContradiction (fun w => h2 j hj w)
  cases ha : a.testBit k with
  | true =>
    refine Or.inl ⟨k, ha, ?_, h2⟩
    cases hb : b.testBit k with
    | false => rfl
    | true => rw [ha, hb] at h1; exact absurd rfl h1
  | false =>
    refine Or.inr ⟨k, ?_, ha, fun j hj => (h2 j hj).symm⟩
    cases hb : b.testBit k with
    | true => rfl
    | false => rw [ha, hb] at h1; exact absurd rfl h1
theorem ahead_iff {a b : Nat} (ha : a < 2 ^ 24) (hb : b < 2 ^ 24) : aheadB a b = true ↔ aheadP a b := by
  unfold aheadB
  rw [decide_eq_true_iff]
  constructor
  · intro h
    obtain ⟨k, hk⟩ := ne_zero_tb h
    rw [Nat.testBit_and, Bool.and_eq_true] at hk
    unfold lw at hk
    rw [bset_tb, Bool.and_eq_true] at hk
    obtain ⟨h1, -, h2⟩ := hk
    unfold lowQ at h2
    rw [Bool.and_eq_true, allb_iff, Nat.testBit_xor, h1] at h2
    refine ⟨k, h1, ?_, fun j hj => ?_⟩
    · have := h2.1
      cases hz : b.testBit k with
      | false => rfl
      | true => rw [hz] at this; cases this
    · have := h2.2 j hj
      rw [Nat.testBit_xor] at this
      revert this
      cases a.testBit j <;> cases b.testBit j <;> simp
  · rintro ⟨k, h1, h2, h3⟩ hz
    have hk : k < 24 := by
      rcases Nat.lt_or_ge k 24 with z | z
      · exact z
      · rw [tb_hi ha z] at h1; cases h1
    have : (a &&& lw (a ^^^ b)).testBit k = true := by
      rw [Nat.testBit_and, h1]
      unfold lw
      rw [bset_tb, decide_eq_true hk]
      unfold lowQ
      rw [Nat.testBit_xor, h1, h2, (allb_iff _ _).mpr (fun j hj => by rw [Nat.testBit_xor, h3 j hj]; simp)]
      rfl
    rw [hz, Nat.zero_testBit] at this
    cases this
theorem ahead_tol {B : BD} {a b : Nat} (ha : a < 2 ^ handB B) (h : aheadP a b) : aheadP (tolN B a) (tolN B b) := by
  obtain ⟨k, h1, h2, h3⟩ := h
  have hk : k < handB B := by
    rcases Nat.lt_or_ge k (handB B) with z | z
    · exact z
    · rw [tb_hi ha z] at h1; cases h1
  refine ⟨hnd B k, by rw [tol_hq hk]; exact h1, by rw [tol_hq hk]; exact h2, fun j hj => ?_⟩
  have hx : ∀ i, i < handB B → hnd B i = j → i < k := fun i hi e => by
    rcases Nat.lt_trichotomy i k with z | z | z
    · exact z
    · subst z; omega
    · have := hnd_lt z hi; omega
  rw [Bool.eq_iff_iff, tol_tb, tol_tb]
  constructor
  · rintro ⟨i, g1, g2, g3⟩
    exact ⟨i, g1, by rw [← h3 i (hx i g1 g3)]; exact g2, g3⟩
  · rintro ⟨i, g1, g2, g3⟩
    exact ⟨i, g1, by rw [h3 i (hx i g1 g3)]; exact g2, g3⟩
/-! the sets met are the fit ones -/
theorem clash_tb {B : BD} {s i : Nat} : ∀ k, (clashT B s k).testBit i = true ↔ (∃ q, q < k ∧ s.testBit q = true ∧ (bG B q).testBit i = true) ∨ (i < k ∧ ¬ bG B i &&& s = 0)
  | 0 => by simp [clashT]
  | k + 1 => by
    have ih := clash_tb (B := B) (s := s) (i := i) k
    unfold clashT
    rw [Nat.testBit_or, Nat.testBit_or, Bool.or_eq_true, Bool.or_eq_true, ih]
    constructor
    · rintro ((h | h) | h)
      · rcases h with ⟨q, h1, h2⟩ | ⟨h1, h2⟩
        · exact Or.inl ⟨q, by omega, h2⟩
        · exact Or.inr ⟨by omega, h2⟩
      · by_cases hs : s.testBit k = true
        · rw [if_pos hs] at h
          exact Or.inl ⟨k, by omega, hs, h⟩
        · rw [if_neg hs, Nat.zero_testBit] at h; cases h
      · by_cases hs : bG B k &&& s = 0
        · rw [if_pos hs, Nat.zero_testBit] at h; cases h
        · rw [if_neg hs, tb_pow, decide_eq_true_iff] at h
          subst h
          exact Or.inr ⟨by omega, hs⟩
    · rintro (⟨q, h1, h2, h3⟩ | ⟨h1, h2⟩)
      · by_cases e : q = k
        · subst e
          exact Or.inl (Or.inr (by rw [if_pos h2]; exact h3))
        · exact Or.inl (Or.inl (Or.inl ⟨q, by omega, h2, h3⟩))
      · by_cases e : i = k
        · subst e
          exact Or.inr (by rw [if_neg h2, tb_pow]; simp)
        · exact Or.inl (Or.inl (Or.inr ⟨by omega, h2⟩))
/-- fit, told by its members -/
theorem fit_iff {B : BD} {s : Nat} : fitB B s = true ↔ ∀ q, q < bN B → s.testBit q = true → restB B q = false ∧ (∀ i, (bG B q).testBit i = true → s.testBit i = false) ∧ ∀ i, (wholeB B q).testBit i = true → s.testBit i = true := by
  unfold fitB
  rw [allb_iff]
  have key : ∀ q, fitsB B s q = true ↔ restB B q = false ∧ (∀ i, (bG B q).testBit i = true → s.testBit i = false) ∧ ∀ i, (wholeB B q).testBit i = true → s.testBit i = true := by
    intro q
    unfold fitsB
    rw [Bool.and_eq_true, Bool.and_eq_true, decide_eq_true_iff, decide_eq_true_iff, and_zero_iff, andn_zero_iff, Bool.not_eq_true']
    constructor
    · rintro ⟨a, b, c⟩
      refine ⟨a, fun i hi => ?_, c⟩
      cases hz : s.testBit i with
      | false => rfl
      | true => exact absurd ⟨hi, hz⟩ (b i)
    · rintro ⟨a, b, c⟩
      exact ⟨a, fun i hi => (by have := b i hi.1; rw [hi.2] at this; cases this), c⟩
  constructor
  · intro h q hq hs
    have := h q hq
    rw [hs, Bool.not_true, Bool.false_or] at this
    exact (key q).mp this
  · intro h q hq
    cases hs : s.testBit q with
    | false => rfl
    | true => rw [Bool.not_true, Bool.false_or]; exact (key q).mpr (h q hq hs)
theorem fit_or {B : BD} {s u : Nat} (hs : s < 2 ^ bN B) (hu : u < 2 ^ bN B) (h1 : fitB B s = true) (h2 : fitB B u = true) (hc : clashB B u &&& s = 0) : fitB B (s ||| u) = true := by
  rw [fit_iff] at h1 h2 ⊢
  have hc := and_zero_iff.mp hc
  have c1 : ∀ q i, q < bN B → u.testBit q = true → (bG B q).testBit i = true → s.testBit i = false := by
    intro q i hq hx hg
    cases hz : s.testBit i with
    | false => rfl
    | true => exact absurd ⟨(clash_tb (bN B)).mpr (Or.inl ⟨q, hq, hx, hg⟩), hz⟩ (hc i)
  have c2 : ∀ q i, q < bN B → s.testBit q = true → (bG B q).testBit i = true → u.testBit i = false := by
    intro q i hq hx hg
    cases hz : u.testBit i with
    | false => rfl
    | true =>
      refine absurd ⟨(clash_tb (bN B)).mpr (Or.inr ⟨hq, ?_⟩), hx⟩ (hc q)
      intro z
      exact and_zero_iff.mp z i ⟨hg, hz⟩
  intro q hq hx
  rw [Nat.testBit_or, Bool.or_eq_true] at hx
  rcases hx with hx | hx
  · have := h1 q hq hx
    refine ⟨this.1, fun i hi => ?_, fun i hi => ?_⟩
    · rw [Nat.testBit_or, this.2.1 i hi, c2 q i hq hx hi]; rfl
    · rw [Nat.testBit_or, this.2.2 i hi]; rfl
  · have := h2 q hq hx
    refine ⟨this.1, fun i hi => ?_, fun i hi => ?_⟩
    · rw [Nat.testBit_or, this.2.1 i hi, c1 q i hq hx hi]; rfl
    · rw [Nat.testBit_or, this.2.2 i hi, Bool.or_true]
theorem ext_fit {B : BD} : ∀ (Us : List Nat) (dp set tk : Nat), (∀ u, u ∈ Us → u < 2 ^ bN B ∧ fitB B u = true) → set < 2 ^ bN B → fitB B set = true → ∀ p, p ∈ extT (clashB B) Us dp set tk → fitB B p.1 = true ∧ p.1 < 2 ^ bN B
  | [], dp, set, tk, _, hs, hf, p, h => by
    rw [List.mem_singleton.mp h]
    exact ⟨hf, hs⟩
  | u :: rest, dp, set, tk, hU, hs, hf, p, h => by
    have hu := hU u List.mem_cons_self
    rcases List.mem_append.mp h with h | h
    · by_cases hc : clashB B u &&& set = 0
      · rw [if_pos hc] at h
        exact ext_fit rest _ _ _ (fun v hv => hU v (List.mem_cons_of_mem _ hv)) (or_lt hs hu.1) (fit_or hs hu.1 hf hu.2 hc) p h
      · rw [if_neg hc] at h; cases h
    · exact ext_fit rest _ _ _ (fun v hv => hU v (List.mem_cons_of_mem _ hv)) hs hf p h
theorem units_mem {B : BD} : ∀ k u, u ∈ unitsT B k ↔ ∃ q, q < k ∧ isU B q = true ∧ u = wholeB B q
  | 0, u => by simp [unitsT]
  | k + 1, u => by
    have ih := units_mem (B := B) k u
    have eu : unitsT B (k + 1) = if isU B k then unitsT B k ++ [wholeB B k] else unitsT B k := rfl
    rw [eu]
    by_cases hu : isU B k = true
    · rw [if_pos hu, List.mem_append, ih, List.mem_singleton]
      constructor
      · rintro (⟨q, h1, h2⟩ | h)
        · exact ⟨q, by omega, h2⟩
        · exact ⟨k, by omega, hu, h⟩
      · rintro ⟨q, h1, h2, h3⟩
        by_cases e : q = k
        · subst e; exact Or.inr h3
        · exact Or.inl ⟨q, by omega, h2, h3⟩
    · rw [if_neg hu, ih]
      constructor
      · rintro ⟨q, h1, h2⟩; exact ⟨q, by omega, h2⟩
      · rintro ⟨q, h1, h2, h3⟩
        by_cases e : q = k
        · subst e; exact absurd h2 hu
        · exact ⟨q, by omega, h2, h3⟩
def subB (a b : Nat) : Prop := ∀ i, a.testBit i = true → b.testBit i = true
/-- a fit set is made of units -/
theorem fit_units {B : BD} {s : Nat} (hs : s < 2 ^ bN B) (hf : fitB B s = true) {q : Nat} (hq : s.testBit q = true) : ∃ u, u ∈ unitsB B ∧ u.testBit q = true ∧ subB u s := by
  have hfi := fit_iff.mp hf
  have hqn : q < bN B := by
    rcases Nat.lt_or_ge q (bN B) with z | z
    · exact z
    · rw [tb_hi hs z] at hq; cases hq
  have hw := (hfi q hqn hq).2.2
  obtain ⟨r, h1, h2⟩ := pk_least (fun i => (wholeB B q).testBit i = true) ⟨q, wholeB_self B q⟩
  have hr : r < bN B := by
    rcases Nat.lt_or_ge r (bN B) with z | z
    · exact z
    · rw [tb_hi (wholeB_ltN hqn) z] at h1; cases h1
  have e := whole_eq hqn hr h1 (wholeB_self B r)
  refine ⟨wholeB B r, (units_mem (bN B) _).mpr ⟨r, hr, ?_, rfl⟩, by rw [← e]; exact wholeB_self B q, by rw [← e]; exact hw⟩
  unfold isU
  rw [← e]
  have hl : lowQ (wholeB B q) r = true := by
    unfold lowQ
    rw [h1, (allb_iff _ _).mpr (fun x hx => by
      have := h2 x hx
      cases hb : (wholeB B q).testBit x with
      | false => rfl
      | true => exact absurd hb this)]
    rfl
  rw [hl, Bool.true_and]
  apply fit_iff.mpr
  intro x hx hxw
  have hxs := hfi x hx (hw x hxw)
  refine ⟨hxs.1, fun i hi => ?_, fun i hi => ?_⟩
  · cases hz : (wholeB B q).testBit i with
    | false => rfl
    | true => have := hxs.2.1 i hi; rw [hw i hz] at this; cases this
  · rw [whole_eq hqn hx hxw (wholeB_self B x)]; exact hi
theorem ext_in {B : BD} {s : Nat} (hs : s < 2 ^ bN B) (hf : fitB B s = true) : ∀ (Us : List Nat) (dp set tk : Nat), (∀ u, u ∈ Us → u < 2 ^ bN B) → subB set s → (∀ q, s.testBit q = true → set.testBit q = true ∨ ∃ u, u ∈ Us ∧ u.testBit q = true ∧ subB u s) → ∃ tk', (s, tk') ∈ extT (clashB B) Us dp set tk
  | [], dp, set, tk, _, h1, h2 => by
    have : s = set := tb_ext (fun i => by
      rw [Bool.eq_iff_iff]
      constructor
      · intro h
        rcases h2 i h with z | ⟨u, z, -⟩
        · exact z
        · cases z
      · exact h1 i)
    exact ⟨tk, by rw [this]; exact List.mem_singleton.mpr rfl⟩
  | u :: rest, dp, set, tk, hU, h1, h2 => by
    by_cases hu : subB u s
    · have hun := hU u List.mem_cons_self
      have hfi := fit_iff.mp hf
      have hc : clashB B u &&& set = 0 := and_zero_iff.mpr (by
        rintro i ⟨a, b⟩
        have hi := h1 i b
        rcases (clash_tb (bN B)).mp a with ⟨q, c1, c2, c3⟩ | ⟨c1, c2⟩
        · have := (hfi q c1 (hu q c2)).2.1 i c3
          rw [hi] at this
          cases this
        · apply c2
          apply and_zero_iff.mpr
          rintro x ⟨d1, d2⟩
          have := (hfi i c1 hi).2.1 x d1
          rw [hu x d2] at this
          cases this)
      obtain ⟨tk', ht⟩ := ext_in hs hf rest (dp + 1) (set ||| u) (tk ||| 2 ^ dp) (fun v hv => hU v (List.mem_cons_of_mem _ hv)) (fun i hi => by
        rw [Nat.testBit_or, Bool.or_eq_true] at hi
        rcases hi with z | z
        · exact h1 i z
        · exact hu i z) (fun q hq => by
        rcases h2 q hq with z | ⟨v, v1, v2, v3⟩
        · exact Or.inl (by rw [Nat.testBit_or, z]; rfl)
        · rcases List.mem_cons.mp v1 with e | e
          · subst e; exact Or.inl (by rw [Nat.testBit_or, v2, Bool.or_true])
          · exact Or.inr ⟨v, e, v2, v3⟩)
      refine ⟨tk', List.mem_append_left _ ?_⟩
      rw [if_pos hc]
      exact ht
    · obtain ⟨tk', ht⟩ := ext_in hs hf rest (dp + 1) set tk (fun v hv => hU v (List.mem_cons_of_mem _ hv)) h1 (fun q hq => by
        rcases h2 q hq with z | ⟨v, v1, v2, v3⟩
        · exact Or.inl z
        · rcases List.mem_cons.mp v1 with e | e
          · subst e; exact absurd v3 hu
          · exact Or.inr ⟨v, e, v2, v3⟩)
      exact ⟨tk', List.mem_append_right _ ht⟩
def ext0 (B : BD) : List (Nat × Nat) := extT (clashB B) (unitsB B) 0 0 0
theorem units_fit {B : BD} : ∀ u, u ∈ unitsB B → u < 2 ^ bN B ∧ fitB B u = true := by
  intro u hu
  obtain ⟨q, h1, h2, rfl⟩ := (units_mem (bN B) u).mp hu
  unfold isU at h2
  rw [Bool.and_eq_true] at h2
  exact ⟨wholeB_ltN h1, h2.2⟩
theorem fit_zero (B : BD) : fitB B 0 = true := fit_iff.mpr (fun q _ h => by rw [Nat.zero_testBit] at h; cases h)
theorem ext0_iff {B : BD} {s : Nat} : (∃ tk, (s, tk) ∈ ext0 B) ↔ fitB B s = true ∧ s < 2 ^ bN B := by
  constructor
  · rintro ⟨tk, h⟩
    exact ext_fit (unitsB B) 0 0 0 units_fit (Nat.pow_pos (by decide)) (fit_zero B) (s, tk) h
  · rintro ⟨h1, h2⟩
    exact ext_in h2 h1 (unitsB B) 0 0 0 (fun u hu => (units_fit u hu).1) (fun i hi => by rw [Nat.zero_testBit] at hi; cases hi) (fun q hq => Or.inr (fit_units h2 h1 hq))
