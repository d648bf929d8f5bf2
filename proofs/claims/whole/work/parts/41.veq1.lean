/-! BOTH SIDES: versions; the class's table and its pairs -/
def uniD : List Nat → Nat → Nat → Nat
  | [], _, _ => 0
  | u :: rest, dp, tk => (if tk.testBit dp then u else 0) ||| uniD rest (dp + 1) tk
theorem ext_tk {cl : Nat → Nat} : ∀ (Us : List Nat) (dp set tk : Nat), tk < 2 ^ dp → ∀ p, p ∈ extT cl Us dp set tk → p.2 < 2 ^ (dp + Us.length) ∧ (∀ i, i < dp → p.2.testBit i = tk.testBit i) ∧ p.1 = set ||| uniD Us dp p.2
  | [], dp, set, tk, ht, p, h => by
    rw [List.mem_singleton.mp h]
    exact ⟨ht, fun _ _ => rfl, (Nat.or_zero _).symm⟩
  | u :: rest, dp, set, tk, ht, p, h => by
    have hpw : 2 ^ dp < 2 ^ (dp + 1) := Nat.pow_lt_pow_right (by decide) (by omega)
    have el : dp + (u :: rest).length = dp + 1 + rest.length := by rw [List.length_cons]; omega
    have eU : uniD (u :: rest) dp p.2 = (if p.2.testBit dp then u else 0) ||| uniD rest (dp + 1) p.2 := rfl
    rw [el, eU]
    rcases List.mem_append.mp h with h | h
    · by_cases hc : cl u &&& set = 0
      · rw [if_pos hc] at h
        obtain ⟨a1, a2, a3⟩ := ext_tk rest (dp + 1) (set ||| u) (tk ||| 2 ^ dp) (or_lt (by omega) hpw) p h
        have hb : p.2.testBit dp = true := by rw [a2 dp (by omega), Nat.testBit_or, tb_pow]; simp
        refine ⟨a1, fun i hi => ?_, ?_⟩
        · rw [a2 i (by omega), Nat.testBit_or, tb_pow, decide_eq_false (by omega), Bool.or_false]
        · rw [hb, if_pos rfl, a3, Nat.or_assoc]
      · rw [if_neg hc] at h; cases h
    · obtain ⟨a1, a2, a3⟩ := ext_tk rest (dp + 1) set tk (by omega) p h
      have hb : p.2.testBit dp = false := by rw [a2 dp (by omega)]; exact tb_hi ht (Nat.le_refl _)
      refine ⟨a1, fun i hi => a2 i (by omega), ?_⟩
      rw [hb, if_neg (by decide), Nat.zero_or]
      exact a3
theorem uniD_tb {q : Nat} : ∀ (Us : List Nat) (dp tk : Nat), (uniD Us dp tk).testBit q = true ↔ ∃ i, i < Us.length ∧ tk.testBit (dp + i) = true ∧ (Us.getD i 0).testBit q = true
  | [], dp, tk => by simp [uniD]
  | u :: rest, dp, tk => by
    have ih := uniD_tb (q := q) rest (dp + 1) tk
    unfold uniD
    rw [Nat.testBit_or, Bool.or_eq_true, ih]
    constructor
    · rintro (h | ⟨i, h1, h2, h3⟩)
      · by_cases hb : tk.testBit dp = true
        · rw [if_pos hb] at h
          exact ⟨0, by simp, hb, h⟩
        · rw [if_neg hb, Nat.zero_testBit] at h; cases h
      · exact ⟨i + 1, by rw [List.length_cons]; omega, by rw [show dp + (i + 1) = dp + 1 + i by omega]; exact h2, h3⟩
    · rintro ⟨i, h1, h2, h3⟩
      cases i with
      | zero => exact Or.inl (by rw [if_pos (show tk.testBit dp = true from h2)]; exact h3)
      | succ i => exact Or.inr ⟨i, by rw [List.length_cons] at h1; omega, by rw [show dp + 1 + i = dp + (i + 1) by omega]; exact h2, h3⟩
/-- the units of these places, together -/
def uU (B : BD) (tk : Nat) : Nat := uniD (unitsB B) 0 tk
theorem uU_tb {B : BD} {tk q : Nat} : (uU B tk).testBit q = true ↔ ∃ i, i < (unitsB B).length ∧ tk.testBit i = true ∧ ((unitsB B).getD i 0).testBit q = true := by
  have := uniD_tb (q := q) (unitsB B) 0 tk
  simp only [Nat.zero_add] at this
  exact this
theorem ext0_tk {B : BD} {p : Nat × Nat} (h : p ∈ ext0 B) : p.2 < 2 ^ (unitsB B).length ∧ p.1 = uU B p.2 := by
  obtain ⟨a1, -, a3⟩ := ext_tk (unitsB B) 0 0 0 (by decide) p h
  rw [Nat.zero_add] at a1
  rw [Nat.zero_or] at a3
  exact ⟨a1, a3⟩
theorem units_R {B : BD} {i j : Nat} (hij : i < j) (hj : j < (unitsB B).length) : RU ((unitsB B).getD i 0) ((unitsB B).getD j 0) := by
  have := List.pairwise_iff_getElem.mp (units_pair (B := B) (bN B) (Nat.le_refl _)) i j (Nat.lt_trans hij hj) hj hij
  rw [List.getD_eq_getElem?_getD, List.getD_eq_getElem?_getD, List.getElem?_eq_getElem (Nat.lt_trans hij hj), List.getElem?_eq_getElem hj]
  exact this
theorem units_apart {B : BD} {i j q : Nat} (hi : i < (unitsB B).length) (hj : j < (unitsB B).length) (h1 : ((unitsB B).getD i 0).testBit q = true) (h2 : ((unitsB B).getD j 0).testBit q = true) : i = j := by
  rcases Nat.lt_trichotomy i j with z | z | z
  · exact absurd ⟨h1, h2⟩ (and_zero_iff.mp (units_R z hj).2 q)
  · exact z
  · exact absurd ⟨h2, h1⟩ (and_zero_iff.mp (units_R z hi).2 q)
theorem units_low {B : BD} {i : Nat} (hi : i < (unitsB B).length) : ∃ q, lowQ ((unitsB B).getD i 0) q = true := by
  obtain ⟨q, -, h2, h3, -⟩ := unitsT_ex B (bN B) i hi
  refine ⟨q, ?_⟩
  unfold isU at h2
  rw [Bool.and_eq_true] at h2
  show lowQ ((unitsT B (bN B)).getD i 0) q = true
  rw [h3]
  exact h2.1
theorem uU_and {B : BD} {i j : Nat} (h : i &&& j = 0) : uU B i &&& uU B j = 0 := and_zero_iff.mpr (by
  rintro q ⟨h1, h2⟩
  obtain ⟨a, a1, a2, a3⟩ := uU_tb.mp h1
  obtain ⟨b, b1, b2, b3⟩ := uU_tb.mp h2
  have := units_apart a1 b1 a3 b3
  subst this
  exact and_zero_iff.mp h a ⟨a2, b2⟩)
theorem uU_apart {B : BD} {i j : Nat} (hi : i < 2 ^ (unitsB B).length) (h : uU B i &&& uU B j = 0) : i &&& j = 0 := and_zero_iff.mpr (by
  rintro x ⟨h1, h2⟩
  have hx : x < (unitsB B).length := by
    rcases Nat.lt_or_ge x (unitsB B).length with z | z
    · exact z
    · rw [tb_hi hi z] at h1; cases h1
  obtain ⟨q, hq⟩ := units_low hx
  have hq := (lowQ_iff.mp hq).1
  exact and_zero_iff.mp h q ⟨uU_tb.mpr ⟨x, hx, h1, hq⟩, uU_tb.mpr ⟨x, hx, h2, hq⟩⟩)
theorem uU_ahead {B : BD} {i j : Nat} (hi : i < 2 ^ (unitsB B).length) (h : aheadP i j) : aheadP (uU B i) (uU B j) := by
  obtain ⟨k, h1, h2, h3⟩ := h
  have hk : k < (unitsB B).length := by
    rcases Nat.lt_or_ge k (unitsB B).length with z | z
    · exact z
    · rw [tb_hi hi z] at h1; cases h1
  obtain ⟨q, hq⟩ := units_low hk
  have hl := lowQ_iff.mp hq
  have hx : ∀ x, x < q → ∀ a, a < (unitsB B).length → ((unitsB B).getD a 0).testBit x = true → a < k := by
    intro x hxq a ha hb
    rcases Nat.lt_trichotomy a k with z | z | z
    · exact z
    · subst z; rw [hl.2 x hxq] at hb; cases hb
    · obtain ⟨⟨q', g1, g2⟩, -⟩ := units_R z ha
      rw [lowQ_inj g1 hq] at g2
      rw [g2 x (by omega)] at hb
      cases hb
  refine ⟨q, uU_tb.mpr ⟨k, hk, h1, hl.1⟩, ?_, fun x hxq => ?_⟩
  · cases hz : (uU B j).testBit q with
    | false => rfl
    | true =>
      obtain ⟨a, a1, a2, a3⟩ := uU_tb.mp hz
      rw [units_apart a1 hk a3 hl.1] at a2
      rw [h2] at a2
      cases a2
  · rw [Bool.eq_iff_iff, uU_tb, uU_tb]
    constructor
    · rintro ⟨a, a1, a2, a3⟩
      exact ⟨a, a1, by rw [← h3 a (hx x hxq a a1 a3)]; exact a2, a3⟩
    · rintro ⟨a, a1, a2, a3⟩
      exact ⟨a, a1, by rw [h3 a (hx x hxq a a1 a3)]; exact a2, a3⟩
/-! the table -/
def valK (k : K21) (t : Nat) : Nat × Nat × Nat × Nat := (k.1 t, k.2.1 t, k.2.2.1 t, k.2.2.2.1 t)
def valT (B : BD) (L : LD) (s : Nat) : Nat × Nat × Nat × Nat := (s, sumN B s 1, sumN B s 2, sprS B L s)
theorem tab_fold {B : BD} {L : LD} (t : Nat) : ∀ (l : List (Nat × Nat)) (k : K21), (valK (l.foldl (stepW (hop21 B L) (mt21 B L)) k) t = valK k t ∧ ∀ p, p ∈ l → p.2 = t → ¬ brokenB L (sumN B p.1) noMo = 0) ∨ ∃ p, p ∈ l ∧ p.2 = t ∧ brokenB L (sumN B p.1) noMo = 0 ∧ valK (l.foldl (stepW (hop21 B L) (mt21 B L)) k) t = valT B L p.1
  | [], k => Or.inl ⟨rfl, fun p hp => by cases hp⟩
  | x :: l, k => by
    rw [List.foldl_cons]
    rcases tab_fold t l (stepW (hop21 B L) (mt21 B L) k x) with ⟨h1, h2⟩ | ⟨p, h1, h2⟩
    · rw [h1]
      have hs : stepW (hop21 B L) (mt21 B L) k x = if ¬ brokenB L (sumN B x.1) noMo = 0 then k else mt21 B L x.1 x.2 k := by
        unfold stepW hop21
        rw [from_nil]
        by_cases z : ¬ brokenB L (sumN B x.1) noMo = 0
        · rw [show decide (¬ brokenB L (sumN B x.1) noMo = 0) = true from decide_eq_true z, if_pos rfl, if_pos z]
        · rw [show decide (¬ brokenB L (sumN B x.1) noMo = 0) = false from decide_eq_false z, if_neg (by decide), if_neg z]
      rw [hs]
      by_cases hb : ¬ brokenB L (sumN B x.1) noMo = 0
      · rw [if_pos hb]
        refine Or.inl ⟨rfl, fun p hp ht => ?_⟩
        rcases List.mem_cons.mp hp with e | e
        · subst e; exact hb
        · exact h2 p e ht
      · rw [if_neg hb]
        by_cases ht : x.2 = t
        · refine Or.inr ⟨x, List.mem_cons_self, ht, Classical.byContradiction hb, ?_⟩
          subst ht
          unfold valK mt21 valT updN sprS
          simp
        · refine Or.inl ⟨?_, fun p hp hpt => ?_⟩
          · unfold valK mt21 updN
            have : ¬ t = x.2 := fun z => ht z.symm
            simp [this]
          · rcases List.mem_cons.mp hp with e | e
            · subst e; exact absurd hpt ht
            · exact h2 p e hpt
    · exact Or.inr ⟨p, List.mem_cons_of_mem _ h1, h2⟩
theorem verK_fold {B : BD} {L : LD} (k0 : K21) : verK B L (unitsB B) k0 = (ext0 B).foldl (stepW (hop21 B L) (mt21 B L)) k0 := by
  unfold verK
  exact walkP_fold (I := fun _ => True) (fun _ _ _ => trivial) (fun Us dp set tk k _ hh p hp => by
    unfold stepW
    rw [if_pos]
    have h1 : ¬ brokenB L (sumN B set) (sumFrom B Us) = 0 := of_decide_eq_true hh
    exact decide_eq_true (ext_brk hp h1)) (unitsB B) 0 0 0 k0 trivial
/-- a place of the table that is not empty -/
theorem tab_ne {B : BD} {L : LD} {k0 : K21} (h0 : k0.1 = fun _ => 0) {t : Nat} (h : ¬ (verK B L (unitsB B) k0).1 t = 0) : t < 2 ^ (unitsB B).length ∧ papS B L (uU B t) = true ∧ uU B t < 2 ^ bN B ∧ valK (verK B L (unitsB B) k0) t = valT B L (uU B t) := by
  rw [verK_fold] at h ⊢
  rcases tab_fold (B := B) (L := L) t (ext0 B) k0 with ⟨h1, -⟩ | ⟨p, h1, h2, h3, h4⟩
  · exfalso
    have := congrArg (fun x => x.1) h1
    have e : (valK k0 t).1 = 0 := by unfold valK; rw [h0]
    exact h (this.trans e)
  · have he := ext0_tk h1
    have hf := ext0_iff.mp ⟨p.2, h1⟩
    rw [h2] at he
    rw [he.2] at hf h3 h4
    refine ⟨he.1, ?_, hf.2, h4⟩
    unfold papS
    rw [hf.1, decide_eq_true h3]
    rfl
theorem tab_in {B : BD} {L : LD} {k0 : K21} {s : Nat} (hp : papS B L s = true) (hs : s < 2 ^ bN B) : ∃ t, t < 2 ^ (unitsB B).length ∧ uU B t = s ∧ valK (verK B L (unitsB B) k0) t = valT B L s := by
  unfold papS at hp
  rw [Bool.and_eq_true, decide_eq_true_iff] at hp
  obtain ⟨tk, ht⟩ := ext0_iff.mpr ⟨hp.1, hs⟩
  have he := ext0_tk ht
  refine ⟨tk, he.1, he.2.symm, ?_⟩
  rw [verK_fold]
  rcases tab_fold (B := B) (L := L) tk (ext0 B) k0 with ⟨-, h2⟩ | ⟨p, h1, h2, h3, h4⟩
  · exact absurd hp.2 (h2 _ ht rfl)
  · have he' := ext0_tk h1
    rw [h4, he'.2, h2, ← he.2]
/-! all pairs are looked at -/
theorem subB_le {a b : Nat} (h : subB a b) : a ≤ b := by
  have : a = a &&& b := tb_ext (fun i => by
    rw [Nat.testBit_and]
    have := h i
    cases h1 : a.testBit i <;> simp_all)
  rw [this]
  exact Nat.and_le_right
theorem sub_next {free j s : Nat} (hj : subB j free) (hs : subB s free) (h0 : ¬ j = 0) (hlt : s < j) : s ≤ (j - 1) &&& free := by
  obtain ⟨l, m, e⟩ := odd_ex j h0
  have hp : 0 < 2 ^ l := Nat.pow_pos (by decide)
  have e1 : j - 1 = 2 ^ (l + 1) * m + (2 ^ l - 1) := by
    rw [e, Nat.pow_succ, Nat.mul_add, Nat.mul_one, Nat.mul_assoc]
    have : 0 < 2 ^ l := hp
    omega
  have e2 : j = 2 ^ (l + 1) * m + 2 ^ l := by
    rw [e, Nat.pow_succ, Nat.mul_add, Nat.mul_one, Nat.mul_assoc]
  have hpp : 2 ^ l < 2 ^ (l + 1) := Nat.pow_lt_pow_right (by decide) (by omega)
  have hp2 : 0 < 2 ^ (l + 1) := Nat.pow_pos (by decide)
  have tj1 : ∀ i, (j - 1).testBit i = if i < l + 1 then (2 ^ l - 1).testBit i else m.testBit (i - (l + 1)) := fun i => by
    rw [e1]; exact Nat.testBit_two_pow_mul_add m (by omega) i
  have tj : ∀ i, j.testBit i = if i < l + 1 then (2 ^ l).testBit i else m.testBit (i - (l + 1)) := fun i => by
    rw [e2]; exact Nat.testBit_two_pow_mul_add m hpp i
  have dj : j / 2 ^ (l + 1) = m := by
    rw [e2, Nat.mul_comm, Nat.mul_comm, Nat.mul_add_div hp2, Nat.div_eq_of_lt hpp, Nat.add_zero]
  have hmf : ∀ i, m.testBit i = true → free.testBit (i + (l + 1)) = true := fun i hi => hj _ (by
    rw [tj, if_neg (by omega), Nat.add_sub_cancel]; exact hi)
  have dn : ((j - 1) &&& free) / 2 ^ (l + 1) = m := tb_ext (fun i => by
    rw [Nat.testBit_div_two_pow, Nat.testBit_and, tj1, if_neg (by omega), Nat.add_sub_cancel]
    cases hm : m.testBit i with
    | false => rfl
    | true => rw [hmf i hm]; rfl)
  have hle : s / 2 ^ (l + 1) ≤ m := by rw [← dj]; exact Nat.div_le_div_right (Nat.le_of_lt hlt)
  rcases Nat.lt_or_eq_of_le hle with z | z
  · rcases Nat.lt_or_ge ((j - 1) &&& free) s with w | w
    · have := Nat.div_le_div_right (c := 2 ^ (l + 1)) (Nat.le_of_lt w)
      rw [dn] at this
      omega
    · exact w
  · have hhi : ∀ i, l + 1 ≤ i → s.testBit i = m.testBit (i - (l + 1)) := fun i hi => by
      have := congrArg (fun x => x.testBit (i - (l + 1))) z
      simp only [Nat.testBit_div_two_pow] at this
      rw [show i - (l + 1) + (l + 1) = i by omega] at this
      exact this
    have hsl : s.testBit l = false := by
      cases hb : s.testBit l with
      | false => rfl
      | true =>
        exfalso
        have : subB j s := fun i hi => by
          rw [tj] at hi
          by_cases w : i < l + 1
          · rw [if_pos w, tb_pow, decide_eq_true_iff] at hi
            rw [← hi]; exact hb
          · rw [if_neg w] at hi
            rw [hhi i (by omega)]; exact hi
        have := subB_le this
        omega
    refine subB_le (fun i hi => ?_)
    rw [Nat.testBit_and, hs i hi, Bool.and_true, tj1]
    by_cases w : i < l + 1
    · rw [if_pos w, Nat.testBit_two_pow_sub_one]
      by_cases v : i = l
      · rw [v, hsl] at hi; cases hi
      · exact decide_eq_true (by omega)
    · rw [if_neg w, ← hhi i (by omega)]; exact hi
theorem sub_and {a b : Nat} : subB (a &&& b) b := fun i hi => by
  rw [Nat.testBit_and, Bool.and_eq_true] at hi
  exact hi.2
theorem free_iff {al i j : Nat} (hi : i < 2 ^ 24) (h0 : ¬ i = 0) : subB j (freeB al i) ↔ subB j al ∧ i &&& j = 0 ∧ (j = 0 ∨ aheadP i j) := by
  -- the lowest bit of i
  obtain ⟨x, hx⟩ := ne_zero_tb h0
  obtain ⟨l, h1, h2⟩ := pk_least (fun x => i.testBit x = true) ⟨x, hx⟩
  have h2 : ∀ y, y < l → i.testBit y = false := fun y hy => by
    cases hb : i.testBit y with
    | false => rfl
    | true => exact absurd hb (h2 y hy)
  have hl24 : l < 24 := by
    rcases Nat.lt_or_ge l 24 with z | z
    · exact z
    · rw [tb_hi hi z] at h1; cases h1
  have hlow : lowQ i l = true := lowQ_iff.mpr ⟨h1, h2⟩
  have hlw : lw i = 2 ^ l := tb_ext (fun y => by
    unfold lw
    rw [bset_tb, tb_pow, Bool.eq_iff_iff, Bool.and_eq_true, decide_eq_true_iff, decide_eq_true_iff]
    constructor
    · rintro ⟨-, h⟩; exact lowQ_inj hlow h
    · intro e; subst e; exact ⟨hl24, hlow⟩)
  have hfr : ∀ y, (freeB al i).testBit y = true ↔ al.testBit y = true ∧ i.testBit y = false ∧ l ≤ y := fun y => by
    unfold freeB
    rw [andn_tb, andn_tb, hlw, Nat.testBit_two_pow_sub_one, Bool.and_eq_true, Bool.and_eq_true, Bool.not_eq_true', Bool.not_eq_true', decide_eq_false_iff_not]
    constructor
    · rintro ⟨⟨a, b⟩, c⟩; exact ⟨a, b, by omega⟩
    · rintro ⟨a, b, c⟩; exact ⟨⟨a, b⟩, by omega⟩
  constructor
  · intro h
    have hj : ∀ y, j.testBit y = true → al.testBit y = true ∧ i.testBit y = false ∧ l ≤ y := fun y hy => (hfr y).mp (h y hy)
    refine ⟨fun y hy => (hj y hy).1, and_zero_iff.mpr (fun y hy => ?_), Or.inr ⟨l, h1, ?_, fun y hy => ?_⟩⟩
    · rw [(hj y hy.2).2.1] at hy; cases hy.1
    · cases hb : j.testBit l with
      | false => rfl
      | true => rw [(hj l hb).2.1] at h1; cases h1
    · rw [h2 y hy]
      cases hb : j.testBit y with
      | false => rfl
      | true => have := (hj y hb).2.2; omega
  · rintro ⟨g1, g2, g3⟩ y hy
    rw [hfr]
    refine ⟨g1 y hy, ?_, ?_⟩
    · cases hb : i.testBit y with
      | false => rfl
      | true => exact absurd ⟨hb, hy⟩ (and_zero_iff.mp g2 y)
    · rcases g3 with z | ⟨k, k1, k2, k3⟩
      · rw [z, Nat.zero_testBit] at hy; cases hy
      · have hkl : l ≤ k := by
          rcases Nat.lt_or_ge k l with w | w
          · rw [h2 k w] at k1; cases k1
          · exact w
        rcases Nat.lt_or_ge y l with w | w
        · have := k3 y (by omega)
          rw [h2 y w, hy] at this
          cases this
        · exact w
