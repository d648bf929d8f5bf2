/-! THE REFERENCE: the rows of work -/
theorem hdT_in (B : BD) : ∀ k q, q ∈ hdT B k ↔ q < k ∧ restB B q = false
  | 0, q => by simp [hdT]
  | k + 1, q => by
    have ih := hdT_in B k q
    unfold hdT
    cases h : restB B k with
    | true =>
      rw [if_pos rfl, ih]
      constructor
      · rintro ⟨a, b⟩; exact ⟨by omega, b⟩
      · rintro ⟨a, b⟩
        refine ⟨?_, b⟩
        rcases Nat.lt_succ_iff_lt_or_eq.mp a with z | z
        · exact z
        · subst z; rw [h] at b; cases b
    | false =>
      rw [if_neg (by decide), List.mem_append, ih, List.mem_singleton]
      constructor
      · rintro (⟨a, b⟩ | a)
        · exact ⟨by omega, b⟩
        · subst a; exact ⟨by omega, h⟩
      · rintro ⟨a, b⟩
        rcases Nat.lt_succ_iff_lt_or_eq.mp a with z | z
        · exact Or.inl ⟨z, b⟩
        · exact Or.inr z
theorem hdT_sort (B : BD) : ∀ k i j, i < j → j < (hdT B k).length → (hdT B k).getD i 0 < (hdT B k).getD j 0
  | 0, i, j, _, h => absurd h (Nat.not_lt_zero j)
  | k + 1, i, j, hij, h => by
    have ih := hdT_sort B k i j hij
    have e : hdT B (k + 1) = if restB B k then hdT B k else hdT B k ++ [k] := rfl
    rw [e] at h ⊢
    cases hr : restB B k with
    | true => rw [hr] at h; exact ih h
    | false =>
      rw [hr] at h
      have h : j < (hdT B k ++ [k]).length := h
      show (hdT B k ++ [k]).getD i 0 < (hdT B k ++ [k]).getD j 0
      rw [List.length_append, List.length_singleton] at h
      have ei : (hdT B k ++ [k]).getD i 0 = (hdT B k).getD i 0 := by
        rw [List.getD_eq_getElem?_getD, List.getElem?_append_left (by omega), ← List.getD_eq_getElem?_getD]
      rw [ei]
      by_cases z : j < (hdT B k).length
      · rw [show (hdT B k ++ [k]).getD j 0 = (hdT B k).getD j 0 by rw [List.getD_eq_getElem?_getD, List.getElem?_append_left z, ← List.getD_eq_getElem?_getD]]
        exact ih z
      · have z : j = (hdT B k).length := by omega
        rw [show (hdT B k ++ [k]).getD j 0 = k by rw [z, List.getD_eq_getElem?_getD, List.getElem?_append_right (Nat.le_refl _), Nat.sub_self]; rfl]
        exact ((hdT_in B k _).mp (getD_mem (by omega))).1
/-- the i-th at hand -/
def hnd (B : BD) (i : Nat) : Nat := (hdL B).getD i 0
theorem hnd_in {B : BD} {i : Nat} (h : i < handB B) : hnd B i < bN B ∧ restB B (hnd B i) = false := (hdT_in B (bN B) _).mp (getD_mem (by rw [← hdL_len] at h; exact h))
theorem hnd_ex {B : BD} {q : Nat} (h1 : q < bN B) (h2 : restB B q = false) : ∃ i, i < handB B ∧ hnd B i = q := by
  have := (hdT_in B (bN B) q).mpr ⟨h1, h2⟩
  obtain ⟨i, hi⟩ := List.getElem?_of_mem this
  have hl := (List.getElem?_eq_some_iff.mp hi).1
  refine ⟨i, by rw [← hdL_len]; exact hl, ?_⟩
  unfold hnd hdL
  rw [List.getD_eq_getElem?_getD, hi]
  rfl
theorem hnd_lt {B : BD} {i j : Nat} (h : i < j) (hj : j < handB B) : hnd B i < hnd B j := hdT_sort B (bN B) i j h (by rw [← hdL_len] at hj; exact hj)
theorem hnd_inj {B : BD} {i j : Nat} (hi : i < handB B) (hj : j < handB B) (h : hnd B i = hnd B j) : i = j := by
  rcases Nat.lt_trichotomy i j with z | z | z
  · have := hnd_lt z hj; omega
  · exact z
  · have := hnd_lt z hi; omega
/-- a set of places at hand, told as a set of questions -/
def tolT (B : BD) (t : Nat) : Nat → Nat
  | 0 => 0
  | k + 1 => tolT B t k ||| (if t.testBit k then 2 ^ hnd B k else 0)
def tolN (B : BD) (t : Nat) : Nat := tolT B t (handB B)
theorem tolT_tb (B : BD) (t q : Nat) : ∀ k, (tolT B t k).testBit q = true ↔ ∃ i, i < k ∧ t.testBit i = true ∧ hnd B i = q
  | 0 => by simp [tolT]
  | k + 1 => by
    have ih := tolT_tb B t q k
    unfold tolT
    rw [Nat.testBit_or, Bool.or_eq_true, ih]
    constructor
    · rintro (⟨i, h1, h2, h3⟩ | h)
      · exact ⟨i, by omega, h2, h3⟩
      · cases ht : t.testBit k with
        | false => rw [ht, if_neg (by decide), Nat.zero_testBit] at h; cases h
        | true =>
          rw [ht, if_pos rfl, tb_pow] at h
          exact ⟨k, by omega, ht, of_decide_eq_true h⟩
    · rintro ⟨i, h1, h2, h3⟩
      by_cases e : i = k
      · subst e
        right
        rw [h2, if_pos rfl, tb_pow]
        exact decide_eq_true h3
      · exact Or.inl ⟨i, by omega, h2, h3⟩
theorem tol_tb {B : BD} {t q : Nat} : (tolN B t).testBit q = true ↔ ∃ i, i < handB B ∧ t.testBit i = true ∧ hnd B i = q := tolT_tb B t q _
theorem tol_hq {B : BD} {t i : Nat} (hi : i < handB B) : (tolN B t).testBit (hnd B i) = t.testBit i := by
  rw [Bool.eq_iff_iff, tol_tb]
  constructor
  · rintro ⟨j, h1, h2, h3⟩
    rw [← hnd_inj h1 hi h3]
    exact h2
  · intro h
    exact ⟨i, hi, h, rfl⟩
theorem tol_lt {B : BD} (t : Nat) : tolN B t < 2 ^ bN B := tb_lt (fun i hi => by
  cases h : (tolN B t).testBit i with
  | false => rfl
  | true =>
    obtain ⟨j, h1, -, h3⟩ := tol_tb.mp h
    have := (hnd_in h1).1
    omega)
theorem tol_lt24 {B : BD} (hW : WFB B) (t : Nat) : tolN B t < 2 ^ 24 := Nat.lt_of_lt_of_le (tol_lt t) (pw_le hW.1)
theorem tolT_lt {B : BD} (hW : WFB B) (t : Nat) : ∀ k, k ≤ handB B → tolT B t k < 2 ^ 24
  | 0, _ => by simp [tolT]
  | k + 1, h => by
    unfold tolT
    refine or_lt (tolT_lt hW t k (by omega)) ?_
    split
    · have := (hnd_in (B := B) (i := k) (by omega)).1
      have := hW.1
      exact Nat.pow_lt_pow_right (by decide) (by omega)
    · decide
theorem tol_zero (B : BD) : tolN B 0 = 0 := tb_ext (fun i => by
  rw [Nat.zero_testBit]
  cases h : (tolN B 0).testBit i with
  | false => rfl
  | true =>
    obtain ⟨j, -, h2, -⟩ := tol_tb.mp h
    rw [Nat.zero_testBit] at h2
    cases h2)
theorem tol_off {B : BD} {t i : Nat} (hi : i < handB B) (ht : t.testBit i = true) : tolN B t = tolN B (t ^^^ 2 ^ i) ||| 2 ^ hnd B i ∧ tolN B (t ^^^ 2 ^ i) &&& 2 ^ hnd B i = 0 := by
  have hx : ∀ j, (t ^^^ 2 ^ i).testBit j = (t.testBit j && decide (j ≠ i)) := by
    intro j
    rw [Nat.testBit_xor, tb_pow]
    by_cases e : i = j
    · subst e; simp [ht]
    · have : j ≠ i := fun z => e z.symm
      simp [e, this]
  constructor
  · apply tb_ext
    intro q
    rw [Nat.testBit_or, tb_pow, Bool.eq_iff_iff, Bool.or_eq_true, tol_tb, tol_tb, decide_eq_true_iff]
    constructor
    · rintro ⟨j, h1, h2, h3⟩
      by_cases e : j = i
      · subst e; exact Or.inr h3
      · exact Or.inl ⟨j, h1, by rw [hx, h2]; simp [e], h3⟩
    · rintro (⟨j, h1, h2, h3⟩ | h)
      · rw [hx, Bool.and_eq_true] at h2
        exact ⟨j, h1, h2.1, h3⟩
      · exact ⟨i, hi, ht, h⟩
  · apply and_zero_iff.mpr
    rintro q ⟨h1, h2⟩
    rw [tb_pow, decide_eq_true_iff] at h2
    obtain ⟨j, g1, g2, g3⟩ := tol_tb.mp h1
    have e := hnd_inj g1 hi (g3.trans h2.symm)
    rw [hx, e] at g2
    simp at g2
theorem sumf_one {f : Nat → Nat} {q : Nat} : ∀ n, sumf (fun i => if (2 ^ q).testBit i then f i else 0) n = if q < n then f q else 0
  | 0 => by simp [sumf]
  | n + 1 => by
    unfold sumf
    rw [sumf_one n, tb_pow]
    by_cases e : q = n
    · subst e; simp
    · by_cases z : q < n
      · rw [if_pos z, if_pos (show q < n + 1 by omega)]; simp [e]
      · rw [if_neg z, if_neg (show ¬ q < n + 1 by omega)]; simp [e]
theorem sumN_one {B : BD} {q b : Nat} (h : q < bN B) : sumN B (2 ^ q) b = wN B q b := by
  unfold sumN
  rw [sumf_one, if_pos h]
theorem sumN_tol {B : BD} {t i b : Nat} (hi : i < handB B) (ht : t.testBit i = true) : sumN B (tolN B t) b = sumN B (tolN B (t ^^^ 2 ^ i)) b + wN B (hnd B i) b := by
  have := tol_off hi ht
  rw [this.1, sumN_or this.2, sumN_one (hnd_in hi).1]
/-- the reference's clashes and wholes, among those at hand -/
def pC (B : BD) (i k : Nat) : Bool := (bG B (hnd B i)).testBit (hnd B k) || (bG B (hnd B k)).testBit (hnd B i)
def pW (B : BD) (i k : Nat) : Bool := mateB B (hnd B i) (hnd B k)
def nR (B : BD) (i : Nat) (q : Nat) : Bool := !(restB B q && mateB B (hnd B i) q)
def clM (B : BD) (i : Nat) : Nat := bset (pC B i) (handB B)
def whT (B : BD) (i q : Nat) : Nat := bset (pW B i) (handB B) ||| (if allb (nR B i) q then 0 else 65536)
def whM (B : BD) (i : Nat) : Nat := whT B i (bN B)
def fitK (B : BD) (t k : Nat) : Bool := !t.testBit k || (decide (clM B k &&& t = 0) && decide (andn (whM B k) t = 0))
def fitM (B : BD) (t : Nat) : Bool := allb (fitK B t) (handB B)
theorem whT_lt {B : BD} (hh : handB B ≤ 16) (i q : Nat) : whT B i q < 2 ^ 17 := by
  refine or_lt (Nat.lt_of_lt_of_le (bset_lt _ _) (Nat.pow_le_pow_right (by decide) (by omega))) ?_
  split <;> decide
theorem clM_lt {B : BD} (hh : handB B ≤ 16) (i : Nat) : clM B i < 2 ^ 16 := Nat.lt_of_lt_of_le (bset_lt _ _) (Nat.pow_le_pow_right (by decide) hh)
theorem clM_zero {B : BD} {i t : Nat} : clM B i &&& t = 0 ↔ ∀ k, k < handB B → t.testBit k = true → pC B i k = false := by
  rw [and_zero_iff]
  constructor
  · intro h k hk ht
    have := h k
    rw [clM, bset_tb, decide_eq_true hk, ht] at this
    cases hp : pC B i k with
    | false => rfl
    | true => exact absurd ⟨by rw [hp]; rfl, rfl⟩ this
  · rintro h k ⟨h1, h2⟩
    rw [clM, bset_tb, Bool.and_eq_true] at h1
    have := h k (of_decide_eq_true h1.1) h2
    rw [h1.2] at this
    cases this
theorem whM_zero {B : BD} (hh : handB B ≤ 16) {i t : Nat} (ht : t < 2 ^ handB B) : andn (whM B i) t = 0 ↔ (∀ k, k < handB B → pW B i k = true → t.testBit k = true) ∧ ∀ q, q < bN B → restB B q = true → mateB B (hnd B i) q = false := by
  rw [andn_zero_iff]
  have h16 : t.testBit 16 = false := tb_hi ht hh
  have hb16 : (bset (pW B i) (handB B)).testBit 16 = false := by rw [bset_tb, decide_eq_false (by omega)]; rfl
  constructor
  · intro h
    constructor
    · intro k hk hp
      apply h k
      rw [whM, whT, Nat.testBit_or, bset_tb, decide_eq_true hk, hp]
      rfl
    · intro q hq hr
      cases hm : mateB B (hnd B i) q with
      | false => rfl
      | true =>
        have hf : allb (nR B i) (bN B) = false := allb_false _ hq (by unfold nR; rw [hr]; rw [show mateB B (hnd B i) q = true from hm]; rfl)
        have := h 16 (by rw [whM, whT, Nat.testBit_or, hf]; rw [show (if false = true then 0 else 65536) = 2 ^ 16 from rfl, tb_pow]; simp)
        rw [h16] at this
        cases this
  · rintro ⟨h1, h2⟩ k hk
    rw [whM, whT, Nat.testBit_or, Bool.or_eq_true] at hk
    have ha : allb (nR B i) (bN B) = true := (allb_iff _ _).mpr (fun q hq => by
      unfold nR
      cases hr : restB B q with
      | false => rfl
      | true => rw [h2 q hq hr]; rfl)
    rcases hk with hk | hk
    · rw [bset_tb, Bool.and_eq_true] at hk
      exact h1 k (of_decide_eq_true hk.1) hk.2
    · rw [ha, if_pos rfl, Nat.zero_testBit] at hk
      cases hk
theorem fit_tol {B : BD} (hh : handB B ≤ 16) {t : Nat} (ht : t < 2 ^ handB B) : fitM B t = fitB B (tolN B t) := by
  unfold fitM fitB
  rw [Bool.eq_iff_iff, allb_iff, allb_iff]
  constructor
  · intro h q hq
    cases hs : (tolN B t).testBit q with
    | false => rfl
    | true =>
      obtain ⟨i, h1, h2, h3⟩ := tol_tb.mp hs
      have hi := h i h1
      unfold fitK at hi
      rw [h2, Bool.not_true, Bool.false_or, Bool.and_eq_true, decide_eq_true_iff, decide_eq_true_iff, clM_zero, whM_zero hh ht] at hi
      subst h3
      have hin := hnd_in h1
      have g1 : bG B (hnd B i) &&& tolN B t = 0 := and_zero_iff.mpr (by
        rintro x ⟨a, b⟩
        obtain ⟨j, c1, c2, c3⟩ := tol_tb.mp b
        have := hi.1 j c1 c2
        unfold pC at this
        rw [c3, show (bG B (hnd B i)).testBit x = true from a] at this
        cases this)
      have g2 : andn (wholeB B (hnd B i)) (tolN B t) = 0 := andn_zero_iff.mpr (by
        intro x hx
        rcases whole_mem hx with e | ⟨e1, e2, e3⟩
        · rw [e]; exact hs
        · have hm : mateB B (hnd B i) x = true := decide_eq_true ⟨e1, e2⟩
          cases hr : restB B x with
          | true => rw [hi.2.2 x e3 hr] at hm; cases hm
          | false =>
            obtain ⟨j, c1, c2⟩ := hnd_ex e3 hr
            have := hi.2.1 j c1 (by unfold pW; rw [c2]; exact hm)
            exact tol_tb.mpr ⟨j, c1, this, c2⟩)
      show (!true || fitsB B (tolN B t) (hnd B i)) = true
      unfold fitsB
      rw [show restB B (hnd B i) = false from hin.2, decide_eq_true g1, decide_eq_true g2]
      rfl
  · intro h k hk
    unfold fitK
    cases htk : t.testBit k with
    | false => rfl
    | true =>
      have hin := hnd_in hk
      have hs : (tolN B t).testBit (hnd B k) = true := by rw [show (tolN B t).testBit (hnd B k) = t.testBit k from tol_hq hk]; exact htk
      have := h (hnd B k) hin.1
      rw [hs, Bool.not_true, Bool.false_or] at this
      unfold fitsB at this
      rw [Bool.and_eq_true, Bool.and_eq_true, decide_eq_true_iff, decide_eq_true_iff, and_zero_iff, andn_zero_iff] at this
      obtain ⟨-, g1, g2⟩ := this
      rw [Bool.not_true, Bool.false_or, Bool.and_eq_true, decide_eq_true_iff, decide_eq_true_iff, clM_zero, whM_zero hh ht]
      have gg : ∀ a b, a < handB B → b < handB B → t.testBit a = true → t.testBit b = true → (bG B (hnd B a)).testBit (hnd B b) = false := by
        intro a b ha hb h1 h2
        have hsa : (tolN B t).testBit (hnd B a) = true := by rw [show (tolN B t).testBit (hnd B a) = t.testBit a from tol_hq ha]; exact h1
        have hsb : (tolN B t).testBit (hnd B b) = true := by rw [show (tolN B t).testBit (hnd B b) = t.testBit b from tol_hq hb]; exact h2
        have := h (hnd B a) (hnd_in ha).1
        rw [hsa, Bool.not_true, Bool.false_or] at this
        unfold fitsB at this
        rw [Bool.and_eq_true, Bool.and_eq_true, decide_eq_true_iff, and_zero_iff] at this
        have := this.2.1 (hnd B b)
        cases hz : (bG B (hnd B a)).testBit (hnd B b) with
        | false => rfl
        | true => exact absurd ⟨hz, hsb⟩ this
      refine ⟨fun j hj htj => ?_, fun j hj hp => ?_, fun q hq hr => ?_⟩
      · unfold pC
        rw [show (bG B (hnd B k)).testBit (hnd B j) = false from gg k j hk hj htk htj, show (bG B (hnd B j)).testBit (hnd B k) = false from gg j k hj hk htj htk]
        rfl
      · have h1 := of_decide_eq_true hp
        have := g2 (hnd B j) (by rw [wholeB_tb, decide_eq_true (hnd_in hj).1, show mateB B (hnd B k) (hnd B j) = true from hp]; simp)
        rw [show (tolN B t).testBit (hnd B j) = t.testBit j from tol_hq hj] at this
        exact this
      · cases hm : mateB B (hnd B k) q with
        | false => rfl
        | true =>
          have := g2 q (by rw [wholeB_tb, decide_eq_true hq, hm]; simp)
          obtain ⟨j, c1, c2, c3⟩ := tol_tb.mp this
          have := (hnd_in c1).2
          rw [c3, hr] at this
          cases this
