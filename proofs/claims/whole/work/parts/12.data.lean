/-! WHAT THE WORLD MEANS: the bank, the limits -/
/-- how many, the term, R, facts, who gives whom away (bits) -/
abbrev BD : Type := Nat × Nat × Nat × (Nat → Nat → Int32) × (Nat → Nat)
def bN (B : BD) : Nat := B.1
def bT (B : BD) : Nat := B.2.1
def bR (B : BD) : Nat := B.2.2.1
def bF (B : BD) : Nat → Nat → Int32 := B.2.2.2.1
def bG (B : BD) : Nat → Nat := B.2.2.2.2
/-- least, greatest, wished -/
abbrev LD : Type := (Nat → Nat) × (Nat → Nat) × (Nat → Nat)
/-- the class's world holds the bank -/
def Bk (B : BD) (mem : Mem) : Prop := mem 1 0 2 = nI (bN B) ∧ mem 1 0 3 = nI (bT B) ∧ mem 1 0 4 = nI (bR B) ∧ (∀ q k, mem 3 q k = bF B q k) ∧ (∀ q, mem 4 0 q = nI (bG B q))
def Lk (L : LD) (mem : Mem) : Prop := ∀ b, mem 6 0 b = nI (L.1 b) ∧ mem 7 0 b = nI (L.2.1 b) ∧ mem 8 0 b = nI (L.2.2 b)
def fMin (B : BD) (q : Nat) : Nat := (bF B q 2).toNatClampNeg
def fMrk (B : BD) (q : Nat) : Nat := (bF B q 3).toNatClampNeg
def WFB (B : BD) : Prop := bN B ≤ 24 ∧ bT B ≤ 1000 ∧ bR B ≤ 9 ∧ (∀ q, bG B q < 2 ^ bN B) ∧ (∀ q, q < bN B → bF B q 2 = nI (fMin B q) ∧ fMin B q ≤ 60 ∧ bF B q 3 = nI (fMrk B q) ∧ fMrk B q ≤ 40)
def WFL (L : LD) : Prop := ∀ b, L.1 b ≤ 1000 ∧ L.2.1 b ≤ 1000 ∧ L.2.2 b ≤ 1000
/-! sets by a test, counts, sums -/
def bset (p : Nat → Bool) : Nat → Nat
  | 0 => 0
  | k + 1 => if p k then bset p k ||| 2 ^ k else bset p k
theorem bset_tb (p : Nat → Bool) : ∀ (n i : Nat), (bset p n).testBit i = (decide (i < n) && p i)
  | 0, i => by simp [bset]
  | n + 1, i => by
    have ih := bset_tb p n i
    unfold bset
    by_cases h : p n = true
    · rw [if_pos h, Nat.testBit_or, ih, tb_pow]
      by_cases e : n = i
      · subst e; simp [h]
      · have : (decide (i < n + 1)) = decide (i < n) := by
          apply decide_eq_decide.mpr; omega
        simp [e, this]
    · rw [if_neg h, ih]
      by_cases e : n = i
      · subst e; simp [h]
      · have : (decide (i < n + 1)) = decide (i < n) := by
          apply decide_eq_decide.mpr; omega
        simp [this]
theorem bset_lt (p : Nat → Bool) (n : Nat) : bset p n < 2 ^ n := tb_lt (fun i hi => by rw [bset_tb]; simp; omega)
def cnt (p : Nat → Bool) : Nat → Nat
  | 0 => 0
  | k + 1 => cnt p k + (if p k then 1 else 0)
theorem cnt_le (p : Nat → Bool) : ∀ n, cnt p n ≤ n
  | 0 => Nat.le_refl 0
  | n + 1 => by
    have := cnt_le p n
    unfold cnt
    split <;> omega
def sumf (f : Nat → Nat) : Nat → Nat
  | 0 => 0
  | k + 1 => sumf f k + f k
theorem sumf_le {f : Nat → Nat} {c : Nat} : ∀ (n : Nat), (∀ q, q < n → f q ≤ c) → sumf f n ≤ n * c
  | 0, _ => by simp [sumf]
  | n + 1, h => by
    have h1 := sumf_le n (fun q hq => h q (by omega))
    have h2 := h n (by omega)
    unfold sumf
    rw [Nat.add_mul]
    omega
theorem sumf_congr {f g : Nat → Nat} : ∀ (n : Nat), (∀ q, q < n → f q = g q) → sumf f n = sumf g n
  | 0, _ => rfl
  | n + 1, h => by
    unfold sumf
    rw [sumf_congr n (fun q hq => h q (by omega)), h n (by omega)]
/-- for every number below n -/
def allb (p : Nat → Bool) : Nat → Bool
  | 0 => true
  | k + 1 => allb p k && p k
theorem allb_iff (p : Nat → Bool) : ∀ (n : Nat), allb p n = true ↔ ∀ q, q < n → p q = true
  | 0 => by simp [allb]
  | n + 1 => by
    unfold allb
    rw [Bool.and_eq_true, allb_iff p n]
    constructor
    · intro h q hq
      rcases Nat.lt_succ_iff_lt_or_eq.mp hq with h1 | h1
      · exact h.1 q h1
      · subst h1; exact h.2
    · intro h
      exact ⟨fun q hq => h q (by omega), h n (by omega)⟩
theorem allb_false (p : Nat → Bool) {n q : Nat} (hq : q < n) (h : p q = false) : allb p n = false := by
  cases hh : allb p n with
  | false => rfl
  | true => rw [(allb_iff p n).mp hh q hq] at h; cases h
/-! the document's words -/
def restB (B : BD) (q : Nat) : Bool := decide (¬ bF B q 6 = -1 ∧ ¬ (nI (bT B) ≤ bF B q 6) ∧ ¬ (nI (bR B) < nI (bT B) - bF B q 6))
def mateB (B : BD) (q o : Nat) : Bool := decide (¬ bF B q 5 = -1 ∧ bF B o 5 = bF B q 5)
def wholeB (B : BD) (q : Nat) : Nat := 2 ^ q ||| bset (mateB B q) (bN B)
def fitsB (B : BD) (s q : Nat) : Bool := !restB B q && (decide (bG B q &&& s = 0) && decide (andn (wholeB B q) s = 0))
def fitB (B : BD) (s : Nat) : Bool := allb (fun q => !s.testBit q || fitsB B s q) (bN B)
def handB (B : BD) : Nat := cnt (fun q => !restB B q) (bN B)
def wN (B : BD) (q b : Nat) : Nat := if b = 0 then 1 else if b = 1 then fMin B q else if b = 2 then fMrk B q else if b < 7 then (if bF B q 0 = nI b - 3 then fMrk B q else 0) else (if bF B q 1 = nI b - 7 then fMrk B q else 0)
def sumN (B : BD) (s b : Nat) : Nat := sumf (fun q => if s.testBit q then wN B q b else 0) (bN B)
/-- all that give one of the set away, or are given away by one of it, of the first k -/
def clashT (B : BD) (s : Nat) : Nat → Nat
  | 0 => 0
  | k + 1 => (clashT B s k ||| (if s.testBit k then bG B k else 0)) ||| (if bG B k &&& s = 0 then 0 else 2 ^ k)
def clashB (B : BD) (s : Nat) : Nat := clashT B s (bN B)
theorem wN_le {B : BD} (h : WFB B) {q : Nat} (hq : q < bN B) (b : Nat) : wN B q b ≤ 60 := by
  have := h.2.2.2.2 q hq
  unfold wN
  repeat' split
  all_goals omega
theorem sumN_le {B : BD} (h : WFB B) (s b : Nat) : sumN B s b ≤ 1440 := by
  have h1 := sumf_le (f := fun q => if s.testBit q then wN B q b else 0) (c := 60) (bN B) (fun q hq => by
    have := wN_le h hq b
    split <;> omega)
  have h2 := h.1
  unfold sumN
  have : bN B * 60 ≤ 24 * 60 := Nat.mul_le_mul_right 60 h2
  omega
theorem wholeB_lt {B : BD} (h : WFB B) {q : Nat} (hq : q < bN B) : wholeB B q < 2 ^ 24 := by
  have h0 := h.1
  refine or_lt (Nat.pow_lt_pow_right (by decide) (by omega)) (Nat.lt_of_lt_of_le (bset_lt _ _) (pw_le h0))
theorem wholeB_ltN {B : BD} {q : Nat} (hq : q < bN B) : wholeB B q < 2 ^ bN B := or_lt (Nat.pow_lt_pow_right (by decide) hq) (bset_lt _ _)
theorem bG_lt {B : BD} (h : WFB B) (q : Nat) : bG B q < 2 ^ 24 := Nat.lt_of_lt_of_le (h.2.2.2.1 q) (pw_le h.1)
theorem clashT_lt {B : BD} (h : WFB B) (s : Nat) : ∀ k, k ≤ bN B → clashT B s k < 2 ^ 24
  | 0, _ => by simp [clashT]
  | k + 1, hk => by
    have h0 := h.1
    unfold clashT
    refine or_lt (or_lt (clashT_lt h s k (by omega)) ?_) ?_
    · split
      · exact bG_lt h k
      · exact by decide
    · split
      · exact by decide
      · exact Nat.pow_lt_pow_right (by decide) (by omega)
/-- an array of numbers, to be read: one of the world's, or the static noughts -/
def rdA (mem : Mem) (a b n : Nat) (f : Nat → Int32) : Prop := (garr a = some (false, n) ∧ ∀ i, i < n → mem a b i = f i) ∨ (a = 99 ∧ b = 0 ∧ n = 10 ∧ ∀ i, i < 10 → f i = 0)
theorem r_rd {E : En} {X : Xt} {M : MI_} {pc q : Nat} {L : List (Option PV)} {st : List PV} {mem : Mem} {a b n : Nat} {f : Nat → Int32} {x : Int32} (h : rdA mem a b n f) (i : Nat) (hx : x = nI i) (hi : i < n) (hd : decode M.2.2.1 pc = .ok (.iaload, 1)) (hq : pc + 1 = q) (kk : Wp E X M q L (pI (f i) :: st) mem) : Wp E X M pc L (pI x :: pR a b :: st) mem := by
  rcases h with ⟨hg, hf⟩ | ⟨rfl, rfl, rfl, hf⟩
  · exact r_iald i hx hg hi hd hq (by rw [hf i hi]; exact kk)
  · exact r_nald i hx hi hd hq (by rw [← hf i hi]; exact kk)
def brokenB (L : LD) (S Mo : Nat → Nat) : Nat := bset (fun b => decide (L.2.1 b < S b ∨ S b + Mo b < L.1 b)) 10
/-- how far a topic's marks are from the wished ones, at least -/
def farB (L : LD) (S Mo : Nat → Nat) (t : Nat) : Nat := max (S (3 + t) - L.2.2 t) (L.2.2 t - (S (3 + t) + Mo (3 + t)))
def spreadB (L : LD) (S Mo : Nat → Nat) : Nat := sumf (farB L S Mo) 4
