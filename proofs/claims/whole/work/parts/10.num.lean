/-! numbers and bits -/
def b2 (b : Bool) : Int32 := if b then 1 else 0
theorem b2_01 (b : Bool) : b2 b = 0 ∨ b2 b = 1 := by cases b <;> simp [b2]
theorem b2_eq0 {b : Bool} : b2 b = 0 ↔ b = false := by cases b <;> simp [b2]
theorem b2_eq1 {b : Bool} : b2 b = 1 ↔ b = true := by cases b <;> simp [b2]
theorem b2_ne0 {b : Bool} : ¬ b2 b = 0 ↔ b = true := by cases b <;> simp [b2]
theorem b2_inj {a b : Bool} : b2 a = b2 b ↔ a = b := by cases a <;> cases b <;> simp [b2]
theorem nI_bv (n : Nat) : (nI n).toBitVec = BitVec.ofNat 32 n := rfl
theorem nI_inj {a b : Nat} (ha : a < 2 ^ 31) (hb : b < 2 ^ 31) (h : nI a = nI b) : a = b := (nI_eq ha hb).mp h
theorem nb_and (a b : Nat) : nI a &&& nI b = nI (a &&& b) := by
  apply Int32.toBitVec_inj.mp
  rw [Int32.toBitVec_and, nI_bv, nI_bv, nI_bv]
  apply BitVec.eq_of_toNat_eq
  rw [BitVec.toNat_and, BitVec.toNat_ofNat, BitVec.toNat_ofNat, BitVec.toNat_ofNat, Nat.and_mod_two_pow]
theorem nb_or (a b : Nat) : nI a ||| nI b = nI (a ||| b) := by
  apply Int32.toBitVec_inj.mp
  rw [Int32.toBitVec_or, nI_bv, nI_bv, nI_bv]
  apply BitVec.eq_of_toNat_eq
  rw [BitVec.toNat_or, BitVec.toNat_ofNat, BitVec.toNat_ofNat, BitVec.toNat_ofNat, Nat.or_mod_two_pow]
theorem nb_xor (a b : Nat) : nI a ^^^ nI b = nI (a ^^^ b) := by
  apply Int32.toBitVec_inj.mp
  rw [Int32.toBitVec_xor, nI_bv, nI_bv, nI_bv]
  apply BitVec.eq_of_toNat_eq
  rw [BitVec.toNat_xor, BitVec.toNat_ofNat, BitVec.toNat_ofNat, BitVec.toNat_ofNat, Nat.xor_mod_two_pow]
theorem nb_shl1 : ∀ k, k < 31 → (1 : Int32) <<< (nI k &&& 31) = nI (2 ^ k) := by decide +kernel
theorem nb_sl : ∀ n, n < 32 → ((nI n &&& 31).toBitVec.smod 32).toNat = n := by decide +kernel
theorem nb_su : ∀ n, n < 32 → (((nI n).toUInt32 &&& Int32.toUInt32 31).toBitVec % 32).toNat = n := by decide +kernel
theorem nb_ushr {n k : Nat} (hn : n < 2 ^ 32) (hk : k < 32) : ((nI n).toUInt32 >>> ((nI k).toUInt32 &&& Int32.toUInt32 31)).toInt32 = nI (n / 2 ^ k) := pk_ushrN hn (nI k) k (nb_su k hk)
theorem nb_shr {n k : Nat} (hn : n < 2 ^ 31) (hk : k < 32) : nI n >>> (nI k &&& 31) = nI (n / 2 ^ k) := pk_shrN hn _ k (nb_sl k hk)
theorem nb_and1 (n : Nat) : nI n &&& 1 = nI (n % 2) := by
  rw [show (1 : Int32) = nI 1 from rfl, nb_and, Nat.and_one_is_mod]
theorem nb_tb (s q : Nat) : s.testBit q = decide (s / 2 ^ q % 2 = 1) := Nat.testBit_eq_decide_div_mod_eq
theorem nb_bitU {s q : Nat} (hs : s < 2 ^ 31) (hq : q < 32) : ((nI s).toUInt32 >>> ((nI q).toUInt32 &&& Int32.toUInt32 31)).toInt32 &&& 1 = b2 (s.testBit q) := by
  rw [nb_ushr (by omega) hq, nb_and1, nb_tb]
  rcases Nat.mod_two_eq_zero_or_one (s / 2 ^ q) with h | h <;> rw [h] <;> rfl
theorem nb_bitS {s q : Nat} (hs : s < 2 ^ 31) (hq : q < 32) : nI s >>> (nI q &&& 31) &&& 1 = b2 (s.testBit q) := by
  rw [nb_shr hs hq, nb_and1, nb_tb]
  rcases Nat.mod_two_eq_zero_or_one (s / 2 ^ q) with h | h <;> rw [h] <;> rfl
/-- a without b -/
def andn (a b : Nat) : Nat := a ^^^ (a &&& b)
theorem andn_tb (a b i : Nat) : (andn a b).testBit i = (a.testBit i && !b.testBit i) := by
  unfold andn
  rw [Nat.testBit_xor, Nat.testBit_and]
  cases a.testBit i <;> cases b.testBit i <;> rfl
theorem nb_andn (a b : Nat) : nI a &&& (nI b ^^^ (-1)) = nI (andn a b) := by
  unfold andn
  rw [← nb_xor, ← nb_and]
  apply Int32.toBitVec_inj.mp
  simp only [Int32.toBitVec_and, Int32.toBitVec_xor]
  apply BitVec.eq_of_getLsbD_eq
  intro i hi
  simp only [BitVec.getLsbD_and, BitVec.getLsbD_xor]
  have h1 : (-1 : Int32).toBitVec.getLsbD i = true := by
    have : ∀ i, i < 32 → (-1 : Int32).toBitVec.getLsbD i = true := by decide +kernel
    exact this i hi
  rw [h1]
  cases (nI a).toBitVec.getLsbD i <;> cases (nI b).toBitVec.getLsbD i <;> rfl
theorem tb_ext {a b : Nat} (h : ∀ i, a.testBit i = b.testBit i) : a = b := Nat.eq_of_testBit_eq h
theorem tb_lt {a n : Nat} (h : ∀ i, n ≤ i → a.testBit i = false) : a < 2 ^ n := Nat.lt_pow_two_of_testBit a h
theorem tb_hi {a n i : Nat} (h : a < 2 ^ n) (hi : n ≤ i) : a.testBit i = false := Nat.testBit_lt_two_pow (Nat.lt_of_lt_of_le h (Nat.pow_le_pow_right (by decide) hi))
theorem tb_pow (k i : Nat) : (2 ^ k).testBit i = decide (k = i) := Nat.testBit_two_pow
theorem pw24 {a : Nat} (h : a < 2 ^ 24) : a < 2 ^ 31 := Nat.lt_trans h (by decide)
theorem pw_le {n : Nat} (h : n ≤ 24) : 2 ^ n ≤ 2 ^ 24 := Nat.pow_le_pow_right (by decide) h
theorem ne_zero_tb {a : Nat} (h : a ≠ 0) : ∃ i, a.testBit i = true := Nat.exists_testBit_of_ne_zero h
theorem nI_zero_iff {n : Nat} (h : n < 2 ^ 31) : nI n = 0 ↔ n = 0 := by
  rw [← nI_0]
  exact nI_eq h (by decide)
theorem and_zero_iff {a b : Nat} : a &&& b = 0 ↔ ∀ i, ¬ (a.testBit i = true ∧ b.testBit i = true) := by
  constructor
  · intro h i ⟨h1, h2⟩
    have := congrArg (fun x => x.testBit i) h
    simp only [Nat.testBit_and, h1, h2, Nat.zero_testBit] at this
    exact absurd this (by decide)
  · intro h
    apply tb_ext
    intro i
    rw [Nat.testBit_and, Nat.zero_testBit]
    have := h i
    cases h1 : a.testBit i <;> cases h2 : b.testBit i <;> simp_all
theorem andn_zero_iff {a b : Nat} : andn a b = 0 ↔ ∀ i, a.testBit i = true → b.testBit i = true := by
  constructor
  · intro h i h1
    have := congrArg (fun x => x.testBit i) h
    simp only [andn_tb, h1, Nat.zero_testBit, Bool.true_and] at this
    cases h2 : b.testBit i <;> simp_all
  · intro h
    apply tb_ext
    intro i
    rw [andn_tb, Nat.zero_testBit]
    have := h i
    cases h1 : a.testBit i <;> cases h2 : b.testBit i <;> simp_all
theorem and_lt_l {a b n : Nat} (h : a < 2 ^ n) : a &&& b < 2 ^ n := Nat.lt_of_le_of_lt Nat.and_le_left h
theorem or_lt {a b n : Nat} (ha : a < 2 ^ n) (hb : b < 2 ^ n) : a ||| b < 2 ^ n := Nat.or_lt_two_pow ha hb
theorem xor_lt {a b n : Nat} (ha : a < 2 ^ n) (hb : b < 2 ^ n) : a ^^^ b < 2 ^ n := Nat.xor_lt_two_pow ha hb
theorem andn_lt {a b n : Nat} (ha : a < 2 ^ n) : andn a b < 2 ^ n := xor_lt ha (and_lt_l ha)
