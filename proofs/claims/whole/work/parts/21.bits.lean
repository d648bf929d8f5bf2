/-! the number of bits -/
theorem cnt_congr {p q : Nat → Bool} : ∀ n, (∀ i, i < n → p i = q i) → cnt p n = cnt q n
  | 0, _ => rfl
  | n + 1, h => by
    unfold cnt
    rw [cnt_congr n (fun i hi => h i (by omega)), h n (by omega)]
theorem cnt_app (p : Nat → Bool) (m : Nat) : ∀ n, cnt p (m + n) = cnt p m + cnt (fun i => p (m + i)) n
  | 0 => rfl
  | n + 1 => by
    have ih := cnt_app p m n
    show cnt p (m + n) + (if p (m + n) then 1 else 0) = cnt p m + (cnt (fun i => p (m + i)) n + (if p (m + n) then 1 else 0))
    rw [ih, Nat.add_assoc]
/-- how many bits, of the first 24 -/
def popN (s : Nat) : Nat := cnt (fun i => s.testBit i) 24
theorem tb_split (h : Nat) {l : Nat} (hl : l < 2 ^ 8) (j : Nat) : (2 ^ 8 * h + l).testBit j = if j < 8 then l.testBit j else h.testBit (j - 8) := Nat.testBit_two_pow_mul_add h hl j
theorem maskB {l h m Mh k : Nat} (hl : l < 2 ^ 8) (hk : k ≤ 8) (hm : m < 2 ^ (8 - k)) : ((2 ^ 8 * h + l) / 2 ^ k) &&& (2 ^ 8 * Mh + m) = 2 ^ 8 * ((h / 2 ^ k) &&& Mh) + ((l / 2 ^ k) &&& m) := by
  have hm8 : m < 2 ^ 8 := Nat.lt_of_lt_of_le hm (Nat.pow_le_pow_right (by decide) (by omega))
  have hr : (l / 2 ^ k) &&& m < 2 ^ 8 := Nat.lt_of_le_of_lt Nat.and_le_right hm8
  apply tb_ext
  intro j
  rw [Nat.testBit_and, Nat.testBit_div_two_pow, tb_split h hl, tb_split Mh hm8, tb_split _ hr]
  by_cases hj : j < 8
  · rw [if_pos hj, if_pos hj, Nat.testBit_and, Nat.testBit_div_two_pow]
    by_cases hjk : k + j < 8
    · rw [if_pos (by omega)]
    · rw [tb_hi hm (show 8 - k ≤ j by omega)]
      simp
  · rw [if_neg hj, if_neg hj, if_neg (by omega), Nat.testBit_and, Nat.testBit_div_two_pow]
    rw [show j + k - 8 = j - 8 + k by omega]
def p81 (a : Nat) : Nat := a - ((a / 2 ^ 1) &&& 85)
def p82 (a : Nat) : Nat := ((p81 a / 2 ^ 0) &&& 51) + ((p81 a / 2 ^ 2) &&& 51)
theorem p8_all : ∀ a, a < 256 → p81 a ≤ a ∧ p82 a % 16 ≤ 4 ∧ p82 a / 16 ≤ 4 ∧ p82 a % 16 + p82 a / 16 = cnt (fun i => a.testBit i) 8 ∧ ((a / 2 ^ 1) &&& 21845) = ((a / 2 ^ 1) &&& 85) ∧ (a / 2 ^ 1) &&& 85 ≤ a ∧ ((p81 a / 2 ^ 0) &&& 13107) = ((p81 a / 2 ^ 0) &&& 51) ∧ ((p81 a / 2 ^ 2) &&& 13107) = ((p81 a / 2 ^ 2) &&& 51) := by decide +kernel
theorem lm16 {u v : Nat} (h : v < 16) : (16 * u + v) % 16 = v := by omega
theorem fin64 {x y z : Nat} (hx : x ≤ 8) (hy : y ≤ 8) (hz : z ≤ 8) : (2 ^ 8 * (2 ^ 8 * z + y) + x + (2 ^ 8 * (2 ^ 8 * z + y) + x) / 2 ^ 8 + (2 ^ 8 * (2 ^ 8 * z + y) + x + (2 ^ 8 * (2 ^ 8 * z + y) + x) / 2 ^ 8) / 2 ^ 16) % 2 ^ 6 = x + (y + z) := by
  have d1 : (2 ^ 8 * (2 ^ 8 * z + y) + x) / 2 ^ 8 = 256 * z + y := by omega
  rw [d1]
  have d2 : (2 ^ 8 * (2 ^ 8 * z + y) + x + (256 * z + y)) / 2 ^ 16 = z := by omega
  rw [d2]
  omega
theorem pop_val {s : Nat} (hs : s < 2 ^ 24) : ∃ i1 i2 i3 : Nat, i1 = s - ((s / 2 ^ 1) &&& 1431655765) ∧ ((s / 2 ^ 1) &&& 1431655765) ≤ s ∧ i1 < 2 ^ 24 ∧ i2 = (i1 &&& 858993459) + ((i1 / 2 ^ 2) &&& 858993459) ∧ i2 < 2 ^ 24 ∧ i3 = (i2 + i2 / 2 ^ 4) &&& 252645135 ∧ i3 < 2 ^ 24 ∧ (i3 + i3 / 2 ^ 8 + (i3 + i3 / 2 ^ 8) / 2 ^ 16) &&& 63 = popN s := by
  obtain ⟨a, b, c, ha, hb, hc, rfl⟩ : ∃ a b c : Nat, a < 256 ∧ b < 256 ∧ c < 256 ∧ s = 2 ^ 8 * (2 ^ 8 * c + b) + a := ⟨s % 256, s / 256 % 256, s / 65536, Nat.mod_lt _ (by decide), Nat.mod_lt _ (by decide), by omega, by omega⟩
  obtain ⟨a1, a2, a3, a4, -, a5, -, -⟩ := p8_all a ha
  obtain ⟨b1, b2, b3, b4, -, b5, -, -⟩ := p8_all b hb
  obtain ⟨c1, c2, c3, c4, cx, c5, cy, cz⟩ := p8_all c hc
  have e1 : ((2 ^ 8 * (2 ^ 8 * c + b) + a) / 2 ^ 1) &&& 1431655765 = 2 ^ 8 * (2 ^ 8 * ((c / 2 ^ 1) &&& 85) + ((b / 2 ^ 1) &&& 85)) + ((a / 2 ^ 1) &&& 85) := by
    rw [show (1431655765 : Nat) = 2 ^ 8 * (2 ^ 8 * 21845 + 85) + 85 from rfl, maskB ha (by decide) (by decide), maskB hb (by decide) (by decide), cx]
  have e2 : 2 ^ 8 * (2 ^ 8 * c + b) + a - (((2 ^ 8 * (2 ^ 8 * c + b) + a) / 2 ^ 1) &&& 1431655765) = 2 ^ 8 * (2 ^ 8 * p81 c + p81 b) + p81 a := by
    rw [e1]
    unfold p81
    omega
  have e3 : ∀ k, k = 0 ∨ k = 2 → ((2 ^ 8 * (2 ^ 8 * p81 c + p81 b) + p81 a) / 2 ^ k) &&& 858993459 = 2 ^ 8 * (2 ^ 8 * ((p81 c / 2 ^ k) &&& 51) + ((p81 b / 2 ^ k) &&& 51)) + ((p81 a / 2 ^ k) &&& 51) := by
    intro k hk
    rw [show (858993459 : Nat) = 2 ^ 8 * (2 ^ 8 * 13107 + 51) + 51 from rfl]
    rcases hk with rfl | rfl
    · rw [maskB (by omega) (by decide) (by decide), maskB (by omega) (by decide) (by decide), cy]
    · rw [maskB (by omega) (by decide) (by decide), maskB (by omega) (by decide) (by decide), cz]
  have e4 : (2 ^ 8 * (2 ^ 8 * p81 c + p81 b) + p81 a &&& 858993459) + (((2 ^ 8 * (2 ^ 8 * p81 c + p81 b) + p81 a) / 2 ^ 2) &&& 858993459) = 2 ^ 8 * (2 ^ 8 * p82 c + p82 b) + p82 a := by
    have h0 := e3 0 (Or.inl rfl)
    rw [Nat.pow_zero, Nat.div_one] at h0
    rw [h0, e3 2 (Or.inr rfl)]
    unfold p82
    rw [Nat.pow_zero, Nat.div_one, Nat.div_one, Nat.div_one]
    omega
  generalize p82 a = x at *
  generalize p82 b = y at *
  generalize p82 c = z at *
  have e5 : (2 ^ 8 * (2 ^ 8 * z + y) + x + (2 ^ 8 * (2 ^ 8 * z + y) + x) / 2 ^ 4) &&& 252645135 = 2 ^ 8 * (2 ^ 8 * (z % 16 + z / 16) + (y % 16 + y / 16)) + (x % 16 + x / 16) := by
    have h1 : 2 ^ 8 * (2 ^ 8 * z + y) + x + (2 ^ 8 * (2 ^ 8 * z + y) + x) / 2 ^ 4 = 2 ^ 8 * (2 ^ 8 * (16 * (z / 16) + (z % 16 + z / 16)) + (16 * (y / 16 + z % 16) + (y % 16 + y / 16))) + (16 * (x / 16 + y % 16) + (x % 16 + x / 16)) := by omega
    rw [h1]
    have m1 : ∀ h l Mh : Nat, l < 2 ^ 8 → (2 ^ 8 * h + l) &&& (2 ^ 8 * Mh + 15) = 2 ^ 8 * (h &&& Mh) + l % 16 := by
      intro h l Mh hl
      have := maskB (h := h) (Mh := Mh) (m := 15) (k := 0) hl (by decide) (by decide)
      rw [Nat.pow_zero, Nat.div_one, Nat.div_one, Nat.div_one] at this
      rw [this, show (15 : Nat) = 2 ^ 4 - 1 from rfl, Nat.and_two_pow_sub_one_eq_mod]
    rw [show (252645135 : Nat) = 2 ^ 8 * (2 ^ 8 * 3855 + 15) + 15 from rfl, m1 _ _ _ (by omega), m1 _ _ _ (by omega)]
    have m2 := m1 0 (16 * (z / 16) + (z % 16 + z / 16)) 15 (by omega)
    rw [Nat.mul_zero, Nat.zero_add, Nat.zero_and, Nat.mul_zero, Nat.zero_add] at m2
    rw [show (3855 : Nat) = 2 ^ 8 * 15 + 15 from rfl, m2, lm16 (by omega), lm16 (by omega), lm16 (by omega)]
  refine ⟨_, _, _, rfl, ?_, ?_, rfl, ?_, rfl, ?_, ?_⟩
  · rw [e1]; omega
  · rw [e2]; omega
  · rw [e2, e4]; omega
  · rw [e2, e4, e5]; omega
  · rw [e2, e4, e5, show (63 : Nat) = 2 ^ 6 - 1 from rfl, Nat.and_two_pow_sub_one_eq_mod]
    have hp : popN (2 ^ 8 * (2 ^ 8 * c + b) + a) = (x % 16 + x / 16) + ((y % 16 + y / 16) + (z % 16 + z / 16)) := by
      unfold popN
      rw [show 24 = 8 + (8 + 8) from rfl, cnt_app, cnt_app, a4, b4, c4]
      congr 1
      · exact cnt_congr 8 (fun i hi => by rw [tb_split _ ha, if_pos hi])
      · congr 1
        · exact cnt_congr 8 (fun i hi => by rw [tb_split _ ha, if_neg (by omega), tb_split _ hb, if_pos (by omega)]; congr 1; omega)
        · exact cnt_congr 8 (fun i hi => by rw [tb_split _ ha, if_neg (by omega), tb_split _ hb, if_neg (by omega)]; congr 1; omega)
    rw [hp]
    exact fin64 (by omega) (by omega) (by omega)
theorem bitCount_ok {E : En} {d : Nat} {mem : Mem} {Q : Int32 → Mem → Prop} {s : Nat} (hs : s < 2 ^ 24) (hQ : Q (nI (popN s)) mem) : Call E d mJ6_bitCount_0f7a4 [pI (nI s)] mem Q := by
  refine Call.of [some (pI (nI s))] mk_J6_bitCount_0f7a4 rfl (Nat.le_of_ble_eq_true rfl) (fun _ => ?_)
  obtain ⟨i1, i2, i3, e1, e2, e3, e4, e5, e6, e7, e8⟩ := pop_val hs
  refine r_iload_0 (q := 1) dJ6_bitCount_0f7a4_0 rfl ?_
  refine r_iload_0 (q := 2) dJ6_bitCount_0f7a4_1 rfl ?_
  refine r_iconst (q := 3) 1 (by decide) dJ6_bitCount_0f7a4_2 rfl ?_
  refine r_iushr (q := 4) dJ6_bitCount_0f7a4_3 rfl ?_
  rw [show (1 : Int32) = nI 1 from rfl, nb_ushr (by omega) (by decide)]
  refine r_ldcw (q := 7) k_519 dJ6_bitCount_0f7a4_4 rfl ?_
  refine r_iand (q := 8) dJ6_bitCount_0f7a4_7 rfl ?_
  refine r_isub (q := 9) dJ6_bitCount_0f7a4_8 rfl ?_
  rw [show (1431655765 : Int32) = nI 1431655765 from by decide, nb_and, pk_sub e2, ← e1]
  refine r_istore_0 (q := 10) (by decide) dJ6_bitCount_0f7a4_9 rfl ?_
  refine r_iload_0 (q := 11) dJ6_bitCount_0f7a4_10 rfl ?_
  refine r_ldcw (q := 14) k_520 dJ6_bitCount_0f7a4_11 rfl ?_
  refine r_iand (q := 15) dJ6_bitCount_0f7a4_14 rfl ?_
  refine r_iload_0 (q := 16) dJ6_bitCount_0f7a4_15 rfl ?_
  refine r_iconst (q := 17) 2 (by decide) dJ6_bitCount_0f7a4_16 rfl ?_
  refine r_iushr (q := 18) dJ6_bitCount_0f7a4_17 rfl ?_
  rw [show (2 : Int32) = nI 2 from rfl, nb_ushr (by omega) (by decide)]
  refine r_ldcw (q := 21) k_520 dJ6_bitCount_0f7a4_18 rfl ?_
  refine r_iand (q := 22) dJ6_bitCount_0f7a4_21 rfl ?_
  refine r_iadd (q := 23) dJ6_bitCount_0f7a4_22 rfl ?_
  rw [show (858993459 : Int32) = nI 858993459 from by decide, nb_and, nb_and, nI_add, ← e4]
  refine r_istore_0 (q := 24) (by decide) dJ6_bitCount_0f7a4_23 rfl ?_
  refine r_iload_0 (q := 25) dJ6_bitCount_0f7a4_24 rfl ?_
  refine r_iload_0 (q := 26) dJ6_bitCount_0f7a4_25 rfl ?_
  refine r_iconst (q := 27) 4 (by decide) dJ6_bitCount_0f7a4_26 rfl ?_
  refine r_iushr (q := 28) dJ6_bitCount_0f7a4_27 rfl ?_
  rw [show (4 : Int32) = nI 4 from rfl, nb_ushr (by omega) (by decide)]
  refine r_iadd (q := 29) dJ6_bitCount_0f7a4_28 rfl ?_
  refine r_ldcw (q := 32) k_521 dJ6_bitCount_0f7a4_29 rfl ?_
  refine r_iand (q := 33) dJ6_bitCount_0f7a4_32 rfl ?_
  rw [show (252645135 : Int32) = nI 252645135 from by decide, nI_add, nb_and, ← e6]
  refine r_istore_0 (q := 34) (by decide) dJ6_bitCount_0f7a4_33 rfl ?_
  refine r_iload_0 (q := 35) dJ6_bitCount_0f7a4_34 rfl ?_
  refine r_iload_0 (q := 36) dJ6_bitCount_0f7a4_35 rfl ?_
  refine r_bipush (q := 38) 8 (by decide) dJ6_bitCount_0f7a4_36 rfl ?_
  refine r_iushr (q := 39) dJ6_bitCount_0f7a4_38 rfl ?_
  rw [show (8 : Int32) = nI 8 from rfl, nb_ushr (by omega) (by decide)]
  refine r_iadd (q := 40) dJ6_bitCount_0f7a4_39 rfl ?_
  rw [nI_add]
  refine r_istore_0 (q := 41) (by decide) dJ6_bitCount_0f7a4_40 rfl ?_
  refine r_iload_0 (q := 42) dJ6_bitCount_0f7a4_41 rfl ?_
  refine r_iload_0 (q := 43) dJ6_bitCount_0f7a4_42 rfl ?_
  refine r_bipush (q := 45) 16 (by decide) dJ6_bitCount_0f7a4_43 rfl ?_
  refine r_iushr (q := 46) dJ6_bitCount_0f7a4_45 rfl ?_
  rw [show (16 : Int32) = nI 16 from rfl, nb_ushr (by omega) (by decide)]
  refine r_iadd (q := 47) dJ6_bitCount_0f7a4_46 rfl ?_
  rw [nI_add]
  refine r_istore_0 (q := 48) (by decide) dJ6_bitCount_0f7a4_47 rfl ?_
  refine r_iload_0 (q := 49) dJ6_bitCount_0f7a4_48 rfl ?_
  refine r_bipush (q := 51) 63 (by decide) dJ6_bitCount_0f7a4_49 rfl ?_
  refine r_iand (q := 52) dJ6_bitCount_0f7a4_51 rfl ?_
  rw [show (63 : Int32) = nI 63 from rfl, nb_and, e8]
  refine r_iret rfl dJ6_bitCount_0f7a4_52 (?_)
  exact hQ
