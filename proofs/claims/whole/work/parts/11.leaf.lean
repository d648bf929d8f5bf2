/-! THE CLASS: its own small methods -/
section LF
variable {E : En} {d : Nat} {mem : Mem} {Q : Int32 → Mem → Prop}
theorem within_ok {x a b : Int32} (hQ : Q (b2 (decide (a ≤ x ∧ x ≤ b))) mem) : Call E d mX8_within [pI x, pI a, pI b] mem Q := by
  refine Call.of [some (pI x), some (pI a), some (pI b)] mk_X8_within rfl (Nat.le_of_ble_eq_true rfl) (fun _ => ?_)
  refine r_iload_0 (q := 1) dX8_within_0 rfl ?_
  refine r_iload_1 (q := 2) dX8_within_1 rfl ?_
  refine r_icmp_lt (q := 5) 14 dX8_within_2 (by decide) rfl (fun h2 => ?_) (fun h2 => ?_)
  · refine r_iconst (q := 15) 0 (by decide) dX8_within_14 rfl ?_
    refine r_zret (by first | exact Or.inl rfl | exact Or.inr rfl | assumption) rfl dX8_within_15 (?_)
    rw [show decide (a ≤ x ∧ x ≤ b) = false from decide_eq_false (fun z => absurd h2 (Int32.not_lt.mpr z.1))] at hQ
    exact hQ
  · refine r_iload_0 (q := 6) dX8_within_5 rfl ?_
    refine r_iload_2 (q := 7) dX8_within_6 rfl ?_
    refine r_icmp_gt (q := 10) 14 dX8_within_7 (by decide) rfl (fun h7 => ?_) (fun h7 => ?_)
    · refine r_iconst (q := 15) 0 (by decide) dX8_within_14 rfl ?_
      refine r_zret (by first | exact Or.inl rfl | exact Or.inr rfl | assumption) rfl dX8_within_15 (?_)
      rw [show decide (a ≤ x ∧ x ≤ b) = false from decide_eq_false (fun z => absurd h7 (Int32.not_lt.mpr z.2))] at hQ
      exact hQ
    · refine r_iconst (q := 11) 1 (by decide) dX8_within_10 rfl ?_
      refine r_goto 15 dX8_within_11 (by decide) ?_
      refine r_zret (by first | exact Or.inl rfl | exact Or.inr rfl | assumption) rfl dX8_within_15 (?_)
      rw [show decide (a ≤ x ∧ x ≤ b) = true from decide_eq_true ⟨Int32.not_lt.mp h2, Int32.not_lt.mp h7⟩] at hQ
      exact hQ
theorem oneIf_ok {b : Bool} (hQ : Q (b2 b) mem) : Call E d mX8_oneIf [pI (b2 b)] mem Q := by
  refine Call.of [some (pI (b2 b))] mk_X8_oneIf rfl (Nat.le_of_ble_eq_true rfl) (fun _ => ?_)
  refine r_iload_0 (q := 1) dX8_oneIf_0 rfl ?_
  refine r_if_eq (q := 4) 8 dX8_oneIf_1 (by decide) rfl (fun h1 => ?_) (fun h1 => ?_)
  · refine r_iconst (q := 9) 0 (by decide) dX8_oneIf_8 rfl ?_
    refine r_iret rfl dX8_oneIf_9 (?_)
    rw [b2_eq0.mp h1] at hQ
    exact hQ
  · refine r_iconst (q := 5) 1 (by decide) dX8_oneIf_4 rfl ?_
    refine r_goto 9 dX8_oneIf_5 (by decide) ?_
    refine r_iret rfl dX8_oneIf_9 (?_)
    rw [b2_ne0.mp h1] at hQ
    exact hQ
theorem contains_ok {s q : Nat} (hs : s < 2 ^ 31) (hq : q < 32) (hQ : Q (b2 (s.testBit q)) mem) : Call E d mX8_contains [pI (nI s), pI (nI q)] mem Q := by
  refine Call.of [some (pI (nI s)), some (pI (nI q))] mk_X8_contains rfl (Nat.le_of_ble_eq_true rfl) (fun _ => ?_)
  refine r_iload_0 (q := 1) dX8_contains_0 rfl ?_
  refine r_iload_1 (q := 2) dX8_contains_1 rfl ?_
  refine r_iushr (q := 3) dX8_contains_2 rfl ?_
  refine r_iconst (q := 4) 1 (by decide) dX8_contains_3 rfl ?_
  refine r_iand (q := 5) dX8_contains_4 rfl ?_
  refine r_iconst (q := 6) 1 (by decide) dX8_contains_5 rfl ?_
  rw [nb_bitU hs hq]
  refine r_icmp_ne (q := 9) 13 dX8_contains_6 (by decide) rfl (fun h6 => ?_) (fun h6 => ?_)
  · refine r_iconst (q := 14) 0 (by decide) dX8_contains_13 rfl ?_
    refine r_zret (by first | exact Or.inl rfl | exact Or.inr rfl | assumption) rfl dX8_contains_14 (?_)
    have h := fun z => h6 (b2_eq1.mpr z)
    rw [show s.testBit q = false by simpa using h] at hQ
    exact hQ
  · refine r_iconst (q := 10) 1 (by decide) dX8_contains_9 rfl ?_
    refine r_goto 14 dX8_contains_10 (by decide) ?_
    refine r_zret (by first | exact Or.inl rfl | exact Or.inr rfl | assumption) rfl dX8_contains_14 (?_)
    rw [b2_eq1.mp h6] at hQ
    exact hQ
end LF
