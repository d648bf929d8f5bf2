/-! THE REFERENCE: sums, fit, broken, spread, look, told, count -/
theorem wsub10 (w : Int32) : decide (0 ≤ w - 10 ∧ w - 10 ≤ 9) = decide (10 ≤ w ∧ w ≤ 19) := by
  rw [Bool.eq_iff_iff]
  constructor
  · intro h
    obtain ⟨q, -, h2, h3⟩ := in_ab (a := 0) (b := 9) (by decide) (by decide) h
    have e : w = nI (q + 10) := by
      rw [← nI_add, ← h3]
      show w = w - 10 + 10
      exact (Int32.sub_add_cancel w 10).symm
    rw [e]
    exact decide_eq_true ⟨nI_le (a := 10) (by omega) (by omega), nI_le (b := 19) (by omega) (by decide)⟩
  · intro h
    obtain ⟨q, h1, h2, rfl⟩ := in_ab (a := 10) (b := 19) (by decide) (by decide) h
    rw [show nI q - 10 = nI (q - 10) from pk_sub (b := 10) h1]
    exact decide_eq_true ⟨nI_pos' (by omega), nI_le (b := 9) (by omega) (by decide)⟩
theorem bnot_f {b : Bool} (h : (!b) = false) : b = true := by cases b <;> simp_all
/-- the questions at hand -/
def hdT (B : BD) : Nat → List Nat
  | 0 => []
  | k + 1 => if restB B k then hdT B k else hdT B k ++ [k]
theorem hdT_len (B : BD) : ∀ k, (hdT B k).length = cnt (fun q => !restB B q) k
  | 0 => rfl
  | k + 1 => by
    have ih := hdT_len B k
    unfold hdT cnt
    cases restB B k
    · simp [ih]
    · simp [ih]
def hdL (B : BD) : List Nat := hdT B (bN B)
theorem hdL_len (B : BD) : (hdL B).length = handB B := hdT_len B _
theorem odd_ex : ∀ s : Nat, s ≠ 0 → ∃ k m, s = 2 ^ k * (2 * m + 1) := by
  intro s
  induction s using Nat.strongRecOn with
  | _ s ih =>
    intro h
    rcases Nat.mod_two_eq_zero_or_one s with e | e
    · obtain ⟨k, m, hk⟩ := ih (s / 2) (by omega) (by omega)
      refine ⟨k + 1, m, ?_⟩
      rw [Nat.pow_succ, Nat.mul_comm (2 ^ k) 2, Nat.mul_assoc, ← hk]
      omega
    · exact ⟨0, s / 2, by omega⟩
theorem lowoff {s : Nat} (h : s ≠ 0) : ∃ k, s.testBit k = true ∧ (∀ j, j < k → s.testBit j = false) ∧ ∀ i, (s &&& (s - 1)).testBit i = (s.testBit i && decide (i ≠ k)) := by
  obtain ⟨k, m, rfl⟩ := odd_ex s h
  have hp : 0 < 2 ^ k := Nat.pow_pos (by decide)
  have t1 : ∀ i, (2 ^ k * (2 * m + 1)).testBit i = if i < k then false else (2 * m + 1).testBit (i - k) := by
    intro i
    have := Nat.testBit_two_pow_mul_add (2 * m + 1) hp i
    rw [Nat.add_zero, Nat.zero_testBit] at this
    exact this
  have t2 : ∀ i, (2 ^ k * (2 * m + 1) - 1).testBit i = if i < k then (2 ^ k - 1).testBit i else (2 * m).testBit (i - k) := by
    intro i
    have := Nat.testBit_two_pow_mul_add (2 * m) (show 2 ^ k - 1 < 2 ^ k by omega) i
    rw [show 2 ^ k * (2 * m) + (2 ^ k - 1) = 2 ^ k * (2 * m + 1) - 1 by rw [Nat.mul_add, Nat.mul_one]; omega] at this
    exact this
  refine ⟨k, ?_, fun j hj => by rw [t1, if_pos hj], fun i => ?_⟩
  · rw [t1, if_neg (Nat.lt_irrefl k), Nat.sub_self, Nat.testBit_zero]
    simp
  · rw [Nat.testBit_and, t1, t2]
    by_cases hi : i < k
    · rw [if_pos hi]; simp
    · rw [if_neg hi, if_neg hi]
      by_cases e : i = k
      · subst e; rw [Nat.sub_self, Nat.testBit_zero, Nat.testBit_zero]; simp
      · obtain ⟨j, hj⟩ : ∃ j, i - k = j + 1 := ⟨i - k - 1, by omega⟩
        rw [hj, Nat.testBit_succ, Nat.testBit_succ, show (2 * m + 1) / 2 = m by omega, show 2 * m / 2 = m by omega]
        simp [e]
theorem cnt_rm {p : Nat → Bool} {k : Nat} (hp : p k = true) : ∀ n, k < n → cnt (fun i => p i && decide (i ≠ k)) n + 1 = cnt p n
  | 0, h => absurd h (Nat.not_lt_zero k)
  | n + 1, h => by
    unfold cnt
    by_cases e : k = n
    · subst e
      have : cnt (fun i => p i && decide (i ≠ k)) k = cnt p k := cnt_congr k (fun i hi => by rw [decide_eq_true (by omega : i ≠ k), Bool.and_true])
      rw [this, hp]
      simp
    · have ih := cnt_rm hp n (by omega)
      have e2 : (p n && decide (n ≠ k)) = p n := by
        have hne : n ≠ k := fun z => e z.symm
        simp [hne]
      show cnt (fun i => p i && decide (i ≠ k)) n + (if (p n && decide (n ≠ k)) = true then 1 else 0) + 1 = _
      rw [e2]
      omega
theorem popN_off {s : Nat} (hs : s < 2 ^ 24) (h : s ≠ 0) : popN (s &&& (s - 1)) + 1 = popN s := by
  obtain ⟨k, h1, -, h2⟩ := lowoff h
  have hk : k < 24 := by
    rcases Nat.lt_or_ge k 24 with z | z
    · exact z
    · rw [tb_hi hs z] at h1; cases h1
  unfold popN
  rw [← cnt_rm (p := fun i => s.testBit i) h1 24 hk]
  congr 1
  exact cnt_congr 24 (fun i _ => h2 i)
section MS
variable {E : En} {d : Nat} {mem : Mem} {Q : Int32 → Mem → Prop} {B : BD} {L : LD}
theorem msize_ok {s : Nat} (hs : s < 2 ^ 24) (hQ : Q (nI (popN s)) mem) : Call E d mX9_size [pI (nI s)] mem Q := by
  refine Call.of [some (pI (nI s)), none, none] mk_X9_size rfl (Nat.le_of_ble_eq_true rfl) (fun _ => ?_)
  refine r_iconst (q := 1) 0 (by decide) dX9_size_0 rfl ?_
  refine r_istore_1 (q := 2) (by decide) dX9_size_1 rfl ?_
  refine r_iload_0 (q := 3) dX9_size_2 rfl ?_
  refine r_istore_2 (q := 4) (by decide) dX9_size_3 rfl ?_
  suffices H : ∀ k n v, v < 2 ^ 24 → popN v < k → n + popN v = popN s → Wp E (xm E d mX9_size Q) mX9_size 4 [some (pI (nI s)), some (pI (nI n)), some (pI (nI v))] [] mem from H (popN s + 1) 0 s hs (by omega) (by omega)
  intro k
  induction k with
  | zero => intro n v _ h; omega
  | succ k ih =>
    intro n v hv h1 h2
    refine r_iload_2 (q := 5) dX9_size_4 rfl ?_
    refine r_if_eq (q := 8) 20 dX9_size_5 (by decide) rfl (fun h5 => ?_) (fun h5 => ?_)
    · have h5 : v = 0 := (nI_zero_iff (pw24 hv)).mp h5
      subst h5
      have h2 : n = popN s := by rw [← h2]; rfl
      subst h2
      refine r_iload_1 (q := 21) dX9_size_20 rfl ?_
      refine r_iret rfl dX9_size_21 (?_)
      exact hQ
    · have h5 : v ≠ 0 := fun z => h5 (by rw [z]; rfl)
      have hp := popN_off hv h5
      refine r_iinc_1 (q := 11) _ (nI_inc _) (by decide) dX9_size_8 rfl ?_
      refine r_iload_2 (q := 12) dX9_size_11 rfl ?_
      refine r_iload_2 (q := 13) dX9_size_12 rfl ?_
      refine r_iconst (q := 14) 1 (by decide) dX9_size_13 rfl ?_
      refine r_isub (q := 15) dX9_size_14 rfl ?_
      rw [show nI v - 1 = nI (v - 1) from pk_sub (b := 1) (by omega)]
      refine r_iand (q := 16) dX9_size_15 rfl ?_
      rw [nb_and]
      refine r_istore_2 (q := 17) (by decide) dX9_size_16 rfl ?_
      refine r_goto 4 dX9_size_17 (by decide) ?_
      exact ih (n + 1) _ (and_lt_l hv) (by omega) (by omega)
theorem mone_ok {q r : Nat} (hB : Bm B mem) (hq : q < 24) (hr : r < 24) (hQ : Q (b2 (mateB B q r)) mem) : Call E d mX9_areOnePassage [pR 36 0, pI (nI q), pI (nI r)] mem Q := by
  refine Call.of [some (pR 36 0), some (pI (nI q)), some (pI (nI r))] mk_X9_areOnePassage rfl (Nat.le_of_ble_eq_true rfl) (fun _ => ?_)
  have e1 := (hB.2.2.2.1 q).2.2.2.2.2.1
  have e2 := (hB.2.2.2.1 r).2.2.2.2.2.1
  refine r_aload_0 (q := 1) dX9_areOnePassage_0 rfl ?_
  refine r_getR (k := 8) (q := 4) f_RX9_29_8 rfl rfl dX9_areOnePassage_1 rfl ?_
  refine r_iload_1 (q := 5) dX9_areOnePassage_4 rfl ?_
  refine r_iald (q := 6) _ rfl rfl (by first | omega | assumption | decide) dX9_areOnePassage_5 rfl ?_
  refine r_iconst (q := 7) (-1) (by decide) dX9_areOnePassage_6 rfl ?_
  refine r_icmp_eq (q := 10) 29 dX9_areOnePassage_7 (by decide) rfl (fun h7 => ?_) (fun h7 => ?_)
  · refine r_iconst (q := 30) 0 (by decide) dX9_areOnePassage_29 rfl ?_
    refine r_zret (by first | exact Or.inl rfl | exact Or.inr rfl | assumption) rfl dX9_areOnePassage_30 (?_)
    rw [e1] at h7
    rw [show mateB B q r = false from decide_eq_false (fun z => z.1 h7)] at hQ
    exact hQ
  · refine r_aload_0 (q := 11) dX9_areOnePassage_10 rfl ?_
    refine r_getR (k := 8) (q := 14) f_RX9_29_8 rfl rfl dX9_areOnePassage_11 rfl ?_
    refine r_iload_1 (q := 15) dX9_areOnePassage_14 rfl ?_
    refine r_iald (q := 16) _ rfl rfl (by first | omega | assumption | decide) dX9_areOnePassage_15 rfl ?_
    refine r_aload_0 (q := 17) dX9_areOnePassage_16 rfl ?_
    refine r_getR (k := 8) (q := 20) f_RX9_29_8 rfl rfl dX9_areOnePassage_17 rfl ?_
    refine r_iload_2 (q := 21) dX9_areOnePassage_20 rfl ?_
    refine r_iald (q := 22) _ rfl rfl (by first | omega | assumption | decide) dX9_areOnePassage_21 rfl ?_
    refine r_icmp_ne (q := 25) 29 dX9_areOnePassage_22 (by decide) rfl (fun h22 => ?_) (fun h22 => ?_)
    · refine r_iconst (q := 30) 0 (by decide) dX9_areOnePassage_29 rfl ?_
      refine r_zret (by first | exact Or.inl rfl | exact Or.inr rfl | assumption) rfl dX9_areOnePassage_30 (?_)
      rw [e1, e2] at h22
      rw [show mateB B q r = false from decide_eq_false (fun z => h22 z.2.symm)] at hQ
      exact hQ
    · refine r_iconst (q := 26) 1 (by decide) dX9_areOnePassage_25 rfl ?_
      refine r_goto 30 dX9_areOnePassage_26 (by decide) ?_
      refine r_zret (by first | exact Or.inl rfl | exact Or.inr rfl | assumption) rfl dX9_areOnePassage_30 (?_)
      rw [e1, e2] at h22
      rw [e1] at h7
      rw [show mateB B q r = true from decide_eq_true ⟨h7, h22.symm⟩] at hQ
      exact hQ
theorem madds_ok {q b : Nat} (hB : Bm B mem) (hW : WFB B) (hq : q < bN B) (hb : b < 10) (hQ : Q (nI (wN B q b)) mem) : Call E d mX9_adds [pR 36 0, pI (nI q), pI (nI b)] mem Q := by
  refine Call.of [some (pR 36 0), some (pI (nI q)), some (pI (nI b))] mk_X9_adds rfl (Nat.le_of_ble_eq_true rfl) (fun _ => ?_)
  have h24 := hW.1
  have hf := hW.2.2.2.2 q hq
  have hm := hB.2.2.2.1 q
  refine r_iload_2 (q := 1) dX9_adds_0 rfl ?_
  have mk : wN B q b = fMrk B q → Wp E (xm E d mX9_adds Q) mX9_adds 60 [some (pR 36 0), some (pI (nI q)), some (pI (nI b))] [] mem := by
    intro e
    rw [e] at hQ
    refine r_aload_0 (q := 61) dX9_adds_60 rfl ?_
    refine r_getR (k := 6) (q := 64) f_RX9_23_8 rfl rfl dX9_adds_61 rfl ?_
    refine r_iload_1 (q := 65) dX9_adds_64 rfl ?_
    refine r_iald (q := 66) _ rfl rfl (by first | omega | assumption | decide) dX9_adds_65 rfl ?_
    rw [hm.2.2.2.1, hf.2.2.1]
    refine r_goto 70 dX9_adds_66 (by decide) ?_
    refine r_iret rfl dX9_adds_70 (?_)
    exact hQ
  have no : wN B q b = 0 → Wp E (xm E d mX9_adds Q) mX9_adds 69 [some (pR 36 0), some (pI (nI q)), some (pI (nI b))] [] mem := by
    intro e
    rw [e] at hQ
    refine r_iconst (q := 70) 0 (by decide) dX9_adds_69 rfl ?_
    refine r_iret rfl dX9_adds_70 (?_)
    exact hQ
  refine r_if_ne (q := 4) 6 dX9_adds_1 (by decide) rfl (fun h1 => ?_) (fun h1 => ?_)
  · have h1 : ¬ b = 0 := fun z => h1 (by rw [z]; rfl)
    refine r_iload_2 (q := 7) dX9_adds_6 rfl ?_
    refine r_iconst (q := 8) 1 (by decide) dX9_adds_7 rfl ?_
    refine r_icmp_ne (q := 11) 18 dX9_adds_8 (by decide) rfl (fun h8 => ?_) (fun h8 => ?_)
    · have h8 : ¬ b = 1 := fun z => h8 (by rw [z]; rfl)
      refine r_iload_2 (q := 19) dX9_adds_18 rfl ?_
      refine r_iconst (q := 20) 2 (by decide) dX9_adds_19 rfl ?_
      refine r_icmp_eq (q := 23) 60 dX9_adds_20 (by decide) rfl (fun h20 => ?_) (fun h20 => ?_)
      · have h20 : b = 2 := nI_inj (b := 2) (by omega) (by decide) h20
        exact mk (by unfold wN; rw [if_neg h1, if_neg h8, if_pos h20])
      · have h20 : ¬ b = 2 := fun z => h20 (by rw [z]; rfl)
        have e0 : wN B q b = if b < 7 then (if bF B q 0 = nI b - 3 then fMrk B q else 0) else (if bF B q 1 = nI b - 7 then fMrk B q else 0) := by unfold wN; rw [if_neg h1, if_neg h8, if_neg h20]
        have J : ¬ b < 7 ∨ ¬ bF B q 0 = nI b - 3 → Wp E (xm E d mX9_adds Q) mX9_adds 41 [some (pR 36 0), some (pI (nI q)), some (pI (nI b))] [] mem := by
          intro hj
          refine r_iload_2 (q := 42) dX9_adds_41 rfl ?_
          refine r_bipush (q := 44) 6 (by decide) dX9_adds_42 rfl ?_
          refine r_icmp_le (q := 47) 69 dX9_adds_44 (by decide) rfl (fun h44 => ?_) (fun h44 => ?_)
          · have h44 : b ≤ 6 := nI_ge_of (b := 6) (by omega) (by decide) h44
            exact no (by rw [e0, if_pos (by omega), if_neg (by rcases hj with z | z; omega; exact z)])
          · have h44 : 6 < b := nI_lt_of (b := 6) (by decide) h44
            refine r_aload_0 (q := 48) dX9_adds_47 rfl ?_
            refine r_getR (k := 4) (q := 51) f_RX9_17_8 rfl rfl dX9_adds_48 rfl ?_
            refine r_iload_1 (q := 52) dX9_adds_51 rfl ?_
            refine r_iald (q := 53) _ rfl rfl (by first | omega | assumption | decide) dX9_adds_52 rfl ?_
            rw [hm.2.1]
            refine r_iload_2 (q := 54) dX9_adds_53 rfl ?_
            refine r_bipush (q := 56) 7 (by decide) dX9_adds_54 rfl ?_
            refine r_isub (q := 57) dX9_adds_56 rfl ?_
            refine r_icmp_ne (q := 60) 69 dX9_adds_57 (by decide) rfl (fun h57 => ?_) (fun h57 => ?_)
            · exact no (by rw [e0, if_neg (by omega), if_neg h57])
            · exact mk (by rw [e0, if_neg (by omega), if_pos h57])
        refine r_iload_2 (q := 24) dX9_adds_23 rfl ?_
        refine r_bipush (q := 26) 7 (by decide) dX9_adds_24 rfl ?_
        refine r_icmp_ge (q := 29) 41 dX9_adds_26 (by decide) rfl (fun h26 => ?_) (fun h26 => ?_)
        · have h26 : 7 ≤ b := nI_ge_of (a := 7) (by decide) (by omega) h26
          exact J (Or.inl (by omega))
        · have h26 : b < 7 := nI_lt_of (a := 7) (by omega) h26
          refine r_aload_0 (q := 30) dX9_adds_29 rfl ?_
          refine r_getR (k := 3) (q := 33) f_RX9_13_8 rfl rfl dX9_adds_30 rfl ?_
          refine r_iload_1 (q := 34) dX9_adds_33 rfl ?_
          refine r_iald (q := 35) _ rfl rfl (by first | omega | assumption | decide) dX9_adds_34 rfl ?_
          rw [hm.1]
          refine r_iload_2 (q := 36) dX9_adds_35 rfl ?_
          refine r_iconst (q := 37) 3 (by decide) dX9_adds_36 rfl ?_
          refine r_isub (q := 38) dX9_adds_37 rfl ?_
          refine r_icmp_eq (q := 41) 60 dX9_adds_38 (by decide) rfl (fun h38 => ?_) (fun h38 => ?_)
          · exact mk (by rw [e0, if_pos h26, if_pos h38])
          · exact J (Or.inr h38)
    · have h8 : b = 1 := nI_inj (b := 1) (by omega) (by decide) h8
      subst h8
      have e : wN B q 1 = fMin B q := rfl
      rw [e] at hQ
      refine r_aload_0 (q := 12) dX9_adds_11 rfl ?_
      refine r_getR (k := 5) (q := 15) f_RX9_20_8 rfl rfl dX9_adds_12 rfl ?_
      refine r_iload_1 (q := 16) dX9_adds_15 rfl ?_
      refine r_iald (q := 17) _ rfl rfl (by first | omega | assumption | decide) dX9_adds_16 rfl ?_
      rw [hm.2.2.1, hf.1]
      refine r_iret rfl dX9_adds_17 (?_)
      exact hQ
  · have h1 : b = 0 := (nI_zero_iff (by omega)).mp h1
    subst h1
    refine r_iconst (q := 5) 1 (by decide) dX9_adds_4 rfl ?_
    refine r_iret rfl dX9_adds_5 (?_)
    exact hQ
theorem msum_ok {s b : Nat} (hB : Bm B mem) (hW : WFB B) (hs : s < 2 ^ 24) (hb : b < 10) (hQ : Q (nI (sumN B s b)) mem) : Call E (d + 1) mX9_sumOf [pR 36 0, pI (nI s), pI (nI b)] mem Q := by
  refine Call.of [some (pR 36 0), some (pI (nI s)), some (pI (nI b)), none, none] mk_X9_sumOf rfl (Nat.le_of_ble_eq_true rfl) (fun _ => ?_)
  have h24 := hW.1
  refine r_iconst (q := 1) 0 (by decide) dX9_sumOf_0 rfl ?_
  refine r_istore_3 (q := 2) (by decide) dX9_sumOf_1 rfl ?_
  refine r_iconst (q := 3) 0 (by decide) dX9_sumOf_2 rfl ?_
  refine r_istore_4 (q := 5) (by decide) dX9_sumOf_3 rfl ?_
  suffices H : ∀ k q, bN B - q < k → q ≤ bN B → Wp E (xm E (d + 1) mX9_sumOf Q) mX9_sumOf 5 [some (pR 36 0), some (pI (nI s)), some (pI (nI b)), some (pI (nI (sumf (fun q => if s.testBit q then wN B q b else 0) q))), some (pI (nI q))] [] mem from H (bN B + 1) 0 (by omega) (by omega)
  intro k
  induction k with
  | zero => intro q h; omega
  | succ k ih =>
    intro q h1 h2
    refine r_iload_4 (q := 7) dX9_sumOf_5 rfl ?_
    refine r_aload_0 (q := 8) dX9_sumOf_7 rfl ?_
    refine r_getI (k := 0) (q := 11) f_RX9_83_8 rfl rfl dX9_sumOf_8 rfl ?_
    rw [hB.1]
    refine r_icmp_ge (q := 14) 43 dX9_sumOf_11 (by decide) rfl (fun h11 => ?_) (fun h11 => ?_)
    · have hq := nI_ge_of (by omega) (by omega) h11
      have hq : q = bN B := by omega
      subst hq
      refine r_iload_3 (q := 44) dX9_sumOf_43 rfl ?_
      refine r_iret rfl dX9_sumOf_44 (?_)
      exact hQ
    · have hq : q < bN B := nI_lt_of (by omega) h11
      have J : ∀ x : Nat, x = (if s.testBit q then wN B q b else 0) → Wp E (xm E (d + 1) mX9_sumOf Q) mX9_sumOf 35 [some (pR 36 0), some (pI (nI s)), some (pI (nI b)), some (pI (nI (sumf (fun q => if s.testBit q then wN B q b else 0) q))), some (pI (nI q))] [pI (nI x), pI (nI (sumf (fun q => if s.testBit q then wN B q b else 0) q))] mem := by
        intro x hx
        refine r_iadd (q := 36) dX9_sumOf_35 rfl ?_
        rw [nI_add, hx]
        refine r_istore_3 (q := 37) (by decide) dX9_sumOf_36 rfl ?_
        refine r_iinc_4 (q := 40) _ (nI_inc _) (by decide) dX9_sumOf_37 rfl ?_
        refine r_goto 5 dX9_sumOf_40 (by decide) ?_
        exact ih (q + 1) (by omega) (by omega)
      refine r_iload_3 (q := 15) dX9_sumOf_14 rfl ?_
      refine r_iload_1 (q := 16) dX9_sumOf_15 rfl ?_
      refine r_iload_4 (q := 18) dX9_sumOf_16 rfl ?_
      refine r_callS2i (M' := mX9_has) (q := 21) mk_X9_has ms_X9_has k_746 rfl (Nat.le_of_ble_eq_true rfl) rm_xm dX9_sumOf_18 rfl (mhas_ok (pw24 hs) (by omega) ?_)
      refine r_if_eq (q := 24) 34 dX9_sumOf_21 (by decide) rfl (fun h21 => ?_) (fun h21 => ?_)
      · refine r_iconst (q := 35) 0 (by decide) dX9_sumOf_34 rfl ?_
        exact J 0 (by rw [b2_eq0.mp h21]; rfl)
      · refine r_aload_0 (q := 25) dX9_sumOf_24 rfl ?_
        refine r_iload_4 (q := 27) dX9_sumOf_25 rfl ?_
        refine r_iload_2 (q := 28) dX9_sumOf_27 rfl ?_
        refine r_callV2i (M' := mX9_adds) (q := 31) mk_X9_adds mi_X9_adds k_789 rfl rfl rfl rfl (Nat.le_of_ble_eq_true rfl) rm_xm dX9_sumOf_28 rfl (madds_ok hB hW hq hb ?_)
        refine r_goto 35 dX9_sumOf_31 (by decide) ?_
        exact J _ (by rw [b2_ne0.mp h21, if_pos rfl])
theorem mfit_ok {s : Nat} (hB : Bm B mem) (hW : WFB B) (hs : s < 2 ^ 24) (hQ : Q (b2 (fitB B s)) mem) : Call E (d + 1) mX9_isFit [pR 36 0, pI (nI s)] mem Q := by
  refine Call.of [some (pR 36 0), some (pI (nI s)), none, none] mk_X9_isFit rfl (Nat.le_of_ble_eq_true rfl) (fun _ => ?_)
  have h24 := hW.1
  refine r_iconst (q := 1) 0 (by decide) dX9_isFit_0 rfl ?_
  refine r_istore_2 (q := 2) (by decide) dX9_isFit_1 rfl ?_
  suffices H : ∀ k q o, bN B - q < k → q ≤ bN B → allb (fun q => !s.testBit q || fitsB B s q) q = true → Wp E (xm E (d + 1) mX9_isFit Q) mX9_isFit 2 [some (pR 36 0), some (pI (nI s)), some (pI (nI q)), o] [] mem from H (bN B + 1) 0 none (by omega) (by omega) rfl
  intro k
  induction k with
  | zero => intro q o h; omega
  | succ k ih =>
    intro q o h1 h2 h3
    refine r_iload_2 (q := 3) dX9_isFit_2 rfl ?_
    refine r_aload_0 (q := 4) dX9_isFit_3 rfl ?_
    refine r_getI (k := 0) (q := 7) f_RX9_83_8 rfl rfl dX9_isFit_4 rfl ?_
    rw [hB.1]
    refine r_icmp_ge (q := 10) 99 dX9_isFit_7 (by decide) rfl (fun h7 => ?_) (fun h7 => ?_)
    · have hq := nI_ge_of (by omega) (by omega) h7
      have hq : q = bN B := by omega
      subst hq
      refine r_iconst (q := 100) 1 (by decide) dX9_isFit_99 rfl ?_
      refine r_zret (by first | exact Or.inl rfl | exact Or.inr rfl | assumption) rfl dX9_isFit_100 (?_)
      rw [show fitB B s = true from h3] at hQ
      exact hQ
    · have hq : q < bN B := nI_lt_of (by omega) h7
      have hg := bG_lt hW q
      have ps : ∀ r, mem 42 0 r = bF B r 5 := fun r => (hB.2.2.2.1 r).2.2.2.2.2.1
      refine r_iload_1 (q := 11) dX9_isFit_10 rfl ?_
      refine r_iload_2 (q := 12) dX9_isFit_11 rfl ?_
      refine r_callS2i (M' := mX9_has) (q := 15) mk_X9_has ms_X9_has k_746 rfl (Nat.le_of_ble_eq_true rfl) rm_xm dX9_isFit_12 rfl (mhas_ok (pw24 hs) (by omega) ?_)
      refine r_if_ne (q := 18) 21 dX9_isFit_15 (by decide) rfl (fun h15 => ?_) (fun h15 => ?_)
      · have h15 := b2_ne0.mp h15
        have fail : fitsB B s q = false → ∀ o, Wp E (xm E (d + 1) mX9_isFit Q) mX9_isFit 40 [some (pR 36 0), some (pI (nI s)), some (pI (nI q)), o] [] mem := by
          intro hf o
          rw [show fitB B s = false from allb_false _ hq (by rw [h15, hf]; rfl)] at hQ
          refine r_iconst (q := 41) 0 (by decide) dX9_isFit_40 rfl ?_
          refine r_zret (by first | exact Or.inl rfl | exact Or.inr rfl | assumption) rfl dX9_isFit_41 (?_)
          exact hQ
        refine r_aload_0 (q := 22) dX9_isFit_21 rfl ?_
        refine r_iload_2 (q := 23) dX9_isFit_22 rfl ?_
        refine r_callV1i (M' := mX9_isResting) (q := 26) mk_X9_isResting mi_X9_isResting k_777 rfl rfl rfl rfl (Nat.le_of_ble_eq_true rfl) rm_xm dX9_isFit_23 rfl (mrest_ok hB (by omega) ?_)
        refine r_if_ne (q := 29) 40 dX9_isFit_26 (by decide) rfl (fun h26 => ?_) (fun h26 => ?_)
        · exact fail (by simp [fitsB, b2_ne0.mp h26]) _
        · have h26 := b2_eq0.mp h26
          refine r_aload_0 (q := 30) dX9_isFit_29 rfl ?_
          refine r_getR (k := 10) (q := 33) f_RX9_35_8 rfl rfl dX9_isFit_30 rfl ?_
          refine r_iload_2 (q := 34) dX9_isFit_33 rfl ?_
          refine r_iald (q := 35) _ rfl rfl (by first | omega | assumption | decide) dX9_isFit_34 rfl ?_
          rw [hB.2.2.2.2 q]
          refine r_iload_1 (q := 36) dX9_isFit_35 rfl ?_
          refine r_iand (q := 37) dX9_isFit_36 rfl ?_
          rw [nb_and]
          refine r_if_eq (q := 40) 42 dX9_isFit_37 (by decide) rfl (fun h37 => ?_) (fun h37 => ?_)
          · have h37 := (nI_zero_iff (pw24 (and_lt_l hg))).mp h37
            refine r_iconst (q := 43) 0 (by decide) dX9_isFit_42 rfl ?_
            refine r_istore_3 (q := 44) (by decide) dX9_isFit_43 rfl ?_
            suffices H2 : ∀ j r, bN B - r < j → r ≤ bN B → (∀ i, i < r → mateB B q i = true → s.testBit i = true) → Wp E (xm E (d + 1) mX9_isFit Q) mX9_isFit 44 [some (pR 36 0), some (pI (nI s)), some (pI (nI q)), some (pI (nI r))] [] mem from H2 (bN B + 1) 0 (by omega) (by omega) (fun i hi => by omega)
            intro j
            induction j with
            | zero => intro r h; omega
            | succ j jh =>
              intro r g1 g2 g3
              refine r_iload_3 (q := 45) dX9_isFit_44 rfl ?_
              refine r_aload_0 (q := 46) dX9_isFit_45 rfl ?_
              refine r_getI (k := 0) (q := 49) f_RX9_83_8 rfl rfl dX9_isFit_46 rfl ?_
              rw [hB.1]
              refine r_icmp_ge (q := 52) 93 dX9_isFit_49 (by decide) rfl (fun h49 => ?_) (fun h49 => ?_)
              · have hr := nI_ge_of (by omega) (by omega) h49
                have hr : r = bN B := by omega
                subst hr
                refine r_iinc_2 (q := 96) _ (nI_inc _) (by decide) dX9_isFit_93 rfl ?_
                refine r_goto 2 dX9_isFit_96 (by decide) ?_
                refine ih (q + 1) _ (by omega) (by omega) ?_
                have hw : andn (wholeB B q) s = 0 := andn_zero_iff.mpr (fun i hi => by
                  rcases whole_mem hi with e | ⟨e1, e2, e3⟩
                  · rw [e]; exact h15
                  · exact g3 i e3 (decide_eq_true ⟨e1, e2⟩))
                rw [allb, h3]
                simp [fitsB, h26, h37, hw]
              · have hr : r < bN B := nI_lt_of (by omega) h49
                have nx : (mateB B q r = true → s.testBit r = true) → Wp E (xm E (d + 1) mX9_isFit Q) mX9_isFit 87 [some (pR 36 0), some (pI (nI s)), some (pI (nI q)), some (pI (nI r))] [] mem := by
                  intro hx
                  refine r_iinc_3 (q := 90) _ (nI_inc _) (by decide) dX9_isFit_87 rfl ?_
                  refine r_goto 44 dX9_isFit_90 (by decide) ?_
                  refine jh (r + 1) (by omega) (by omega) (fun i hi hm => ?_)
                  by_cases e : i = r
                  · subst e; exact hx hm
                  · exact g3 i (by omega) hm
                refine r_aload_0 (q := 53) dX9_isFit_52 rfl ?_
                refine r_getR (k := 8) (q := 56) f_RX9_29_8 rfl rfl dX9_isFit_53 rfl ?_
                refine r_iload_2 (q := 57) dX9_isFit_56 rfl ?_
                refine r_iald (q := 58) _ rfl rfl (by first | omega | assumption | decide) dX9_isFit_57 rfl ?_
                rw [ps q]
                refine r_iconst (q := 59) (-1) (by decide) dX9_isFit_58 rfl ?_
                refine r_icmp_eq (q := 62) 87 dX9_isFit_59 (by decide) rfl (fun h59 => ?_) (fun h59 => ?_)
                · exact nx (fun z => absurd h59 (of_decide_eq_true z).1)
                · refine r_aload_0 (q := 63) dX9_isFit_62 rfl ?_
                  refine r_getR (k := 8) (q := 66) f_RX9_29_8 rfl rfl dX9_isFit_63 rfl ?_
                  refine r_iload_3 (q := 67) dX9_isFit_66 rfl ?_
                  refine r_iald (q := 68) _ rfl rfl (by first | omega | assumption | decide) dX9_isFit_67 rfl ?_
                  refine r_aload_0 (q := 69) dX9_isFit_68 rfl ?_
                  refine r_getR (k := 8) (q := 72) f_RX9_29_8 rfl rfl dX9_isFit_69 rfl ?_
                  refine r_iload_2 (q := 73) dX9_isFit_72 rfl ?_
                  refine r_iald (q := 74) _ rfl rfl (by first | omega | assumption | decide) dX9_isFit_73 rfl ?_
                  rw [ps q, ps r]
                  refine r_icmp_ne (q := 77) 87 dX9_isFit_74 (by decide) rfl (fun h74 => ?_) (fun h74 => ?_)
                  · exact nx (fun z => absurd (of_decide_eq_true z).2 h74)
                  · refine r_iload_1 (q := 78) dX9_isFit_77 rfl ?_
                    refine r_iload_3 (q := 79) dX9_isFit_78 rfl ?_
                    refine r_callS2i (M' := mX9_has) (q := 82) mk_X9_has ms_X9_has k_746 rfl (Nat.le_of_ble_eq_true rfl) rm_xm dX9_isFit_79 rfl (mhas_ok (pw24 hs) (by omega) ?_)
                    refine r_if_ne (q := 85) 87 dX9_isFit_82 (by decide) rfl (fun h82 => ?_) (fun h82 => ?_)
                    · exact nx (fun _ => b2_ne0.mp h82)
                    · have h82 := b2_eq0.mp h82
                      have hw : ¬ andn (wholeB B q) s = 0 := fun z => by
                        have := andn_zero_iff.mp z r (by rw [wholeB_tb, decide_eq_true hr, show mateB B q r = true from decide_eq_true ⟨h59, h74⟩]; simp)
                        rw [h82] at this
                        cases this
                      have hff : fitsB B s q = false := by simp [fitsB, hw]
                      rw [show fitB B s = false from allb_false _ hq (by rw [h15, hff]; rfl)] at hQ
                      refine r_iconst (q := 86) 0 (by decide) dX9_isFit_85 rfl ?_
                      refine r_zret (by first | exact Or.inl rfl | exact Or.inr rfl | assumption) rfl dX9_isFit_86 (?_)
                      exact hQ
          · have h37 : ¬ bG B q &&& s = 0 := fun z => h37 (by rw [z]; rfl)
            exact fail (by simp [fitsB, h37]) _
      · have h15 := b2_eq0.mp h15
        refine r_goto 93 dX9_isFit_18 (by decide) ?_
        refine r_iinc_2 (q := 96) _ (nI_inc _) (by decide) dX9_isFit_93 rfl ?_
        refine r_goto 2 dX9_isFit_96 (by decide) ?_
        exact ih (q + 1) _ (by omega) (by omega) (by rw [allb, h3, h15]; rfl)
theorem mbrk_ok {s : Nat} (hB : Bm B mem) (hW : WFB B) (hL : Lm L mem) (hWL : WFL L) (hs : s < 2 ^ 24) (hQ : Q (nI (brokenB L (sumN B s) noMo)) mem) : Call E (d + 2) mX9_brokenBy [pR 36 0, pI (nI s)] mem Q := by
  refine Call.of [some (pR 36 0), some (pI (nI s)), none, none] mk_X9_brokenBy rfl (Nat.le_of_ble_eq_true rfl) (fun _ => ?_)
  refine r_iconst (q := 1) 0 (by decide) dX9_brokenBy_0 rfl ?_
  refine r_istore_2 (q := 2) (by decide) dX9_brokenBy_1 rfl ?_
  refine r_iconst (q := 3) 0 (by decide) dX9_brokenBy_2 rfl ?_
  refine r_istore_3 (q := 4) (by decide) dX9_brokenBy_3 rfl ?_
  suffices H : ∀ k b, 10 - b < k → b ≤ 10 → Wp E (xm E (d + 2) mX9_brokenBy Q) mX9_brokenBy 4 [some (pR 36 0), some (pI (nI s)), some (pI (nI (bset (fun b => decide (L.2.1 b < sumN B s b ∨ sumN B s b + noMo b < L.1 b)) b))), some (pI (nI b))] [] mem from H 11 0 (by omega) (by omega)
  intro k
  induction k with
  | zero => intro b h; omega
  | succ k ih =>
    intro b h1 h2
    refine r_iload_3 (q := 5) dX9_brokenBy_4 rfl ?_
    refine r_bipush (q := 7) 10 (by decide) dX9_brokenBy_5 rfl ?_
    refine r_icmp_ge (q := 10) 50 dX9_brokenBy_7 (by decide) rfl (fun h7 => ?_) (fun h7 => ?_)
    · have hb := nI_ge_of (a := 10) (by decide) (by omega) h7
      have hb : b = 10 := by omega
      subst hb
      refine r_iload_2 (q := 51) dX9_brokenBy_50 rfl ?_
      refine r_iret rfl dX9_brokenBy_51 (?_)
      exact hQ
    · have hb : b < 10 := nI_lt_of (a := 10) (by omega) h7
      have hl := hL b
      have hw := hWL b
      have hsm := sumN_le hW s b
      refine r_iload_2 (q := 11) dX9_brokenBy_10 rfl ?_
      refine r_aload_0 (q := 12) dX9_brokenBy_11 rfl ?_
      refine r_iload_1 (q := 13) dX9_brokenBy_12 rfl ?_
      refine r_iload_3 (q := 14) dX9_brokenBy_13 rfl ?_
      refine r_callV2i (M' := mX9_sumOf) (q := 17) mk_X9_sumOf mi_X9_sumOf k_785 rfl rfl rfl rfl (Nat.le_of_ble_eq_true rfl) rm_xm dX9_brokenBy_14 rfl (msum_ok hB hW hs hb ?_)
      refine r_aload_0 (q := 18) dX9_brokenBy_17 rfl ?_
      refine r_getR (k := 11) (q := 21) f_RX9_38_8 rfl rfl dX9_brokenBy_18 rfl ?_
      refine r_iload_3 (q := 22) dX9_brokenBy_21 rfl ?_
      refine r_iald (q := 23) _ rfl rfl (by first | omega | assumption | decide) dX9_brokenBy_22 rfl ?_
      rw [hl.1]
      refine r_aload_0 (q := 24) dX9_brokenBy_23 rfl ?_
      refine r_getR (k := 12) (q := 27) f_RX9_41_8 rfl rfl dX9_brokenBy_24 rfl ?_
      refine r_iload_3 (q := 28) dX9_brokenBy_27 rfl ?_
      refine r_iald (q := 29) _ rfl rfl (by first | omega | assumption | decide) dX9_brokenBy_28 rfl ?_
      rw [hl.2.1]
      have e : decide (nI (L.1 b) ≤ nI (sumN B s b) ∧ nI (sumN B s b) ≤ nI (L.2.1 b)) = !(decide (L.2.1 b < sumN B s b ∨ sumN B s b + noMo b < L.1 b)) := by
        rw [Bool.eq_iff_iff, decide_eq_true_iff, nI_leI (by omega) (by omega), nI_leI (by omega) (by omega), Bool.not_eq_true', decide_eq_false_iff_not]
        show _ ↔ ¬ (_ ∨ sumN B s b + 0 < _)
        omega
      have J : ∀ x : Nat, bset (fun b => decide (L.2.1 b < sumN B s b ∨ sumN B s b + noMo b < L.1 b)) b ||| x = bset (fun b => decide (L.2.1 b < sumN B s b ∨ sumN B s b + noMo b < L.1 b)) (b + 1) → Wp E (xm E (d + 2) mX9_brokenBy Q) mX9_brokenBy 42 [some (pR 36 0), some (pI (nI s)), some (pI (nI (bset (fun b => decide (L.2.1 b < sumN B s b ∨ sumN B s b + noMo b < L.1 b)) b))), some (pI (nI b))] [pI (nI x), pI (nI (bset (fun b => decide (L.2.1 b < sumN B s b ∨ sumN B s b + noMo b < L.1 b)) b))] mem := by
        intro x hx
        refine r_ior (q := 43) dX9_brokenBy_42 rfl ?_
        rw [nb_or, hx]
        refine r_istore_2 (q := 44) (by decide) dX9_brokenBy_43 rfl ?_
        refine r_iinc_3 (q := 47) _ (nI_inc _) (by decide) dX9_brokenBy_44 rfl ?_
        refine r_goto 4 dX9_brokenBy_47 (by decide) ?_
        exact ih (b + 1) (by omega) (by omega)
      refine r_callS3i (M' := mX9_lies) (q := 32) mk_X9_lies ms_X9_lies k_731 rfl (Nat.le_of_ble_eq_true rfl) rm_xm dX9_brokenBy_29 rfl (lies_ok ?_)
      rw [e]
      refine r_if_eq (q := 35) 39 dX9_brokenBy_32 (by decide) rfl (fun h32 => ?_) (fun h32 => ?_)
      · have h32 := b2_eq0.mp h32
        have h32 : decide (L.2.1 b < sumN B s b ∨ sumN B s b + noMo b < L.1 b) = true := bnot_f h32
        refine r_iconst (q := 40) 1 (by decide) dX9_brokenBy_39 rfl ?_
        refine r_iload_3 (q := 41) dX9_brokenBy_40 rfl ?_
        refine r_ishl (q := 42) dX9_brokenBy_41 rfl ?_
        rw [nb_shl1 b (by omega)]
        exact J _ (by rw [bset, if_pos h32])
      · have h32 := b2_ne0.mp h32
        have h32 : ¬ decide (L.2.1 b < sumN B s b ∨ sumN B s b + noMo b < L.1 b) = true := fun z => by rw [z] at h32; cases h32
        refine r_iconst (q := 36) 0 (by decide) dX9_brokenBy_35 rfl ?_
        refine r_goto 42 dX9_brokenBy_36 (by decide) ?_
        exact J 0 (by rw [bset, if_neg h32, Nat.or_zero])
theorem mfar_ok {a b : Nat} (ha : a < 2 ^ 30) (hb : b < 2 ^ 30) (hQ : Q (nI (max (a - b) (b - a))) mem) : Call E d mX9_far [pI (nI a), pI (nI b)] mem Q := by
  refine Call.of [some (pI (nI a)), some (pI (nI b))] mk_X9_far rfl (Nat.le_of_ble_eq_true rfl) (fun _ => ?_)
  refine r_iload_0 (q := 1) dX9_far_0 rfl ?_
  refine r_iload_1 (q := 2) dX9_far_1 rfl ?_
  refine r_icmp_ge (q := 5) 11 dX9_far_2 (by decide) rfl (fun h2 => ?_) (fun h2 => ?_)
  · refine r_iload_0 (q := 12) dX9_far_11 rfl ?_
    refine r_iload_1 (q := 13) dX9_far_12 rfl ?_
    refine r_isub (q := 14) dX9_far_13 rfl ?_
    refine r_iret rfl dX9_far_14 (?_)
    have z := nI_ge_of (by omega) (by omega) h2
    rw [show max (a - b) (b - a) = a - b by omega, ← pk_sub z] at hQ
    exact hQ
  · refine r_iload_1 (q := 6) dX9_far_5 rfl ?_
    refine r_iload_0 (q := 7) dX9_far_6 rfl ?_
    refine r_isub (q := 8) dX9_far_7 rfl ?_
    refine r_goto 14 dX9_far_8 (by decide) ?_
    refine r_iret rfl dX9_far_14 (?_)
    have z := nI_lt_of (by omega) h2
    rw [show max (a - b) (b - a) = b - a by omega, ← pk_sub (by omega)] at hQ
    exact hQ
theorem farB_no (L : LD) (S : Nat → Nat) (t : Nat) : farB L S noMo t = max (S (3 + t) - L.2.2 t) (L.2.2 t - S (3 + t)) := rfl
theorem mspr_ok {s : Nat} (hB : Bm B mem) (hW : WFB B) (hL : Lm L mem) (hWL : WFL L) (hs : s < 2 ^ 24) (hQ : Q (nI (spreadB L (sumN B s) noMo)) mem) : Call E (d + 2) mX9_spreadOf [pR 36 0, pI (nI s)] mem Q := by
  refine Call.of [some (pR 36 0), some (pI (nI s)), none, none] mk_X9_spreadOf rfl (Nat.le_of_ble_eq_true rfl) (fun _ => ?_)
  refine r_iconst (q := 1) 0 (by decide) dX9_spreadOf_0 rfl ?_
  refine r_istore_2 (q := 2) (by decide) dX9_spreadOf_1 rfl ?_
  refine r_iconst (q := 3) 0 (by decide) dX9_spreadOf_2 rfl ?_
  refine r_istore_3 (q := 4) (by decide) dX9_spreadOf_3 rfl ?_
  suffices H : ∀ k t, 4 - t < k → t ≤ 4 → Wp E (xm E (d + 2) mX9_spreadOf Q) mX9_spreadOf 4 [some (pR 36 0), some (pI (nI s)), some (pI (nI (sumf (farB L (sumN B s) noMo) t))), some (pI (nI t))] [] mem from H 5 0 (by omega) (by omega)
  intro k
  induction k with
  | zero => intro b h; omega
  | succ k ih =>
    intro t h1 h2
    refine r_iload_3 (q := 5) dX9_spreadOf_4 rfl ?_
    refine r_iconst (q := 6) 4 (by decide) dX9_spreadOf_5 rfl ?_
    refine r_icmp_ge (q := 9) 35 dX9_spreadOf_6 (by decide) rfl (fun h6 => ?_) (fun h6 => ?_)
    · have hb := nI_ge_of (a := 4) (by decide) (by omega) h6
      have hb : t = 4 := by omega
      subst hb
      refine r_iload_2 (q := 36) dX9_spreadOf_35 rfl ?_
      refine r_iret rfl dX9_spreadOf_36 (?_)
      exact hQ
    · have hb : t < 4 := nI_lt_of (a := 4) (by omega) h6
      have hw := hWL t
      have hsm := sumN_le hW s (3 + t)
      refine r_iload_2 (q := 10) dX9_spreadOf_9 rfl ?_
      refine r_aload_0 (q := 11) dX9_spreadOf_10 rfl ?_
      refine r_iload_1 (q := 12) dX9_spreadOf_11 rfl ?_
      refine r_iconst (q := 13) 3 (by decide) dX9_spreadOf_12 rfl ?_
      refine r_iload_3 (q := 14) dX9_spreadOf_13 rfl ?_
      refine r_iadd (q := 15) dX9_spreadOf_14 rfl ?_
      rw [show (3 : Int32) + nI t = nI (3 + t) from nI_add 3 t]
      refine r_callV2i (M' := mX9_sumOf) (q := 18) mk_X9_sumOf mi_X9_sumOf k_785 rfl rfl rfl rfl (Nat.le_of_ble_eq_true rfl) rm_xm dX9_spreadOf_15 rfl (msum_ok hB hW hs (by omega) ?_)
      refine r_aload_0 (q := 19) dX9_spreadOf_18 rfl ?_
      refine r_getR (k := 13) (q := 22) f_RX9_44_8 rfl rfl dX9_spreadOf_19 rfl ?_
      refine r_iload_3 (q := 23) dX9_spreadOf_22 rfl ?_
      refine r_iald (q := 24) _ rfl rfl (by first | omega | assumption | decide) dX9_spreadOf_23 rfl ?_
      rw [(hL t).2.2]
      refine r_callS2i (M' := mX9_far) (q := 27) mk_X9_far ms_X9_far k_805 rfl (Nat.le_of_ble_eq_true rfl) rm_xm dX9_spreadOf_24 rfl (mfar_ok (by omega) (by omega) ?_)
      refine r_iadd (q := 28) dX9_spreadOf_27 rfl ?_
      rw [← farB_no, nI_add]
      refine r_istore_2 (q := 29) (by decide) dX9_spreadOf_28 rfl ?_
      refine r_iinc_3 (q := 32) _ (nI_inc _) (by decide) dX9_spreadOf_29 rfl ?_
      refine r_goto 4 dX9_spreadOf_32 (by decide) ?_
      exact ih (t + 1) (by omega) (by omega)
theorem mhand_ok (hB : Bm B mem) (hW : WFB B) (hQ : ∀ mem', Fr [48] mem mem' → (∀ i, i < handB B → i < 16 → mem' 48 0 i = nI ((hdL B).getD i 0)) → Q (nI (handB B)) mem') : Call E (d + 1) mX9_atHand [pR 36 0] mem Q := by
  refine Call.of [some (pR 36 0), none, none] mk_X9_atHand rfl (Nat.le_of_ble_eq_true rfl) (fun _ => ?_)
  have h24 := hW.1
  refine r_iconst (q := 1) 0 (by decide) dX9_atHand_0 rfl ?_
  refine r_istore_1 (q := 2) (by decide) dX9_atHand_1 rfl ?_
  refine r_iconst (q := 3) 0 (by decide) dX9_atHand_2 rfl ?_
  refine r_istore_2 (q := 4) (by decide) dX9_atHand_3 rfl ?_
  suffices H : ∀ (k q : Nat) (m : Mem), bN B - q < k → q ≤ bN B → Fr [48] mem m → (∀ i, i < (hdT B q).length → i < 16 → m 48 0 i = nI ((hdT B q).getD i 0)) → Wp E (xm E (d + 1) mX9_atHand Q) mX9_atHand 4 [some (pR 36 0), some (pI (nI (hdT B q).length)), some (pI (nI q))] [] m from H (bN B + 1) 0 mem (by omega) (by omega) Fr.rf (fun i hi => absurd hi (Nat.not_lt_zero i))
  intro k
  induction k with
  | zero => intro q m h; omega
  | succ k ih =>
    intro q m h1 h2 hF hH
    have hBm : Bm B m := hB.fr hF (by simp)
    have hql : (hdT B q).length ≤ q := by rw [hdT_len]; exact cnt_le _ _
    refine r_iload_2 (q := 5) dX9_atHand_4 rfl ?_
    refine r_aload_0 (q := 6) dX9_atHand_5 rfl ?_
    refine r_getI (k := 0) (q := 9) f_RX9_83_8 rfl rfl dX9_atHand_6 rfl ?_
    rw [hBm.1]
    refine r_icmp_ge (q := 12) 45 dX9_atHand_9 (by decide) rfl (fun h9 => ?_) (fun h9 => ?_)
    · have hq := nI_ge_of (by omega) (by omega) h9
      have hq : q = bN B := by omega
      subst hq
      have e := hdT_len B (bN B)
      refine r_iload_1 (q := 46) dX9_atHand_45 rfl ?_
      rw [e] at hH ⊢
      refine r_iret rfl dX9_atHand_46 (?_)
      exact hQ m hF hH
    · have hq : q < bN B := nI_lt_of (by omega) h9
      refine r_aload_0 (q := 13) dX9_atHand_12 rfl ?_
      refine r_iload_2 (q := 14) dX9_atHand_13 rfl ?_
      refine r_callV1i (M' := mX9_isResting) (q := 17) mk_X9_isResting mi_X9_isResting k_777 rfl rfl rfl rfl (Nat.le_of_ble_eq_true rfl) rm_xm dX9_atHand_14 rfl (mrest_ok hBm (by omega) ?_)
      refine r_if_eq (q := 20) 23 dX9_atHand_17 (by decide) rfl (fun h17 => ?_) (fun h17 => ?_)
      · have h17 := b2_eq0.mp h17
        have e : hdT B (q + 1) = hdT B q ++ [q] := by rw [hdT, h17]; rfl
        have el : (hdT B (q + 1)).length = (hdT B q).length + 1 := by rw [e]; simp
        have eg : ∀ i, i < (hdT B q).length → (hdT B (q + 1)).getD i 0 = (hdT B q).getD i 0 := fun i hi => by
          rw [e, List.getD_eq_getElem?_getD, List.getElem?_append_left hi, ← List.getD_eq_getElem?_getD]
        have eq : (hdT B (q + 1)).getD (hdT B q).length 0 = q := by
          rw [e, List.getD_eq_getElem?_getD, List.getElem?_append_right (Nat.le_refl _), Nat.sub_self]
          rfl
        refine r_iload_1 (q := 24) dX9_atHand_23 rfl ?_
        refine r_bipush (q := 26) 16 (by decide) dX9_atHand_24 rfl ?_
        refine r_icmp_ge (q := 29) 36 dX9_atHand_26 (by decide) rfl (fun h26 => ?_) (fun h26 => ?_)
        · have h26 := nI_ge_of (a := 16) (by decide) (by omega) h26
          refine r_iinc_1 (q := 39) _ (nI_inc _) (by decide) dX9_atHand_36 rfl ?_
          rw [← el]
          refine r_iinc_2 (q := 42) _ (nI_inc _) (by decide) dX9_atHand_39 rfl ?_
          refine r_goto 4 dX9_atHand_42 (by decide) ?_
          exact ih (q + 1) m (by omega) (by omega) hF (fun i hi h16 => by rw [eg i (by omega)]; exact hH i (by omega) h16)
        · have h26 : (hdT B q).length < 16 := nI_lt_of (a := 16) (by omega) h26
          refine r_aload_0 (q := 30) dX9_atHand_29 rfl ?_
          refine r_getR (k := 15) (q := 33) f_RX9_47_8 rfl rfl dX9_atHand_30 rfl ?_
          refine r_iload_1 (q := 34) dX9_atHand_33 rfl ?_
          refine r_iload_2 (q := 35) dX9_atHand_34 rfl ?_
          refine r_iast (q := 36) _ rfl rfl (by first | omega | assumption | decide) dX9_atHand_35 rfl ?_
          refine r_iinc_1 (q := 39) _ (nI_inc _) (by decide) dX9_atHand_36 rfl ?_
          rw [← el]
          refine r_iinc_2 (q := 42) _ (nI_inc _) (by decide) dX9_atHand_39 rfl ?_
          refine r_goto 4 dX9_atHand_42 (by decide) ?_
          refine ih (q + 1) _ (by omega) (by omega) (hF.mset (by simp)) (fun i hi h16 => ?_)
          rw [mset_self]
          unfold upd
          by_cases z : i = (hdT B q).length
          · rw [if_pos z, z, eq]
          · rw [if_neg z, eg i (by omega)]
            exact hH i (by omega) h16
      · have h17 := b2_ne0.mp h17
        have e : hdT B (q + 1) = hdT B q := by rw [hdT, h17]; rfl
        rw [← e] at hH ⊢
        refine r_goto 39 dX9_atHand_20 (by decide) ?_
        refine r_iinc_2 (q := 42) _ (nI_inc _) (by decide) dX9_atHand_39 rfl ?_
        refine r_goto 4 dX9_atHand_42 (by decide) ?_
        exact ih (q + 1) m (by omega) (by omega) hF hH
end MS
section MQ
variable {E : En} {d : Nat} {mem : Mem} {Q : Int32 → Mem → Prop} {S : AS}
theorem m_look_ok {x w : Int32} (hC : Mk S mem) (hWF : WFS S) (hQ : Q (lookV S.1 S.2.1 x w) mem) : Call E (d + 3) mX9_look [pR 36 0, pI x, pI w] mem Q := by
  refine Call.of [some (pR 36 0), some (pI x), some (pI w)] mk_X9_look rfl (Nat.le_of_ble_eq_true rfl) (fun _ => ?_)
  have hB := hC.1
  have h24 := hWF.1.1
  refine r_aload_0 (q := 1) dX9_look_0 rfl ?_
  refine r_iload_1 (q := 2) dX9_look_1 rfl ?_
  refine r_callV1i (M' := mX9_isSet) (q := 5) mk_X9_isSet mi_X9_isSet k_769 rfl rfl rfl rfl (Nat.le_of_ble_eq_true rfl) rm_xm dX9_look_2 rfl (isSet_ok hB hWF.1 ?_)
  refine r_if_ne (q := 8) 10 dX9_look_5 (by decide) rfl (fun h5 => ?_) (fun h5 => ?_)
  · have h8 : setB S.1 x = true := b2_ne0.mp h5
    obtain ⟨s, hs, rfl⟩ := setB_ex hWF.1 h8
    have hs24 : s < 2 ^ 24 := Nat.lt_of_lt_of_le hs (pw_le h24)
    have hbl := brokenB_lt S.2.1 (sumN S.1 s) noMo
    unfold lookV at hQ
    rw [h8, if_pos rfl, nI_clamp (pw24 hs24)] at hQ
    unfold lookS at hQ
    refine r_iload_2 (q := 11) dX9_look_10 rfl ?_
    refine r_bipush (q := 13) 10 (by decide) dX9_look_11 rfl ?_
    refine r_isub (q := 14) dX9_look_13 rfl ?_
    refine r_iconst (q := 15) 0 (by decide) dX9_look_14 rfl ?_
    refine r_bipush (q := 17) 9 (by decide) dX9_look_15 rfl ?_
    refine r_callS3i (M' := mX9_lies) (q := 20) mk_X9_lies ms_X9_lies k_731 rfl (Nat.le_of_ble_eq_true rfl) rm_xm dX9_look_17 rfl (lies_ok ?_)
    rw [wsub10]
    refine r_if_eq (q := 23) 33 dX9_look_20 (by decide) rfl (fun h20 => ?_) (fun h20 => ?_)
    · have h33 := b2_eq0.mp h20
      rw [h33] at hQ
      refine r_iload_2 (q := 34) dX9_look_33 rfl ?_
      cases h03 : decide (0 ≤ w ∧ w ≤ 3) with
      | false =>
        have ho := out_ab (a := 0) (b := 3) (by decide) (by decide) h03
        have n0 : ¬ w = 0 := fun z => by subst z; cases h03
        have n1 : ¬ w = 1 := fun z => by subst z; cases h03
        have n2 : ¬ w = 2 := fun z => by subst z; cases h03
        have n3 : ¬ w = 3 := fun z => by subst z; cases h03
        rw [if_neg n0, if_neg n1, if_neg n2, if_neg n3] at hQ
        refine r_tabO 112 dX9_look_34 ho (by decide) ?_
        refine r_iconst (q := 113) (-1) (by decide) dX9_look_112 rfl ?_
        refine r_iret rfl dX9_look_113 (?_)
        exact hQ
      | true =>
        obtain ⟨j, -, hj, rfl⟩ := in_ab (a := 0) (b := 3) (by decide) (by decide) h03
        rcases (by omega : j = 0 ∨ j = 1 ∨ j = 2 ∨ j = 3) with rfl | rfl | rfl | rfl
        · refine r_tabI 64 dX9_look_34 (by decide) (by decide) rfl (by decide) ?_
          rw [if_neg (by decide), if_pos (by decide)] at hQ
          refine r_aload_0 (q := 65) dX9_look_64 rfl ?_
          refine r_iload_1 (q := 66) dX9_look_65 rfl ?_
          refine r_callV1i (M' := mX9_isFit) (q := 69) mk_X9_isFit mi_X9_isFit k_793 rfl rfl rfl rfl (Nat.le_of_ble_eq_true rfl) rm_xm dX9_look_66 rfl (mfit_ok hB hWF.1 hs24 ?_)
          refine r_if_eq (q := 72) 76 dX9_look_69 (by decide) rfl (fun h69 => ?_) (fun h69 => ?_)
          · refine r_iconst (q := 77) 0 (by decide) dX9_look_76 rfl ?_
            refine r_iret rfl dX9_look_77 (?_)
            rw [b2_eq0.mp h69] at hQ
            exact hQ
          · refine r_iconst (q := 73) 1 (by decide) dX9_look_72 rfl ?_
            refine r_goto 77 dX9_look_73 (by decide) ?_
            refine r_iret rfl dX9_look_77 (?_)
            rw [b2_ne0.mp h69] at hQ
            exact hQ
        · refine r_tabI 78 dX9_look_34 (by decide) (by decide) rfl (by decide) ?_
          rw [if_neg (by decide), if_neg (by decide), if_pos (by decide)] at hQ
          refine r_aload_0 (q := 79) dX9_look_78 rfl ?_
          refine r_iload_1 (q := 80) dX9_look_79 rfl ?_
          refine r_callV1i (M' := mX9_isFit) (q := 83) mk_X9_isFit mi_X9_isFit k_793 rfl rfl rfl rfl (Nat.le_of_ble_eq_true rfl) rm_xm dX9_look_80 rfl (mfit_ok hB hWF.1 hs24 ?_)
          refine r_if_eq (q := 86) 98 dX9_look_83 (by decide) rfl (fun h83 => ?_) (fun h83 => ?_)
          · refine r_iconst (q := 99) 0 (by decide) dX9_look_98 rfl ?_
            refine r_iret rfl dX9_look_99 (?_)
            rw [b2_eq0.mp h83, Bool.false_and] at hQ
            exact hQ
          · refine r_aload_0 (q := 87) dX9_look_86 rfl ?_
            refine r_iload_1 (q := 88) dX9_look_87 rfl ?_
            refine r_callV1i (M' := mX9_brokenBy) (q := 91) mk_X9_brokenBy mi_X9_brokenBy k_797 rfl rfl rfl rfl (Nat.le_of_ble_eq_true rfl) rm_xm dX9_look_88 rfl (mbrk_ok hB hWF.1 hC.2.1 hWF.2.1 hs24 ?_)
            refine r_if_ne (q := 94) 98 dX9_look_91 (by decide) rfl (fun h91 => ?_) (fun h91 => ?_)
            · refine r_iconst (q := 99) 0 (by decide) dX9_look_98 rfl ?_
              refine r_iret rfl dX9_look_99 (?_)
              rw [decide_eq_false (fun z => h91 (by rw [z]; rfl)), Bool.and_false] at hQ
              exact hQ
            · refine r_iconst (q := 95) 1 (by decide) dX9_look_94 rfl ?_
              refine r_goto 99 dX9_look_95 (by decide) ?_
              refine r_iret rfl dX9_look_99 (?_)
              rw [b2_ne0.mp h83, decide_eq_true ((nI_zero_iff (by omega)).mp h91)] at hQ
              exact hQ
        · refine r_tabI 100 dX9_look_34 (by decide) (by decide) rfl (by decide) ?_
          rw [if_neg (by decide), if_neg (by decide), if_neg (by decide), if_pos (by decide)] at hQ
          refine r_aload_0 (q := 101) dX9_look_100 rfl ?_
          refine r_iload_1 (q := 102) dX9_look_101 rfl ?_
          refine r_callV1i (M' := mX9_spreadOf) (q := 105) mk_X9_spreadOf mi_X9_spreadOf k_801 rfl rfl rfl rfl (Nat.le_of_ble_eq_true rfl) rm_xm dX9_look_102 rfl (mspr_ok hB hWF.1 hC.2.1 hWF.2.1 hs24 ?_)
          refine r_iret rfl dX9_look_105 (?_)
          exact hQ
        · refine r_tabI 106 dX9_look_34 (by decide) (by decide) rfl (by decide) ?_
          rw [if_neg (by decide), if_neg (by decide), if_neg (by decide), if_neg (by decide), if_pos (by decide)] at hQ
          refine r_aload_0 (q := 107) dX9_look_106 rfl ?_
          refine r_iload_1 (q := 108) dX9_look_107 rfl ?_
          refine r_callV1i (M' := mX9_brokenBy) (q := 111) mk_X9_brokenBy mi_X9_brokenBy k_797 rfl rfl rfl rfl (Nat.le_of_ble_eq_true rfl) rm_xm dX9_look_108 rfl (mbrk_ok hB hWF.1 hC.2.1 hWF.2.1 hs24 ?_)
          refine r_iret rfl dX9_look_111 (?_)
          exact hQ
    · have h33 := b2_ne0.mp h20
      obtain ⟨w', hw1, hw2, rfl⟩ := in_ab (a := 10) (b := 19) (by decide) (by decide) h33
      rw [h33, if_pos rfl, nI_clamp (by omega)] at hQ
      refine r_aload_0 (q := 24) dX9_look_23 rfl ?_
      refine r_iload_1 (q := 25) dX9_look_24 rfl ?_
      refine r_iload_2 (q := 26) dX9_look_25 rfl ?_
      refine r_bipush (q := 28) 10 (by decide) dX9_look_26 rfl ?_
      refine r_isub (q := 29) dX9_look_28 rfl ?_
      rw [show nI w' - 10 = nI (w' - 10) from pk_sub (b := 10) hw1]
      refine r_callV2i (M' := mX9_sumOf) (q := 32) mk_X9_sumOf mi_X9_sumOf k_785 rfl rfl rfl rfl (Nat.le_of_ble_eq_true rfl) rm_xm dX9_look_29 rfl (msum_ok hB hWF.1 hs24 (by omega) ?_)
      refine r_iret rfl dX9_look_32 (?_)
      exact hQ
  · have h8 : setB S.1 x = false := b2_eq0.mp h5
    unfold lookV at hQ
    rw [h8] at hQ
    refine r_iconst (q := 9) (-1) (by decide) dX9_look_8 rfl ?_
    refine r_iret rfl dX9_look_9 (?_)
    exact hQ
theorem m_second_ok (hC : Mk S mem) (hQ : Q (nI S.2.2.1) mem) : Call E d mX9_second [pR 36 0] mem Q := by
  refine Call.of [some (pR 36 0)] mk_X9_second rfl (Nat.le_of_ble_eq_true rfl) (fun _ => ?_)
  refine r_aload_0 (q := 1) dX9_second_0 rfl ?_
  refine r_getI (k := 22) (q := 4) f_RX9_158_8 rfl rfl dX9_second_1 rfl ?_
  rw [hC.2.2.1]
  refine r_iret rfl dX9_second_4 (?_)
  exact hQ
theorem m_place_ok {x : Int32} (hC : Mk S mem) (hWF : WFS S) (hQ : Q (placeV S x) mem) : Call E (d + 1) mX9_place [pR 36 0, pI x] mem Q := by
  refine Call.of [some (pR 36 0), some (pI x)] mk_X9_place rfl (Nat.le_of_ble_eq_true rfl) (fun _ => ?_)
  have hO := hC.2.2.2
  have hp := hWF.2.2.2.1
  refine r_iload_1 (q := 1) dX9_place_0 rfl ?_
  refine r_iconst (q := 2) 0 (by decide) dX9_place_1 rfl ?_
  refine r_aload_0 (q := 3) dX9_place_2 rfl ?_
  refine r_getI (k := 24) (q := 6) f_RX9_164_8 rfl rfl dX9_place_3 rfl ?_
  rw [hO.1]
  refine r_iconst (q := 7) 1 (by decide) dX9_place_6 rfl ?_
  refine r_isub (q := 8) dX9_place_7 rfl ?_
  refine r_callS3i (M' := mX9_lies) (q := 11) mk_X9_lies ms_X9_lies k_731 rfl (Nat.le_of_ble_eq_true rfl) rm_xm dX9_place_8 rfl (lies_ok ?_)
  refine r_if_eq (q := 14) 23 dX9_place_11 (by decide) rfl (fun h11 => ?_) (fun h11 => ?_)
  · have h14 := b2_eq0.mp h11
    unfold placeV at hQ
    rw [h14] at hQ
    refine r_iconst (q := 24) (-1) (by decide) dX9_place_23 rfl ?_
    refine r_iret rfl dX9_place_24 (?_)
    exact hQ
  · have h14 := b2_ne0.mp h11
    obtain ⟨i, hi, rfl⟩ := lt_n (by omega) h14
    unfold placeV at hQ
    rw [h14, if_pos rfl, nI_clamp (by omega)] at hQ
    refine r_aload_0 (q := 15) dX9_place_14 rfl ?_
    refine r_getR (k := 28) (q := 18) f_RX9_77_8 rfl rfl dX9_place_15 rfl ?_
    refine r_iload_1 (q := 19) dX9_place_18 rfl ?_
    refine r_iald (q := 20) _ rfl rfl (by first | omega | assumption | decide) dX9_place_19 rfl ?_
    rw [hO.2.2 i hi]
    refine r_goto 24 dX9_place_20 (by decide) ?_
    refine r_iret rfl dX9_place_24 (?_)
    exact hQ
theorem m_told_ok {x w : Int32} (hC : Mk S mem) (hWF : WFS S) (hQ : Q (toldV S.1 x w) mem) : Call E (d + 2) mX9_told_ [pR 36 0, pI x, pI w] mem Q := by
  refine Call.of [some (pR 36 0), some (pI x), some (pI w)] mk_X9_told_ rfl (Nat.le_of_ble_eq_true rfl) (fun _ => ?_)
  have hB := hC.1
  have h24 := hWF.1.1
  refine r_aload_0 (q := 1) dX9_told__0 rfl ?_
  refine r_iload_1 (q := 2) dX9_told__1 rfl ?_
  refine r_callV1i (M' := mX9_isQuestion) (q := 5) mk_X9_isQuestion mi_X9_isQuestion k_738 rfl rfl rfl rfl (Nat.le_of_ble_eq_true rfl) rm_xm dX9_told__2 rfl (isQ_ok hB ?_)
  refine r_if_ne (q := 8) 10 dX9_told__5 (by decide) rfl (fun h5 => ?_) (fun h5 => ?_)
  · have h8' : hasB S.1 x = true := b2_ne0.mp h5
    obtain ⟨q, hq, rfl⟩ := hasB_ex hWF.1 h8'
    have hb := hB.2.2.2.1 q
    unfold toldV at hQ
    rw [h8', nI_clamp (by omega)] at hQ
    refine r_iload_2 (q := 11) dX9_told__10 rfl ?_
    cases h06 : decide (0 ≤ w ∧ w ≤ 6) with
    | false =>
      have ho := out_ab (a := 0) (b := 6) (by decide) (by decide) h06
      rw [h06] at hQ
      refine r_tabO 101 dX9_told__11 ho (by decide) ?_
      refine r_iconst (q := 102) (-1) (by decide) dX9_told__101 rfl ?_
      refine r_iret rfl dX9_told__102 (?_)
      exact hQ
    | true =>
      obtain ⟨j, -, hj, rfl⟩ := in_ab (a := 0) (b := 6) (by decide) (by decide) h06
      rw [h06, nI_clamp (by omega)] at hQ
      rcases (by omega : j = 0 ∨ j = 1 ∨ j = 2 ∨ j = 3 ∨ j = 4 ∨ j = 5 ∨ j = 6) with rfl | rfl | rfl | rfl | rfl | rfl | rfl
      · refine r_tabI 52 dX9_told__11 (by decide) (by decide) rfl (by decide) ?_
        refine r_aload_0 (q := 53) dX9_told__52 rfl ?_
        refine r_getR (k := 3) (q := 56) f_RX9_13_8 rfl rfl dX9_told__53 rfl ?_
        refine r_iload_1 (q := 57) dX9_told__56 rfl ?_
        refine r_iald (q := 58) _ rfl rfl (by first | omega | assumption | decide) dX9_told__57 rfl ?_
        rw [hb.1]
        refine r_iret rfl dX9_told__58 (?_)
        exact hQ
      · refine r_tabI 59 dX9_told__11 (by decide) (by decide) rfl (by decide) ?_
        refine r_aload_0 (q := 60) dX9_told__59 rfl ?_
        refine r_getR (k := 4) (q := 63) f_RX9_17_8 rfl rfl dX9_told__60 rfl ?_
        refine r_iload_1 (q := 64) dX9_told__63 rfl ?_
        refine r_iald (q := 65) _ rfl rfl (by first | omega | assumption | decide) dX9_told__64 rfl ?_
        rw [hb.2.1]
        refine r_iret rfl dX9_told__65 (?_)
        exact hQ
      · refine r_tabI 66 dX9_told__11 (by decide) (by decide) rfl (by decide) ?_
        refine r_aload_0 (q := 67) dX9_told__66 rfl ?_
        refine r_getR (k := 5) (q := 70) f_RX9_20_8 rfl rfl dX9_told__67 rfl ?_
        refine r_iload_1 (q := 71) dX9_told__70 rfl ?_
        refine r_iald (q := 72) _ rfl rfl (by first | omega | assumption | decide) dX9_told__71 rfl ?_
        rw [hb.2.2.1]
        refine r_iret rfl dX9_told__72 (?_)
        exact hQ
      · refine r_tabI 73 dX9_told__11 (by decide) (by decide) rfl (by decide) ?_
        refine r_aload_0 (q := 74) dX9_told__73 rfl ?_
        refine r_getR (k := 6) (q := 77) f_RX9_23_8 rfl rfl dX9_told__74 rfl ?_
        refine r_iload_1 (q := 78) dX9_told__77 rfl ?_
        refine r_iald (q := 79) _ rfl rfl (by first | omega | assumption | decide) dX9_told__78 rfl ?_
        rw [hb.2.2.2.1]
        refine r_iret rfl dX9_told__79 (?_)
        exact hQ
      · refine r_tabI 80 dX9_told__11 (by decide) (by decide) rfl (by decide) ?_
        refine r_aload_0 (q := 81) dX9_told__80 rfl ?_
        refine r_getR (k := 7) (q := 84) f_RX9_26_8 rfl rfl dX9_told__81 rfl ?_
        refine r_iload_1 (q := 85) dX9_told__84 rfl ?_
        refine r_iald (q := 86) _ rfl rfl (by first | omega | assumption | decide) dX9_told__85 rfl ?_
        rw [hb.2.2.2.2.1]
        refine r_iret rfl dX9_told__86 (?_)
        exact hQ
      · refine r_tabI 87 dX9_told__11 (by decide) (by decide) rfl (by decide) ?_
        refine r_aload_0 (q := 88) dX9_told__87 rfl ?_
        refine r_getR (k := 8) (q := 91) f_RX9_29_8 rfl rfl dX9_told__88 rfl ?_
        refine r_iload_1 (q := 92) dX9_told__91 rfl ?_
        refine r_iald (q := 93) _ rfl rfl (by first | omega | assumption | decide) dX9_told__92 rfl ?_
        rw [hb.2.2.2.2.2.1]
        refine r_iret rfl dX9_told__93 (?_)
        exact hQ
      · refine r_tabI 94 dX9_told__11 (by decide) (by decide) rfl (by decide) ?_
        refine r_aload_0 (q := 95) dX9_told__94 rfl ?_
        refine r_getR (k := 9) (q := 98) f_RX9_32_8 rfl rfl dX9_told__95 rfl ?_
        refine r_iload_1 (q := 99) dX9_told__98 rfl ?_
        refine r_iald (q := 100) _ rfl rfl (by first | omega | assumption | decide) dX9_told__99 rfl ?_
        rw [hb.2.2.2.2.2.2]
        refine r_iret rfl dX9_told__100 (?_)
        exact hQ
  · have h8 : hasB S.1 x = false := b2_eq0.mp h5
    unfold toldV at hQ
    rw [h8] at hQ
    refine r_iconst (q := 9) (-1) (by decide) dX9_told__8 rfl ?_
    refine r_iret rfl dX9_told__9 (?_)
    exact hQ
theorem Mk.fr48 {S : AS} {a b : Mem} (h : Mk S a) (hF : Fr [48] a b) : Mk S b := h.wk (fun g h1 h2 => hF g (by simp; omega)) (hF 57 (by decide)) (fun i _ _ => by rw [hF 36 (by decide)])
theorem m_count_ok {w : Int32} (hC : Mk S mem) (hWF : WFS S) (hQ : ∀ mem', Fm mem mem' → Mk S mem' → Q (countV S w) mem') : Call E (d + 2) mX9_count [pR 36 0, pI w] mem Q := by
  refine Call.of [some (pR 36 0), some (pI w)] mk_X9_count rfl (Nat.le_of_ble_eq_true rfl) (fun _ => ?_)
  have hB := hC.1
  have hO := hC.2.2.2
  have hQ0 := hQ mem Fm.rf hC
  refine r_iload_1 (q := 1) dX9_count_0 rfl ?_
  unfold countV at hQ hQ0
  cases h05 : decide (0 ≤ w ∧ w ≤ 5) with
  | false =>
    have ho := out_ab (a := 0) (b := 5) (by decide) (by decide) h05
    have n0 : ¬ w = 0 := fun z => by subst z; cases h05
    have n1 : ¬ w = 1 := fun z => by subst z; cases h05
    have n2 : ¬ w = 2 := fun z => by subst z; cases h05
    have n3 : ¬ w = 3 := fun z => by subst z; cases h05
    have n4 : ¬ w = 4 := fun z => by subst z; cases h05
    have n5 : ¬ w = 5 := fun z => by subst z; cases h05
    rw [if_neg n0, if_neg n1, if_neg n2, if_neg n3, if_neg n4, if_neg n5] at hQ0
    refine r_tabO 70 dX9_count_1 ho (by decide) ?_
    refine r_iconst (q := 71) (-1) (by decide) dX9_count_70 rfl ?_
    refine r_iret rfl dX9_count_71 (?_)
    exact hQ0
  | true =>
    obtain ⟨j, -, hj, rfl⟩ := in_ab (a := 0) (b := 5) (by decide) (by decide) h05
    rcases (by omega : j = 0 ∨ j = 1 ∨ j = 2 ∨ j = 3 ∨ j = 4 ∨ j = 5) with rfl | rfl | rfl | rfl | rfl | rfl
    · refine r_tabI 40 dX9_count_1 (by decide) (by decide) rfl (by decide) ?_
      refine r_aload_0 (q := 41) dX9_count_40 rfl ?_
      refine r_getI (k := 0) (q := 44) f_RX9_83_8 rfl rfl dX9_count_41 rfl ?_
      rw [hB.1]
      refine r_iret rfl dX9_count_44 (?_)
      exact hQ0
    · refine r_tabI 45 dX9_count_1 (by decide) (by decide) rfl (by decide) ?_
      refine r_aload_0 (q := 46) dX9_count_45 rfl ?_
      refine r_callV0i (M' := mX9_atHand) (q := 49) mk_X9_atHand mi_X9_atHand k_812 rfl rfl rfl rfl (Nat.le_of_ble_eq_true rfl) rm_xm dX9_count_46 rfl (mhand_ok hB hWF.1 (fun m1 hF1 _ => ?_))
      refine r_iret rfl dX9_count_49 (?_)
      exact hQ m1 (Fm.fr Fm.rf hF1 (by simp)) (hC.fr48 hF1)
    · refine r_tabI 50 dX9_count_1 (by decide) (by decide) rfl (by decide) ?_
      refine r_aload_0 (q := 51) dX9_count_50 rfl ?_
      refine r_getI (k := 1) (q := 54) f_RX9_7_8 rfl rfl dX9_count_51 rfl ?_
      rw [hB.2.1]
      refine r_iret rfl dX9_count_54 (?_)
      exact hQ0
    · refine r_tabI 55 dX9_count_1 (by decide) (by decide) rfl (by decide) ?_
      refine r_aload_0 (q := 56) dX9_count_55 rfl ?_
      refine r_getI (k := 2) (q := 59) f_RX9_98_8 rfl rfl dX9_count_56 rfl ?_
      rw [hB.2.2.1]
      refine r_iret rfl dX9_count_59 (?_)
      exact hQ0
    · refine r_tabI 60 dX9_count_1 (by decide) (by decide) rfl (by decide) ?_
      refine r_aload_0 (q := 61) dX9_count_60 rfl ?_
      refine r_getI (k := 25) (q := 64) f_RX9_171_8 rfl rfl dX9_count_61 rfl ?_
      rw [hO.2.1]
      refine r_iret rfl dX9_count_64 (?_)
      exact hQ0
    · refine r_tabI 65 dX9_count_1 (by decide) (by decide) rfl (by decide) ?_
      refine r_aload_0 (q := 66) dX9_count_65 rfl ?_
      refine r_getI (k := 24) (q := 69) f_RX9_164_8 rfl rfl dX9_count_66 rfl ?_
      rw [hO.1]
      refine r_iret rfl dX9_count_69 (?_)
      exact hQ0
end MQ
