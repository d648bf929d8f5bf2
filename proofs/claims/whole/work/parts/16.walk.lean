/-! THE CLASS: the walk through the fit sets -/
/-- the walk's answer, by what is hopeless and what is done with a set that is met -/
def walkP {κ : Type} (hop : List Nat → Nat → κ → Bool) (mt : Nat → Nat → κ → κ) (cl : Nat → Nat) : List Nat → Nat → Nat → Nat → κ → κ
  | [], _, set, tk, k => if hop [] set k then k else mt set tk k
  | u :: rest, dp, set, tk, k => if hop (u :: rest) set k then k else walkP hop mt cl rest (dp + 1) set tk (if cl u &&& set = 0 then walkP hop mt cl rest (dp + 1) (set ||| u) (tk ||| 2 ^ dp) k else k)
/-- a search's own cells: the set, the units taken (bits), the sums -/
def Sk (g gs set tk : Nat) (S : Nat → Nat) (mem : Mem) : Prop := mem g 0 3 = nI set ∧ mem g 0 4 = nI tk ∧ ∀ b, b < 10 → mem gs 0 b = nI (S b)
def FrS (g gs : Nat) (mem mem' : Mem) : Prop := Fr [g, gs] mem mem' ∧ ∀ i, i ≠ 3 → i ≠ 4 → mem' g 0 i = mem g 0 i
theorem FrS.rf {g gs : Nat} {mem : Mem} : FrS g gs mem mem := ⟨Fr.rf, fun _ _ _ => rfl⟩
theorem FrS.tr {g gs : Nat} {a b c : Mem} (h : FrS g gs a b) (h2 : FrS g gs b c) : FrS g gs a c := ⟨h.1.tr h2.1, fun i h3 h4 => (h2.2 i h3 h4).trans (h.2 i h3 h4)⟩
theorem Uk.fr {B : BD} {Us : List Nat} {gs : List Nat} {a b : Mem} (hU : Uk B Us a) (h : Fr gs a b) (h9 : 9 ∉ gs) (h10 : 10 ∉ gs) (h11 : 11 ∉ gs) (h13 : 13 ∉ gs) (h15 : 15 ∉ gs) : Uk B Us b := by
  unfold Uk UkT
  rw [h 9 h9, h 10 h10, h 11 h11, h 13 h13, h 15 h15]
  exact hU
theorem andn_or_self {a b : Nat} (h : a &&& b = 0) : andn (a ||| b) b = a := by
  apply tb_ext
  intro i
  rw [andn_tb, Nat.testBit_or]
  have := and_zero_iff.mp h i
  cases h1 : a.testBit i <;> cases h2 : b.testBit i <;> simp_all
theorem or_and_zero {a b c : Nat} (h1 : a &&& c = 0) (h2 : b &&& c = 0) : (a ||| b) &&& c = 0 := by
  rw [Nat.and_or_distrib_right, h1, h2]
  rfl
theorem lt_pow_and {a k : Nat} (h : a < 2 ^ k) : a &&& 2 ^ k = 0 := and_zero_iff.mpr (fun i ⟨h1, h2⟩ => by
  rw [tb_pow] at h2
  have e : k = i := of_decide_eq_true h2
  subst e
  rw [tb_hi h (Nat.le_refl _)] at h1
  cases h1)
theorem sumf_add {f g : Nat → Nat} : ∀ n, sumf (fun q => f q + g q) n = sumf f n + sumf g n
  | 0 => rfl
  | n + 1 => by
    unfold sumf
    rw [sumf_add n]
    omega
theorem sumN_or {B : BD} {s t b : Nat} (h : s &&& t = 0) : sumN B (s ||| t) b = sumN B s b + sumN B t b := by
  unfold sumN
  rw [← sumf_add]
  apply sumf_congr
  intro q _
  have := and_zero_iff.mp h q
  rw [Nat.testBit_or]
  cases h1 : s.testBit q <;> cases h2 : t.testBit q <;> simp_all
theorem sumN_zero {B : BD} (b : Nat) : sumN B 0 b = 0 := by
  unfold sumN
  have : ∀ n, sumf (fun q => if (0 : Nat).testBit q then wN B q b else 0) n = 0 := by
    intro n
    induction n with
    | zero => rfl
    | succ n ih => rw [sumf, ih]; simp
  exact this _
/-- units: apart, below 2^24 -/
def UsOK (Us : List Nat) : Prop := Us.length ≤ 16 ∧ (∀ i, i < Us.length → Us.getD i 0 < 2 ^ 24) ∧ ∀ i j, i < j → j < Us.length → Us.getD i 0 &&& Us.getD j 0 = 0
section TK
variable {E : En} {d : Nat} {mem : Mem} {Q : Int32 → Mem → Prop} {B : BD} {Us : List Nat}
theorem take16_ok {u set tk : Nat} {S : Nat → Nat} (hU : Uk B Us mem) (hO : UsOK Us) (hu : u < Us.length) (hS : Sk 16 17 set tk S mem) (hQ : ∀ mem', FrS 16 17 mem mem' → Sk 16 17 (set ||| Us.getD u 0) (tk ||| 2 ^ u) (fun b => S b + sumN B (Us.getD u 0) b) mem' → Q 0 mem') : Call E d mX4_take [pR 16 0, pI (nI u)] mem Q := by
  refine Call.of [some (pR 16 0), some (pI (nI u)), none] mk_X4_take rfl (Nat.le_of_ble_eq_true rfl) (fun _ => ?_)
  have hl := hO.1
  have hUu := hU.1.2 u hu
  refine r_aload_0 (q := 1) dX4_take_0 rfl ?_
  refine r_dup (q := 2) dX4_take_1 rfl ?_
  refine r_getI (k := 3) (q := 5) f_RX4_15_1 rfl rfl dX4_take_2 rfl ?_
  rw [hS.1]
  refine r_aload_0 (q := 6) dX4_take_5 rfl ?_
  refine r_getR (k := 0) (q := 9) f_RX4_22_1 rfl rfl dX4_take_6 rfl ?_
  refine r_getR (k := 0) (q := 12) f_RX4_56_4 rfl rfl dX4_take_9 rfl ?_
  refine r_iload_1 (q := 13) dX4_take_12 rfl ?_
  refine r_iald (q := 14) _ rfl rfl (by first | omega | assumption | decide) dX4_take_13 rfl ?_
  rw [hUu.1]
  refine r_ior (q := 15) dX4_take_14 rfl ?_
  rw [nb_or]
  refine r_put (k := 3) (q := 18) f_RX4_15_1 pf_1_3 rfl rfl dX4_take_15 rfl ?_
  refine r_aload_0 (q := 19) dX4_take_18 rfl ?_
  refine r_dup (q := 20) dX4_take_19 rfl ?_
  refine r_getI (k := 4) (q := 23) f_RX4_19_1 rfl rfl dX4_take_20 rfl ?_
  rw [show mset mem 16 0 3 (nI (set ||| Us.getD u 0)) 16 0 4 = nI tk from hS.2.1]
  refine r_iconst (q := 24) 1 (by decide) dX4_take_23 rfl ?_
  refine r_iload_1 (q := 25) dX4_take_24 rfl ?_
  refine r_ishl (q := 26) dX4_take_25 rfl ?_
  rw [nb_shl1 u (by omega)]
  refine r_ior (q := 27) dX4_take_26 rfl ?_
  rw [nb_or]
  refine r_put (k := 4) (q := 30) f_RX4_19_1 pf_1_4 rfl rfl dX4_take_27 rfl ?_
  refine r_iconst (q := 31) 0 (by decide) dX4_take_30 rfl ?_
  refine r_istore_2 (q := 32) (by decide) dX4_take_31 rfl ?_
  generalize hm1 : mset (mset mem 16 0 3 (nI (set ||| Us.getD u 0))) 16 0 4 (nI (tk ||| 2 ^ u)) = mem1
  have hF1 : FrS 16 17 mem mem1 := by
    rw [← hm1]
    refine ⟨(Fr.rf.mset (by simp)).mset (by simp), fun i h3 h4 => ?_⟩
    rw [mset_self, mset_self]
    unfold upd
    rw [if_neg h4, if_neg h3]
  have e3 : mem1 16 0 3 = nI (set ||| Us.getD u 0) := by rw [← hm1, mset_self, mset_self]; rfl
  have e4 : mem1 16 0 4 = nI (tk ||| 2 ^ u) := by rw [← hm1, mset_self]; rfl
  have es : mem1 17 = mem 17 := by rw [← hm1, mset_g _ _ _ _ (by decide), mset_g _ _ _ _ (by decide)]
  clear hm1
  suffices H : ∀ (k b : Nat) (m : Mem), 10 - b < k → b ≤ 10 → Fr [17] mem1 m → (∀ i, i < 10 → m 17 0 i = nI (if i < b then S i + sumN B (Us.getD u 0) i else S i)) → Wp E (xm E d mX4_take Q) mX4_take 32 [some (pR 16 0), some (pI (nI u)), some (pI (nI b))] [] m from H 11 0 mem1 (by omega) (by omega) Fr.rf (fun i hi => by rw [es, if_neg (by omega)]; exact hS.2.2 i hi)
  intro k
  induction k with
  | zero => intro b m h; omega
  | succ k ih =>
    intro b m h1 h2 hF hR
    refine r_iload_2 (q := 33) dX4_take_32 rfl ?_
    refine r_bipush (q := 35) 10 (by decide) dX4_take_33 rfl ?_
    refine r_icmp_ge (q := 38) 64 dX4_take_35 (by decide) rfl (fun h35 => ?_) (fun h35 => ?_)
    · have hb := nI_ge_of (a := 10) (by decide) (by omega) h35
      have hb : b = 10 := by omega
      subst hb
      have hFm : FrS 16 17 mem m := hF1.tr ⟨hF.mono (by simp), fun i _ _ => by rw [hF 16 (by decide)]⟩
      refine r_vret rfl dX4_take_64 (?_)
      exact hQ m hFm ⟨by rw [hF 16 (by decide)]; exact e3, by rw [hF 16 (by decide)]; exact e4, fun b hb => by rw [hR b hb, if_pos hb]⟩
    · have hb : b < 10 := nI_lt_of (a := 10) (by omega) h35
      have hUm : Uk B Us m := hU.fr (gs := [16, 17]) (hF1.1.tr (hF.mono (by simp))) (by decide) (by decide) (by decide) (by decide) (by decide)
      refine r_aload_0 (q := 39) dX4_take_38 rfl ?_
      refine r_getR (k := 2) (q := 42) f_RX4_9_1 rfl rfl dX4_take_39 rfl ?_
      refine r_iload_2 (q := 43) dX4_take_42 rfl ?_
      refine r_dup2 (q := 44) dX4_take_43 rfl ?_
      refine r_iald (q := 45) _ rfl rfl (by first | omega | assumption | decide) dX4_take_44 rfl ?_
      rw [hR b hb, if_neg (by omega)]
      refine r_aload_0 (q := 46) dX4_take_45 rfl ?_
      refine r_getR (k := 0) (q := 49) f_RX4_22_1 rfl rfl dX4_take_46 rfl ?_
      refine r_getR (k := 2) (q := 52) f_RX4_59_4 rfl rfl dX4_take_49 rfl ?_
      refine r_iload_1 (q := 53) dX4_take_52 rfl ?_
      refine r_aald (q := 54) _ rfl rfl (by first | omega | assumption | decide) dX4_take_53 rfl ?_
      refine r_iload_2 (q := 55) dX4_take_54 rfl ?_
      refine r_iald (q := 56) _ rfl rfl (by first | omega | assumption | decide) dX4_take_55 rfl ?_
      rw [(hUm.1.2 u hu).2.2 b hb]
      refine r_iadd (q := 57) dX4_take_56 rfl ?_
      rw [nI_add]
      refine r_iast (q := 58) _ rfl rfl (by first | omega | assumption | decide) dX4_take_57 rfl ?_
      refine r_iinc_2 (q := 61) _ (nI_inc _) (by decide) dX4_take_58 rfl ?_
      refine r_goto 32 dX4_take_61 (by decide) ?_
      refine ih (b + 1) _ (by omega) (by omega) (hF.mset (by simp)) (fun i hi => ?_)
      rw [mset_self]
      unfold upd
      by_cases e : i = b
      · subst e; rw [if_pos rfl, if_pos (by omega)]
      · rw [if_neg e, hR i hi]
        by_cases e2 : i < b
        · rw [if_pos e2, if_pos (by omega)]
        · rw [if_neg e2, if_neg (by omega)]
theorem drop16_ok {u set tk : Nat} {S : Nat → Nat} (hU : Uk B Us mem) (hO : UsOK Us) (hu : u < Us.length) (hset : set &&& Us.getD u 0 = 0) (htk : tk < 2 ^ u) (hS : Sk 16 17 (set ||| Us.getD u 0) (tk ||| 2 ^ u) (fun b => S b + sumN B (Us.getD u 0) b) mem) (hQ : ∀ mem', FrS 16 17 mem mem' → Sk 16 17 set tk S mem' → Q 0 mem') : Call E d mX4_drop [pR 16 0, pI (nI u)] mem Q := by
  refine Call.of [some (pR 16 0), some (pI (nI u)), none] mk_X4_drop rfl (Nat.le_of_ble_eq_true rfl) (fun _ => ?_)
  have hl := hO.1
  have hUu := hU.1.2 u hu
  refine r_aload_0 (q := 1) dX4_drop_0 rfl ?_
  refine r_dup (q := 2) dX4_drop_1 rfl ?_
  refine r_getI (k := 3) (q := 5) f_RX4_15_1 rfl rfl dX4_drop_2 rfl ?_
  rw [hS.1]
  refine r_aload_0 (q := 6) dX4_drop_5 rfl ?_
  refine r_getR (k := 0) (q := 9) f_RX4_22_1 rfl rfl dX4_drop_6 rfl ?_
  refine r_getR (k := 0) (q := 12) f_RX4_56_4 rfl rfl dX4_drop_9 rfl ?_
  refine r_iload_1 (q := 13) dX4_drop_12 rfl ?_
  refine r_iald (q := 14) _ rfl rfl (by first | omega | assumption | decide) dX4_drop_13 rfl ?_
  rw [hUu.1]
  refine r_iconst (q := 15) (-1) (by decide) dX4_drop_14 rfl ?_
  refine r_ixor (q := 16) dX4_drop_15 rfl ?_
  refine r_iand (q := 17) dX4_drop_16 rfl ?_
  rw [nb_andn, andn_or_self hset]
  refine r_put (k := 3) (q := 20) f_RX4_15_1 pf_1_3 rfl rfl dX4_drop_17 rfl ?_
  refine r_aload_0 (q := 21) dX4_drop_20 rfl ?_
  refine r_dup (q := 22) dX4_drop_21 rfl ?_
  refine r_getI (k := 4) (q := 25) f_RX4_19_1 rfl rfl dX4_drop_22 rfl ?_
  rw [show mset mem 16 0 3 (nI set) 16 0 4 = nI (tk ||| 2 ^ u) from hS.2.1]
  refine r_iconst (q := 26) 1 (by decide) dX4_drop_25 rfl ?_
  refine r_iload_1 (q := 27) dX4_drop_26 rfl ?_
  refine r_ishl (q := 28) dX4_drop_27 rfl ?_
  rw [nb_shl1 u (by omega)]
  refine r_iconst (q := 29) (-1) (by decide) dX4_drop_28 rfl ?_
  refine r_ixor (q := 30) dX4_drop_29 rfl ?_
  refine r_iand (q := 31) dX4_drop_30 rfl ?_
  rw [nb_andn, andn_or_self (lt_pow_and htk)]
  refine r_put (k := 4) (q := 34) f_RX4_19_1 pf_1_4 rfl rfl dX4_drop_31 rfl ?_
  refine r_iconst (q := 35) 0 (by decide) dX4_drop_34 rfl ?_
  refine r_istore_2 (q := 36) (by decide) dX4_drop_35 rfl ?_
  generalize hm1 : mset (mset mem 16 0 3 (nI set)) 16 0 4 (nI tk) = mem1
  have hF1 : FrS 16 17 mem mem1 := by
    rw [← hm1]
    refine ⟨(Fr.rf.mset (by simp)).mset (by simp), fun i h3 h4 => ?_⟩
    rw [mset_self, mset_self]
    unfold upd
    rw [if_neg h4, if_neg h3]
  have e3 : mem1 16 0 3 = nI set := by rw [← hm1, mset_self, mset_self]; rfl
  have e4 : mem1 16 0 4 = nI tk := by rw [← hm1, mset_self]; rfl
  have es : mem1 17 = mem 17 := by rw [← hm1, mset_g _ _ _ _ (by decide), mset_g _ _ _ _ (by decide)]
  clear hm1
  suffices H : ∀ (k b : Nat) (m : Mem), 10 - b < k → b ≤ 10 → Fr [17] mem1 m → (∀ i, i < 10 → m 17 0 i = nI (if i < b then S i else S i + sumN B (Us.getD u 0) i)) → Wp E (xm E d mX4_drop Q) mX4_drop 36 [some (pR 16 0), some (pI (nI u)), some (pI (nI b))] [] m from H 11 0 mem1 (by omega) (by omega) Fr.rf (fun i hi => by rw [es, if_neg (by omega)]; exact hS.2.2 i hi)
  intro k
  induction k with
  | zero => intro b m h; omega
  | succ k ih =>
    intro b m h1 h2 hF hR
    refine r_iload_2 (q := 37) dX4_drop_36 rfl ?_
    refine r_bipush (q := 39) 10 (by decide) dX4_drop_37 rfl ?_
    refine r_icmp_ge (q := 42) 68 dX4_drop_39 (by decide) rfl (fun h35 => ?_) (fun h35 => ?_)
    · have hb := nI_ge_of (a := 10) (by decide) (by omega) h35
      have hb : b = 10 := by omega
      subst hb
      have hFm : FrS 16 17 mem m := hF1.tr ⟨hF.mono (by simp), fun i _ _ => by rw [hF 16 (by decide)]⟩
      refine r_vret rfl dX4_drop_68 (?_)
      exact hQ m hFm ⟨by rw [hF 16 (by decide)]; exact e3, by rw [hF 16 (by decide)]; exact e4, fun b hb => by rw [hR b hb, if_pos hb]⟩
    · have hb : b < 10 := nI_lt_of (a := 10) (by omega) h35
      have hUm : Uk B Us m := hU.fr (gs := [16, 17]) (hF1.1.tr (hF.mono (by simp))) (by decide) (by decide) (by decide) (by decide) (by decide)
      refine r_aload_0 (q := 43) dX4_drop_42 rfl ?_
      refine r_getR (k := 2) (q := 46) f_RX4_9_1 rfl rfl dX4_drop_43 rfl ?_
      refine r_iload_2 (q := 47) dX4_drop_46 rfl ?_
      refine r_dup2 (q := 48) dX4_drop_47 rfl ?_
      refine r_iald (q := 49) _ rfl rfl (by first | omega | assumption | decide) dX4_drop_48 rfl ?_
      rw [hR b hb, if_neg (by omega)]
      refine r_aload_0 (q := 50) dX4_drop_49 rfl ?_
      refine r_getR (k := 0) (q := 53) f_RX4_22_1 rfl rfl dX4_drop_50 rfl ?_
      refine r_getR (k := 2) (q := 56) f_RX4_59_4 rfl rfl dX4_drop_53 rfl ?_
      refine r_iload_1 (q := 57) dX4_drop_56 rfl ?_
      refine r_aald (q := 58) _ rfl rfl (by first | omega | assumption | decide) dX4_drop_57 rfl ?_
      refine r_iload_2 (q := 59) dX4_drop_58 rfl ?_
      refine r_iald (q := 60) _ rfl rfl (by first | omega | assumption | decide) dX4_drop_59 rfl ?_
      rw [(hUm.1.2 u hu).2.2 b hb]
      refine r_isub (q := 61) dX4_drop_60 rfl ?_
      rw [pk_sub (Nat.le_add_left _ _), Nat.add_sub_cancel]
      refine r_iast (q := 62) _ rfl rfl (by first | omega | assumption | decide) dX4_drop_61 rfl ?_
      refine r_iinc_2 (q := 65) _ (nI_inc _) (by decide) dX4_drop_62 rfl ?_
      refine r_goto 36 dX4_drop_65 (by decide) ?_
      refine ih (b + 1) _ (by omega) (by omega) (hF.mset (by simp)) (fun i hi => ?_)
      rw [mset_self]
      unfold upd
      by_cases e : i = b
      · subst e; rw [if_pos rfl, if_pos (by omega)]
      · rw [if_neg e, hR i hi]
        by_cases e2 : i < b
        · rw [if_pos e2, if_pos (by omega)]
        · rw [if_neg e2, if_neg (by omega)]
theorem take18_ok {u set tk : Nat} {S : Nat → Nat} (hU : Uk B Us mem) (hO : UsOK Us) (hu : u < Us.length) (hS : Sk 18 19 set tk S mem) (hQ : ∀ mem', FrS 18 19 mem mem' → Sk 18 19 (set ||| Us.getD u 0) (tk ||| 2 ^ u) (fun b => S b + sumN B (Us.getD u 0) b) mem' → Q 0 mem') : Call E d mX4_take [pR 18 0, pI (nI u)] mem Q := by
  refine Call.of [some (pR 18 0), some (pI (nI u)), none] mk_X4_take rfl (Nat.le_of_ble_eq_true rfl) (fun _ => ?_)
  have hl := hO.1
  have hUu := hU.1.2 u hu
  refine r_aload_0 (q := 1) dX4_take_0 rfl ?_
  refine r_dup (q := 2) dX4_take_1 rfl ?_
  refine r_getI (k := 3) (q := 5) f_RX4_15_6 rfl rfl dX4_take_2 rfl ?_
  rw [hS.1]
  refine r_aload_0 (q := 6) dX4_take_5 rfl ?_
  refine r_getR (k := 0) (q := 9) f_RX4_22_6 rfl rfl dX4_take_6 rfl ?_
  refine r_getR (k := 0) (q := 12) f_RX4_56_4 rfl rfl dX4_take_9 rfl ?_
  refine r_iload_1 (q := 13) dX4_take_12 rfl ?_
  refine r_iald (q := 14) _ rfl rfl (by first | omega | assumption | decide) dX4_take_13 rfl ?_
  rw [hUu.1]
  refine r_ior (q := 15) dX4_take_14 rfl ?_
  rw [nb_or]
  refine r_put (k := 3) (q := 18) f_RX4_15_6 pf_6_3 rfl rfl dX4_take_15 rfl ?_
  refine r_aload_0 (q := 19) dX4_take_18 rfl ?_
  refine r_dup (q := 20) dX4_take_19 rfl ?_
  refine r_getI (k := 4) (q := 23) f_RX4_19_6 rfl rfl dX4_take_20 rfl ?_
  rw [show mset mem 18 0 3 (nI (set ||| Us.getD u 0)) 18 0 4 = nI tk from hS.2.1]
  refine r_iconst (q := 24) 1 (by decide) dX4_take_23 rfl ?_
  refine r_iload_1 (q := 25) dX4_take_24 rfl ?_
  refine r_ishl (q := 26) dX4_take_25 rfl ?_
  rw [nb_shl1 u (by omega)]
  refine r_ior (q := 27) dX4_take_26 rfl ?_
  rw [nb_or]
  refine r_put (k := 4) (q := 30) f_RX4_19_6 pf_6_4 rfl rfl dX4_take_27 rfl ?_
  refine r_iconst (q := 31) 0 (by decide) dX4_take_30 rfl ?_
  refine r_istore_2 (q := 32) (by decide) dX4_take_31 rfl ?_
  generalize hm1 : mset (mset mem 18 0 3 (nI (set ||| Us.getD u 0))) 18 0 4 (nI (tk ||| 2 ^ u)) = mem1
  have hF1 : FrS 18 19 mem mem1 := by
    rw [← hm1]
    refine ⟨(Fr.rf.mset (by simp)).mset (by simp), fun i h3 h4 => ?_⟩
    rw [mset_self, mset_self]
    unfold upd
    rw [if_neg h4, if_neg h3]
  have e3 : mem1 18 0 3 = nI (set ||| Us.getD u 0) := by rw [← hm1, mset_self, mset_self]; rfl
  have e4 : mem1 18 0 4 = nI (tk ||| 2 ^ u) := by rw [← hm1, mset_self]; rfl
  have es : mem1 19 = mem 19 := by rw [← hm1, mset_g _ _ _ _ (by decide), mset_g _ _ _ _ (by decide)]
  clear hm1
  suffices H : ∀ (k b : Nat) (m : Mem), 10 - b < k → b ≤ 10 → Fr [19] mem1 m → (∀ i, i < 10 → m 19 0 i = nI (if i < b then S i + sumN B (Us.getD u 0) i else S i)) → Wp E (xm E d mX4_take Q) mX4_take 32 [some (pR 18 0), some (pI (nI u)), some (pI (nI b))] [] m from H 11 0 mem1 (by omega) (by omega) Fr.rf (fun i hi => by rw [es, if_neg (by omega)]; exact hS.2.2 i hi)
  intro k
  induction k with
  | zero => intro b m h; omega
  | succ k ih =>
    intro b m h1 h2 hF hR
    refine r_iload_2 (q := 33) dX4_take_32 rfl ?_
    refine r_bipush (q := 35) 10 (by decide) dX4_take_33 rfl ?_
    refine r_icmp_ge (q := 38) 64 dX4_take_35 (by decide) rfl (fun h35 => ?_) (fun h35 => ?_)
    · have hb := nI_ge_of (a := 10) (by decide) (by omega) h35
      have hb : b = 10 := by omega
      subst hb
      have hFm : FrS 18 19 mem m := hF1.tr ⟨hF.mono (by simp), fun i _ _ => by rw [hF 18 (by decide)]⟩
      refine r_vret rfl dX4_take_64 (?_)
      exact hQ m hFm ⟨by rw [hF 18 (by decide)]; exact e3, by rw [hF 18 (by decide)]; exact e4, fun b hb => by rw [hR b hb, if_pos hb]⟩
    · have hb : b < 10 := nI_lt_of (a := 10) (by omega) h35
      have hUm : Uk B Us m := hU.fr (gs := [18, 19]) (hF1.1.tr (hF.mono (by simp))) (by decide) (by decide) (by decide) (by decide) (by decide)
      refine r_aload_0 (q := 39) dX4_take_38 rfl ?_
      refine r_getR (k := 2) (q := 42) f_RX4_9_6 rfl rfl dX4_take_39 rfl ?_
      refine r_iload_2 (q := 43) dX4_take_42 rfl ?_
      refine r_dup2 (q := 44) dX4_take_43 rfl ?_
      refine r_iald (q := 45) _ rfl rfl (by first | omega | assumption | decide) dX4_take_44 rfl ?_
      rw [hR b hb, if_neg (by omega)]
      refine r_aload_0 (q := 46) dX4_take_45 rfl ?_
      refine r_getR (k := 0) (q := 49) f_RX4_22_6 rfl rfl dX4_take_46 rfl ?_
      refine r_getR (k := 2) (q := 52) f_RX4_59_4 rfl rfl dX4_take_49 rfl ?_
      refine r_iload_1 (q := 53) dX4_take_52 rfl ?_
      refine r_aald (q := 54) _ rfl rfl (by first | omega | assumption | decide) dX4_take_53 rfl ?_
      refine r_iload_2 (q := 55) dX4_take_54 rfl ?_
      refine r_iald (q := 56) _ rfl rfl (by first | omega | assumption | decide) dX4_take_55 rfl ?_
      rw [(hUm.1.2 u hu).2.2 b hb]
      refine r_iadd (q := 57) dX4_take_56 rfl ?_
      rw [nI_add]
      refine r_iast (q := 58) _ rfl rfl (by first | omega | assumption | decide) dX4_take_57 rfl ?_
      refine r_iinc_2 (q := 61) _ (nI_inc _) (by decide) dX4_take_58 rfl ?_
      refine r_goto 32 dX4_take_61 (by decide) ?_
      refine ih (b + 1) _ (by omega) (by omega) (hF.mset (by simp)) (fun i hi => ?_)
      rw [mset_self]
      unfold upd
      by_cases e : i = b
      · subst e; rw [if_pos rfl, if_pos (by omega)]
      · rw [if_neg e, hR i hi]
        by_cases e2 : i < b
        · rw [if_pos e2, if_pos (by omega)]
        · rw [if_neg e2, if_neg (by omega)]
theorem drop18_ok {u set tk : Nat} {S : Nat → Nat} (hU : Uk B Us mem) (hO : UsOK Us) (hu : u < Us.length) (hset : set &&& Us.getD u 0 = 0) (htk : tk < 2 ^ u) (hS : Sk 18 19 (set ||| Us.getD u 0) (tk ||| 2 ^ u) (fun b => S b + sumN B (Us.getD u 0) b) mem) (hQ : ∀ mem', FrS 18 19 mem mem' → Sk 18 19 set tk S mem' → Q 0 mem') : Call E d mX4_drop [pR 18 0, pI (nI u)] mem Q := by
  refine Call.of [some (pR 18 0), some (pI (nI u)), none] mk_X4_drop rfl (Nat.le_of_ble_eq_true rfl) (fun _ => ?_)
  have hl := hO.1
  have hUu := hU.1.2 u hu
  refine r_aload_0 (q := 1) dX4_drop_0 rfl ?_
  refine r_dup (q := 2) dX4_drop_1 rfl ?_
  refine r_getI (k := 3) (q := 5) f_RX4_15_6 rfl rfl dX4_drop_2 rfl ?_
  rw [hS.1]
  refine r_aload_0 (q := 6) dX4_drop_5 rfl ?_
  refine r_getR (k := 0) (q := 9) f_RX4_22_6 rfl rfl dX4_drop_6 rfl ?_
  refine r_getR (k := 0) (q := 12) f_RX4_56_4 rfl rfl dX4_drop_9 rfl ?_
  refine r_iload_1 (q := 13) dX4_drop_12 rfl ?_
  refine r_iald (q := 14) _ rfl rfl (by first | omega | assumption | decide) dX4_drop_13 rfl ?_
  rw [hUu.1]
  refine r_iconst (q := 15) (-1) (by decide) dX4_drop_14 rfl ?_
  refine r_ixor (q := 16) dX4_drop_15 rfl ?_
  refine r_iand (q := 17) dX4_drop_16 rfl ?_
  rw [nb_andn, andn_or_self hset]
  refine r_put (k := 3) (q := 20) f_RX4_15_6 pf_6_3 rfl rfl dX4_drop_17 rfl ?_
  refine r_aload_0 (q := 21) dX4_drop_20 rfl ?_
  refine r_dup (q := 22) dX4_drop_21 rfl ?_
  refine r_getI (k := 4) (q := 25) f_RX4_19_6 rfl rfl dX4_drop_22 rfl ?_
  rw [show mset mem 18 0 3 (nI set) 18 0 4 = nI (tk ||| 2 ^ u) from hS.2.1]
  refine r_iconst (q := 26) 1 (by decide) dX4_drop_25 rfl ?_
  refine r_iload_1 (q := 27) dX4_drop_26 rfl ?_
  refine r_ishl (q := 28) dX4_drop_27 rfl ?_
  rw [nb_shl1 u (by omega)]
  refine r_iconst (q := 29) (-1) (by decide) dX4_drop_28 rfl ?_
  refine r_ixor (q := 30) dX4_drop_29 rfl ?_
  refine r_iand (q := 31) dX4_drop_30 rfl ?_
  rw [nb_andn, andn_or_self (lt_pow_and htk)]
  refine r_put (k := 4) (q := 34) f_RX4_19_6 pf_6_4 rfl rfl dX4_drop_31 rfl ?_
  refine r_iconst (q := 35) 0 (by decide) dX4_drop_34 rfl ?_
  refine r_istore_2 (q := 36) (by decide) dX4_drop_35 rfl ?_
  generalize hm1 : mset (mset mem 18 0 3 (nI set)) 18 0 4 (nI tk) = mem1
  have hF1 : FrS 18 19 mem mem1 := by
    rw [← hm1]
    refine ⟨(Fr.rf.mset (by simp)).mset (by simp), fun i h3 h4 => ?_⟩
    rw [mset_self, mset_self]
    unfold upd
    rw [if_neg h4, if_neg h3]
  have e3 : mem1 18 0 3 = nI set := by rw [← hm1, mset_self, mset_self]; rfl
  have e4 : mem1 18 0 4 = nI tk := by rw [← hm1, mset_self]; rfl
  have es : mem1 19 = mem 19 := by rw [← hm1, mset_g _ _ _ _ (by decide), mset_g _ _ _ _ (by decide)]
  clear hm1
  suffices H : ∀ (k b : Nat) (m : Mem), 10 - b < k → b ≤ 10 → Fr [19] mem1 m → (∀ i, i < 10 → m 19 0 i = nI (if i < b then S i else S i + sumN B (Us.getD u 0) i)) → Wp E (xm E d mX4_drop Q) mX4_drop 36 [some (pR 18 0), some (pI (nI u)), some (pI (nI b))] [] m from H 11 0 mem1 (by omega) (by omega) Fr.rf (fun i hi => by rw [es, if_neg (by omega)]; exact hS.2.2 i hi)
  intro k
  induction k with
  | zero => intro b m h; omega
  | succ k ih =>
    intro b m h1 h2 hF hR
    refine r_iload_2 (q := 37) dX4_drop_36 rfl ?_
    refine r_bipush (q := 39) 10 (by decide) dX4_drop_37 rfl ?_
    refine r_icmp_ge (q := 42) 68 dX4_drop_39 (by decide) rfl (fun h35 => ?_) (fun h35 => ?_)
    · have hb := nI_ge_of (a := 10) (by decide) (by omega) h35
      have hb : b = 10 := by omega
      subst hb
      have hFm : FrS 18 19 mem m := hF1.tr ⟨hF.mono (by simp), fun i _ _ => by rw [hF 18 (by decide)]⟩
      refine r_vret rfl dX4_drop_68 (?_)
      exact hQ m hFm ⟨by rw [hF 18 (by decide)]; exact e3, by rw [hF 18 (by decide)]; exact e4, fun b hb => by rw [hR b hb, if_pos hb]⟩
    · have hb : b < 10 := nI_lt_of (a := 10) (by omega) h35
      have hUm : Uk B Us m := hU.fr (gs := [18, 19]) (hF1.1.tr (hF.mono (by simp))) (by decide) (by decide) (by decide) (by decide) (by decide)
      refine r_aload_0 (q := 43) dX4_drop_42 rfl ?_
      refine r_getR (k := 2) (q := 46) f_RX4_9_6 rfl rfl dX4_drop_43 rfl ?_
      refine r_iload_2 (q := 47) dX4_drop_46 rfl ?_
      refine r_dup2 (q := 48) dX4_drop_47 rfl ?_
      refine r_iald (q := 49) _ rfl rfl (by first | omega | assumption | decide) dX4_drop_48 rfl ?_
      rw [hR b hb, if_neg (by omega)]
      refine r_aload_0 (q := 50) dX4_drop_49 rfl ?_
      refine r_getR (k := 0) (q := 53) f_RX4_22_6 rfl rfl dX4_drop_50 rfl ?_
      refine r_getR (k := 2) (q := 56) f_RX4_59_4 rfl rfl dX4_drop_53 rfl ?_
      refine r_iload_1 (q := 57) dX4_drop_56 rfl ?_
      refine r_aald (q := 58) _ rfl rfl (by first | omega | assumption | decide) dX4_drop_57 rfl ?_
      refine r_iload_2 (q := 59) dX4_drop_58 rfl ?_
      refine r_iald (q := 60) _ rfl rfl (by first | omega | assumption | decide) dX4_drop_59 rfl ?_
      rw [(hUm.1.2 u hu).2.2 b hb]
      refine r_isub (q := 61) dX4_drop_60 rfl ?_
      rw [pk_sub (Nat.le_add_left _ _), Nat.add_sub_cancel]
      refine r_iast (q := 62) _ rfl rfl (by first | omega | assumption | decide) dX4_drop_61 rfl ?_
      refine r_iinc_2 (q := 65) _ (nI_inc _) (by decide) dX4_drop_62 rfl ?_
      refine r_goto 36 dX4_drop_65 (by decide) ?_
      refine ih (b + 1) _ (by omega) (by omega) (hF.mset (by simp)) (fun i hi => ?_)
      rw [mset_self]
      unfold upd
      by_cases e : i = b
      · subst e; rw [if_pos rfl, if_pos (by omega)]
      · rw [if_neg e, hR i hi]
        by_cases e2 : i < b
        · rw [if_pos e2, if_pos (by omega)]
        · rw [if_neg e2, if_neg (by omega)]
theorem take21_ok {u set tk : Nat} {S : Nat → Nat} (hU : Uk B Us mem) (hO : UsOK Us) (hu : u < Us.length) (hS : Sk 21 22 set tk S mem) (hQ : ∀ mem', FrS 21 22 mem mem' → Sk 21 22 (set ||| Us.getD u 0) (tk ||| 2 ^ u) (fun b => S b + sumN B (Us.getD u 0) b) mem' → Q 0 mem') : Call E d mX4_take [pR 21 0, pI (nI u)] mem Q := by
  refine Call.of [some (pR 21 0), some (pI (nI u)), none] mk_X4_take rfl (Nat.le_of_ble_eq_true rfl) (fun _ => ?_)
  have hl := hO.1
  have hUu := hU.1.2 u hu
  refine r_aload_0 (q := 1) dX4_take_0 rfl ?_
  refine r_dup (q := 2) dX4_take_1 rfl ?_
  refine r_getI (k := 3) (q := 5) f_RX4_15_5 rfl rfl dX4_take_2 rfl ?_
  rw [hS.1]
  refine r_aload_0 (q := 6) dX4_take_5 rfl ?_
  refine r_getR (k := 0) (q := 9) f_RX4_22_5 rfl rfl dX4_take_6 rfl ?_
  refine r_getR (k := 0) (q := 12) f_RX4_56_4 rfl rfl dX4_take_9 rfl ?_
  refine r_iload_1 (q := 13) dX4_take_12 rfl ?_
  refine r_iald (q := 14) _ rfl rfl (by first | omega | assumption | decide) dX4_take_13 rfl ?_
  rw [hUu.1]
  refine r_ior (q := 15) dX4_take_14 rfl ?_
  rw [nb_or]
  refine r_put (k := 3) (q := 18) f_RX4_15_5 pf_5_3 rfl rfl dX4_take_15 rfl ?_
  refine r_aload_0 (q := 19) dX4_take_18 rfl ?_
  refine r_dup (q := 20) dX4_take_19 rfl ?_
  refine r_getI (k := 4) (q := 23) f_RX4_19_5 rfl rfl dX4_take_20 rfl ?_
  rw [show mset mem 21 0 3 (nI (set ||| Us.getD u 0)) 21 0 4 = nI tk from hS.2.1]
  refine r_iconst (q := 24) 1 (by decide) dX4_take_23 rfl ?_
  refine r_iload_1 (q := 25) dX4_take_24 rfl ?_
  refine r_ishl (q := 26) dX4_take_25 rfl ?_
  rw [nb_shl1 u (by omega)]
  refine r_ior (q := 27) dX4_take_26 rfl ?_
  rw [nb_or]
  refine r_put (k := 4) (q := 30) f_RX4_19_5 pf_5_4 rfl rfl dX4_take_27 rfl ?_
  refine r_iconst (q := 31) 0 (by decide) dX4_take_30 rfl ?_
  refine r_istore_2 (q := 32) (by decide) dX4_take_31 rfl ?_
  generalize hm1 : mset (mset mem 21 0 3 (nI (set ||| Us.getD u 0))) 21 0 4 (nI (tk ||| 2 ^ u)) = mem1
  have hF1 : FrS 21 22 mem mem1 := by
    rw [← hm1]
    refine ⟨(Fr.rf.mset (by simp)).mset (by simp), fun i h3 h4 => ?_⟩
    rw [mset_self, mset_self]
    unfold upd
    rw [if_neg h4, if_neg h3]
  have e3 : mem1 21 0 3 = nI (set ||| Us.getD u 0) := by rw [← hm1, mset_self, mset_self]; rfl
  have e4 : mem1 21 0 4 = nI (tk ||| 2 ^ u) := by rw [← hm1, mset_self]; rfl
  have es : mem1 22 = mem 22 := by rw [← hm1, mset_g _ _ _ _ (by decide), mset_g _ _ _ _ (by decide)]
  clear hm1
  suffices H : ∀ (k b : Nat) (m : Mem), 10 - b < k → b ≤ 10 → Fr [22] mem1 m → (∀ i, i < 10 → m 22 0 i = nI (if i < b then S i + sumN B (Us.getD u 0) i else S i)) → Wp E (xm E d mX4_take Q) mX4_take 32 [some (pR 21 0), some (pI (nI u)), some (pI (nI b))] [] m from H 11 0 mem1 (by omega) (by omega) Fr.rf (fun i hi => by rw [es, if_neg (by omega)]; exact hS.2.2 i hi)
  intro k
  induction k with
  | zero => intro b m h; omega
  | succ k ih =>
    intro b m h1 h2 hF hR
    refine r_iload_2 (q := 33) dX4_take_32 rfl ?_
    refine r_bipush (q := 35) 10 (by decide) dX4_take_33 rfl ?_
    refine r_icmp_ge (q := 38) 64 dX4_take_35 (by decide) rfl (fun h35 => ?_) (fun h35 => ?_)
    · have hb := nI_ge_of (a := 10) (by decide) (by omega) h35
      have hb : b = 10 := by omega
      subst hb
      have hFm : FrS 21 22 mem m := hF1.tr ⟨hF.mono (by simp), fun i _ _ => by rw [hF 21 (by decide)]⟩
      refine r_vret rfl dX4_take_64 (?_)
      exact hQ m hFm ⟨by rw [hF 21 (by decide)]; exact e3, by rw [hF 21 (by decide)]; exact e4, fun b hb => by rw [hR b hb, if_pos hb]⟩
    · have hb : b < 10 := nI_lt_of (a := 10) (by omega) h35
      have hUm : Uk B Us m := hU.fr (gs := [21, 22]) (hF1.1.tr (hF.mono (by simp))) (by decide) (by decide) (by decide) (by decide) (by decide)
      refine r_aload_0 (q := 39) dX4_take_38 rfl ?_
      refine r_getR (k := 2) (q := 42) f_RX4_9_5 rfl rfl dX4_take_39 rfl ?_
      refine r_iload_2 (q := 43) dX4_take_42 rfl ?_
      refine r_dup2 (q := 44) dX4_take_43 rfl ?_
      refine r_iald (q := 45) _ rfl rfl (by first | omega | assumption | decide) dX4_take_44 rfl ?_
      rw [hR b hb, if_neg (by omega)]
      refine r_aload_0 (q := 46) dX4_take_45 rfl ?_
      refine r_getR (k := 0) (q := 49) f_RX4_22_5 rfl rfl dX4_take_46 rfl ?_
      refine r_getR (k := 2) (q := 52) f_RX4_59_4 rfl rfl dX4_take_49 rfl ?_
      refine r_iload_1 (q := 53) dX4_take_52 rfl ?_
      refine r_aald (q := 54) _ rfl rfl (by first | omega | assumption | decide) dX4_take_53 rfl ?_
      refine r_iload_2 (q := 55) dX4_take_54 rfl ?_
      refine r_iald (q := 56) _ rfl rfl (by first | omega | assumption | decide) dX4_take_55 rfl ?_
      rw [(hUm.1.2 u hu).2.2 b hb]
      refine r_iadd (q := 57) dX4_take_56 rfl ?_
      rw [nI_add]
      refine r_iast (q := 58) _ rfl rfl (by first | omega | assumption | decide) dX4_take_57 rfl ?_
      refine r_iinc_2 (q := 61) _ (nI_inc _) (by decide) dX4_take_58 rfl ?_
      refine r_goto 32 dX4_take_61 (by decide) ?_
      refine ih (b + 1) _ (by omega) (by omega) (hF.mset (by simp)) (fun i hi => ?_)
      rw [mset_self]
      unfold upd
      by_cases e : i = b
      · subst e; rw [if_pos rfl, if_pos (by omega)]
      · rw [if_neg e, hR i hi]
        by_cases e2 : i < b
        · rw [if_pos e2, if_pos (by omega)]
        · rw [if_neg e2, if_neg (by omega)]
theorem drop21_ok {u set tk : Nat} {S : Nat → Nat} (hU : Uk B Us mem) (hO : UsOK Us) (hu : u < Us.length) (hset : set &&& Us.getD u 0 = 0) (htk : tk < 2 ^ u) (hS : Sk 21 22 (set ||| Us.getD u 0) (tk ||| 2 ^ u) (fun b => S b + sumN B (Us.getD u 0) b) mem) (hQ : ∀ mem', FrS 21 22 mem mem' → Sk 21 22 set tk S mem' → Q 0 mem') : Call E d mX4_drop [pR 21 0, pI (nI u)] mem Q := by
  refine Call.of [some (pR 21 0), some (pI (nI u)), none] mk_X4_drop rfl (Nat.le_of_ble_eq_true rfl) (fun _ => ?_)
  have hl := hO.1
  have hUu := hU.1.2 u hu
  refine r_aload_0 (q := 1) dX4_drop_0 rfl ?_
  refine r_dup (q := 2) dX4_drop_1 rfl ?_
  refine r_getI (k := 3) (q := 5) f_RX4_15_5 rfl rfl dX4_drop_2 rfl ?_
  rw [hS.1]
  refine r_aload_0 (q := 6) dX4_drop_5 rfl ?_
  refine r_getR (k := 0) (q := 9) f_RX4_22_5 rfl rfl dX4_drop_6 rfl ?_
  refine r_getR (k := 0) (q := 12) f_RX4_56_4 rfl rfl dX4_drop_9 rfl ?_
  refine r_iload_1 (q := 13) dX4_drop_12 rfl ?_
  refine r_iald (q := 14) _ rfl rfl (by first | omega | assumption | decide) dX4_drop_13 rfl ?_
  rw [hUu.1]
  refine r_iconst (q := 15) (-1) (by decide) dX4_drop_14 rfl ?_
  refine r_ixor (q := 16) dX4_drop_15 rfl ?_
  refine r_iand (q := 17) dX4_drop_16 rfl ?_
  rw [nb_andn, andn_or_self hset]
  refine r_put (k := 3) (q := 20) f_RX4_15_5 pf_5_3 rfl rfl dX4_drop_17 rfl ?_
  refine r_aload_0 (q := 21) dX4_drop_20 rfl ?_
  refine r_dup (q := 22) dX4_drop_21 rfl ?_
  refine r_getI (k := 4) (q := 25) f_RX4_19_5 rfl rfl dX4_drop_22 rfl ?_
  rw [show mset mem 21 0 3 (nI set) 21 0 4 = nI (tk ||| 2 ^ u) from hS.2.1]
  refine r_iconst (q := 26) 1 (by decide) dX4_drop_25 rfl ?_
  refine r_iload_1 (q := 27) dX4_drop_26 rfl ?_
  refine r_ishl (q := 28) dX4_drop_27 rfl ?_
  rw [nb_shl1 u (by omega)]
  refine r_iconst (q := 29) (-1) (by decide) dX4_drop_28 rfl ?_
  refine r_ixor (q := 30) dX4_drop_29 rfl ?_
  refine r_iand (q := 31) dX4_drop_30 rfl ?_
  rw [nb_andn, andn_or_self (lt_pow_and htk)]
  refine r_put (k := 4) (q := 34) f_RX4_19_5 pf_5_4 rfl rfl dX4_drop_31 rfl ?_
  refine r_iconst (q := 35) 0 (by decide) dX4_drop_34 rfl ?_
  refine r_istore_2 (q := 36) (by decide) dX4_drop_35 rfl ?_
  generalize hm1 : mset (mset mem 21 0 3 (nI set)) 21 0 4 (nI tk) = mem1
  have hF1 : FrS 21 22 mem mem1 := by
    rw [← hm1]
    refine ⟨(Fr.rf.mset (by simp)).mset (by simp), fun i h3 h4 => ?_⟩
    rw [mset_self, mset_self]
    unfold upd
    rw [if_neg h4, if_neg h3]
  have e3 : mem1 21 0 3 = nI set := by rw [← hm1, mset_self, mset_self]; rfl
  have e4 : mem1 21 0 4 = nI tk := by rw [← hm1, mset_self]; rfl
  have es : mem1 22 = mem 22 := by rw [← hm1, mset_g _ _ _ _ (by decide), mset_g _ _ _ _ (by decide)]
  clear hm1
  suffices H : ∀ (k b : Nat) (m : Mem), 10 - b < k → b ≤ 10 → Fr [22] mem1 m → (∀ i, i < 10 → m 22 0 i = nI (if i < b then S i else S i + sumN B (Us.getD u 0) i)) → Wp E (xm E d mX4_drop Q) mX4_drop 36 [some (pR 21 0), some (pI (nI u)), some (pI (nI b))] [] m from H 11 0 mem1 (by omega) (by omega) Fr.rf (fun i hi => by rw [es, if_neg (by omega)]; exact hS.2.2 i hi)
  intro k
  induction k with
  | zero => intro b m h; omega
  | succ k ih =>
    intro b m h1 h2 hF hR
    refine r_iload_2 (q := 37) dX4_drop_36 rfl ?_
    refine r_bipush (q := 39) 10 (by decide) dX4_drop_37 rfl ?_
    refine r_icmp_ge (q := 42) 68 dX4_drop_39 (by decide) rfl (fun h35 => ?_) (fun h35 => ?_)
    · have hb := nI_ge_of (a := 10) (by decide) (by omega) h35
      have hb : b = 10 := by omega
      subst hb
      have hFm : FrS 21 22 mem m := hF1.tr ⟨hF.mono (by simp), fun i _ _ => by rw [hF 21 (by decide)]⟩
      refine r_vret rfl dX4_drop_68 (?_)
      exact hQ m hFm ⟨by rw [hF 21 (by decide)]; exact e3, by rw [hF 21 (by decide)]; exact e4, fun b hb => by rw [hR b hb, if_pos hb]⟩
    · have hb : b < 10 := nI_lt_of (a := 10) (by omega) h35
      have hUm : Uk B Us m := hU.fr (gs := [21, 22]) (hF1.1.tr (hF.mono (by simp))) (by decide) (by decide) (by decide) (by decide) (by decide)
      refine r_aload_0 (q := 43) dX4_drop_42 rfl ?_
      refine r_getR (k := 2) (q := 46) f_RX4_9_5 rfl rfl dX4_drop_43 rfl ?_
      refine r_iload_2 (q := 47) dX4_drop_46 rfl ?_
      refine r_dup2 (q := 48) dX4_drop_47 rfl ?_
      refine r_iald (q := 49) _ rfl rfl (by first | omega | assumption | decide) dX4_drop_48 rfl ?_
      rw [hR b hb, if_neg (by omega)]
      refine r_aload_0 (q := 50) dX4_drop_49 rfl ?_
      refine r_getR (k := 0) (q := 53) f_RX4_22_5 rfl rfl dX4_drop_50 rfl ?_
      refine r_getR (k := 2) (q := 56) f_RX4_59_4 rfl rfl dX4_drop_53 rfl ?_
      refine r_iload_1 (q := 57) dX4_drop_56 rfl ?_
      refine r_aald (q := 58) _ rfl rfl (by first | omega | assumption | decide) dX4_drop_57 rfl ?_
      refine r_iload_2 (q := 59) dX4_drop_58 rfl ?_
      refine r_iald (q := 60) _ rfl rfl (by first | omega | assumption | decide) dX4_drop_59 rfl ?_
      rw [(hUm.1.2 u hu).2.2 b hb]
      refine r_isub (q := 61) dX4_drop_60 rfl ?_
      rw [pk_sub (Nat.le_add_left _ _), Nat.add_sub_cancel]
      refine r_iast (q := 62) _ rfl rfl (by first | omega | assumption | decide) dX4_drop_61 rfl ?_
      refine r_iinc_2 (q := 65) _ (nI_inc _) (by decide) dX4_drop_62 rfl ?_
      refine r_goto 36 dX4_drop_65 (by decide) ?_
      refine ih (b + 1) _ (by omega) (by omega) (hF.mset (by simp)) (fun i hi => ?_)
      rw [mset_self]
      unfold upd
      by_cases e : i = b
      · subst e; rw [if_pos rfl, if_pos (by omega)]
      · rw [if_neg e, hR i hi]
        by_cases e2 : i < b
        · rw [if_pos e2, if_pos (by omega)]
        · rw [if_neg e2, if_neg (by omega)]

end TK
