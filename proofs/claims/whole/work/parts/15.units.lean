/-! THE CLASS: Units -/
/-- nothing but these groups has changed -/
def Fr (gs : List Nat) (mem mem' : Mem) : Prop := ∀ g, g ∉ gs → mem' g = mem g
theorem Fr.rf {gs : List Nat} {mem : Mem} : Fr gs mem mem := fun _ _ => rfl
theorem Fr.tr {gs : List Nat} {a b c : Mem} (h : Fr gs a b) (h2 : Fr gs b c) : Fr gs a c := fun g hg => (h2 g hg).trans (h g hg)
theorem Fr.mono {gs hs : List Nat} {a b : Mem} (h : Fr gs a b) (hh : ∀ g, g ∈ gs → g ∈ hs) : Fr hs a b := fun g hg => h g (fun z => hg (hh g z))
theorem Fr.mset {gs : List Nat} {a b : Mem} {g j i : Nat} {v : Int32} (h : Fr gs a b) (hg : g ∈ gs) : Fr gs a (mset b g j i v) := fun g' h' => (mset_g b j i v (fun e => h' (by rw [e]; exact hg))).trans (h g' h')
theorem Fr.mrow {gs : List Nat} {a b : Mem} {g j : Nat} {f : Nat → Int32} (h : Fr gs a b) (hg : g ∈ gs) : Fr gs a (mrow b g j f) := fun g' h' => (mrow_g b j f (fun e => h' (by rw [e]; exact hg))).trans (h g' h')
theorem Bk.fr {B : BD} {gs : List Nat} {a b : Mem} (hB : Bk B a) (h : Fr gs a b) (h1 : 1 ∉ gs) (h3 : 3 ∉ gs) (h4 : 4 ∉ gs) : Bk B b := by
  unfold Bk
  rw [h 1 h1, h 3 h3, h 4 h4]
  exact hB
theorem Lk.fr {L : LD} {gs : List Nat} {a b : Mem} (hB : Lk L a) (h : Fr gs a b) (h1 : 6 ∉ gs) (h3 : 7 ∉ gs) (h4 : 8 ∉ gs) : Lk L b := by
  unfold Lk
  rw [h 6 h1, h 7 h3, h 8 h4]
  exact hB
/-! the lowest of a set -/
theorem low_tb (s i : Nat) (hi : i < 32) : (nI s &&& (0 - nI s)).toBitVec.getLsbD i = (s.testBit i && allb (fun j => !s.testBit j) i) := by
  have hs : ∀ j, j < 32 → (nI s).toBitVec.getLsbD j = s.testBit j := fun j hj => by
    rw [nI_bv, BitVec.getLsbD_ofNat]
    simp [hj]
  rw [Int32.zero_sub, Int32.toBitVec_and, Int32.toBitVec_neg, BitVec.getLsbD_and, BitVec.getLsbD_neg, hs i hi]
  cases h : s.testBit i with
  | false => rfl
  | true =>
    have : decide (∃ j, j < i ∧ (nI s).toBitVec.getLsbD j = true) = !allb (fun j => !s.testBit j) i := by
      cases ha : allb (fun j => !s.testBit j) i with
      | true =>
        have h1 := (allb_iff _ _).mp ha
        apply decide_eq_false
        rintro ⟨j, hj, hb⟩
        rw [hs j (by omega)] at hb
        have := h1 j hj
        rw [hb] at this
        cases this
      | false =>
        apply decide_eq_true
        apply Classical.byContradiction
        intro hn
        have : allb (fun j => !s.testBit j) i = true := (allb_iff _ _).mpr (fun j hj => by
          cases hb : s.testBit j with
          | false => rfl
          | true => exact absurd ⟨j, hj, by rw [hs j (by omega)]; exact hb⟩ hn)
        rw [ha] at this
        cases this
    rw [this]
    simp [hi]
def lowQ (s q : Nat) : Bool := s.testBit q && allb (fun j => !s.testBit j) q
theorem low_iff {s q : Nat} (hq : q < 31) : nI s &&& (0 - nI s) = nI (2 ^ q) ↔ lowQ s q = true := by
  have hp : ∀ i, i < 32 → (nI (2 ^ q)).toBitVec.getLsbD i = decide (q = i) := fun i hi => by
    rw [nI_bv, BitVec.getLsbD_ofNat, tb_pow]
    simp [hi]
  constructor
  · intro h
    have h1 := low_tb s q (by omega)
    rw [h, hp q (by omega)] at h1
    unfold lowQ
    rw [← h1]
    simp
  · intro h
    apply Int32.toBitVec_inj.mp
    apply BitVec.eq_of_getLsbD_eq
    intro i hi
    rw [low_tb s i hi, hp i hi]
    unfold lowQ at h
    rw [Bool.and_eq_true] at h
    by_cases e : q = i
    · subst e; simp [h.1, h.2]
    · rcases Nat.lt_or_gt_of_ne e with z | z
      · have : allb (fun j => !s.testBit j) i = false := allb_false _ z (by rw [h.1]; rfl)
        rw [this]
        simp [e]
      · have := (allb_iff _ _).mp h.2 i z
        cases hb : s.testBit i with
        | false => simp [e]
        | true => rw [hb] at this; cases this
/-! the units of the bank -/
def isU (B : BD) (q : Nat) : Bool := lowQ (wholeB B q) q && fitB B (wholeB B q)
def unitsT (B : BD) : Nat → List Nat
  | 0 => []
  | k + 1 => if isU B k then unitsT B k ++ [wholeB B k] else unitsT B k
def unitsB (B : BD) : List Nat := unitsT B (bN B)
theorem wholeB_self (B : BD) (q : Nat) : (wholeB B q).testBit q = true := by
  unfold wholeB
  rw [Nat.testBit_or, tb_pow]
  simp
theorem isU_rest {B : BD} {q : Nat} (hq : q < bN B) (h : isU B q = true) : restB B q = false := by
  unfold isU at h
  rw [Bool.and_eq_true] at h
  have := (allb_iff _ _).mp h.2 q hq
  rw [wholeB_self] at this
  unfold fitsB at this
  simp at this
  exact this.1
theorem unitsT_len (B : BD) : ∀ k, k ≤ bN B → (unitsT B k).length ≤ cnt (fun q => !restB B q) k
  | 0, _ => Nat.le_refl 0
  | k + 1, hk => by
    have ih := unitsT_len B k (by omega)
    unfold unitsT cnt
    by_cases h : isU B k = true
    · rw [if_pos h, isU_rest (by omega) h, List.length_append]
      simp
      exact ih
    · rw [if_neg h]
      omega
theorem cnt_mono (p : Nat → Bool) {a b : Nat} (h : a ≤ b) : cnt p a ≤ cnt p b := by
  induction h with
  | refl => exact Nat.le_refl _
  | step _ ih => exact Nat.le_trans ih (by rw [cnt]; omega)
theorem unitsT_hand (B : BD) {k : Nat} (hk : k ≤ bN B) : (unitsT B k).length ≤ handB B := Nat.le_trans (unitsT_len B k hk) (cnt_mono _ hk)
theorem unitsT_lt {B : BD} (hW : WFB B) : ∀ k, k ≤ bN B → ∀ s, s ∈ unitsT B k → s < 2 ^ 24
  | 0, _, s, h => by cases h
  | k + 1, hk, s, h => by
    unfold unitsT at h
    by_cases hu : isU B k = true
    · rw [if_pos hu] at h
      rcases List.mem_append.mp h with h | h
      · exact unitsT_lt hW k (by omega) s h
      · rw [List.mem_singleton.mp h]
        exact wholeB_lt hW (by omega)
    · rw [if_neg hu] at h
      exact unitsT_lt hW k (by omega) s h
/-- the units in the world -/
def UkT (B : BD) (Us : List Nat) (mem : Mem) : Prop := mem 9 0 4 = nI Us.length ∧ ∀ u, u < Us.length → mem 10 0 u = nI (Us.getD u 0) ∧ mem 11 0 u = nI (clashB B (Us.getD u 0)) ∧ ∀ b, b < 10 → mem 13 u b = nI (sumN B (Us.getD u 0) b)
/-- what units from u on have in all -/
def sumFrom (B : BD) : List Nat → Nat → Nat
  | [], _ => 0
  | s :: t, b => sumN B s b + sumFrom B t b
def Uk (B : BD) (Us : List Nat) (mem : Mem) : Prop := UkT B Us mem ∧ ∀ u, u ≤ Us.length → ∀ b, b < 10 → mem 15 u b = nI (sumFrom B (Us.drop u) b)
theorem sumFrom_le {B : BD} (hW : WFB B) (b : Nat) : ∀ (Us : List Nat), sumFrom B Us b ≤ Us.length * 1440
  | [] => by simp [sumFrom]
  | s :: t => by
    have := sumFrom_le hW b t
    have := sumN_le hW s b
    unfold sumFrom
    rw [List.length_cons, Nat.add_mul]
    omega
theorem drop_cons {Us : List Nat} {u : Nat} (h : u < Us.length) : Us.drop u = Us.getD u 0 :: Us.drop (u + 1) := by
  rw [List.drop_eq_getElem_cons h]
  congr 1
  rw [List.getD_eq_getElem?_getD, List.getElem?_eq_getElem h]
  rfl
theorem dec1 (x : Int32) : x + Int32.ofInt (-1) = x - 1 := by rw [Int32.sub_eq_add_neg]; rfl
theorem unitsT_pre (B : BD) (q : Nat) : ∀ k, ∃ t, unitsT B (q + k) = unitsT B q ++ t
  | 0 => ⟨[], by simp⟩
  | k + 1 => by
    obtain ⟨t, ht⟩ := unitsT_pre B q k
    rw [show unitsT B (q + (k + 1)) = if isU B (q + k) then unitsT B (q + k) ++ [wholeB B (q + k)] else unitsT B (q + k) from rfl]
    by_cases h : isU B (q + k) = true
    · rw [if_pos h, ht]; exact ⟨t ++ [wholeB B (q + k)], by rw [List.append_assoc]⟩
    · rw [if_neg h, ht]; exact ⟨t, rfl⟩
section UN
variable {E : En} {d : Nat} {mem : Mem} {Q : Int32 → Mem → Prop} {B : BD}
theorem fill_ok {g j n : Nat} {v : Int32} (hg : garr g = some (false, n)) (hQ : Q 0 (mrow mem g j (fun i => if i < n then v else mem g j i))) : Call E d mJ7_fill_53178 [pR g j, pI v] mem Q := by
  refine Call.of [some (pR g j), some (pI v), none, none] mk_J7_fill_53178 rfl (Nat.le_of_ble_eq_true rfl) (fun _ => ?_)
  have hn := garr_sz hg
  refine r_iconst (q := 1) 0 (by decide) dJ7_fill_53178_0 rfl ?_
  refine r_istore_2 (q := 2) (by decide) dJ7_fill_53178_1 rfl ?_
  refine r_aload_0 (q := 3) dJ7_fill_53178_2 rfl ?_
  refine r_alen (q := 4) hg dJ7_fill_53178_3 rfl ?_
  refine r_istore_3 (q := 5) (by decide) dJ7_fill_53178_4 rfl ?_
  suffices H : ∀ k i, n - i < k → i ≤ n → Wp E (xm E d mJ7_fill_53178 Q) mJ7_fill_53178 5 [some (pR g j), some (pI v), some (pI (nI i)), some (pI (nI n))] [] (mrow mem g j (fun i' => if i' < i then v else mem g j i')) from by
    have := H (n + 1) 0 (by omega) (by omega)
    rw [show (fun i' => if i' < 0 then v else mem g j i') = mem g j from funext fun i' => if_neg (by omega), mrow_id] at this
    exact this
  intro k
  induction k with
  | zero => intro q h; omega
  | succ k ih =>
    intro i h1 h2
    refine r_iload_2 (q := 6) dJ7_fill_53178_5 rfl ?_
    refine r_iload_3 (q := 7) dJ7_fill_53178_6 rfl ?_
    refine r_icmp_ge (q := 10) 20 dJ7_fill_53178_7 (by decide) rfl (fun h7 => ?_) (fun h7 => ?_)
    · have hb := nI_ge_of (by omega) (by omega) h7
      have hb : i = n := by omega
      subst hb
      refine r_vret rfl dJ7_fill_53178_20 (?_)
      exact hQ
    · have hi : i < n := nI_lt_of (by omega) h7
      refine r_aload_0 (q := 11) dJ7_fill_53178_10 rfl ?_
      refine r_iload_2 (q := 12) dJ7_fill_53178_11 rfl ?_
      refine r_iload_1 (q := 13) dJ7_fill_53178_12 rfl ?_
      refine r_iast (q := 14) _ rfl hg hi dJ7_fill_53178_13 rfl ?_
      rw [mset_mrow, show upd (fun i' => if i' < i then v else mem g j i') i v = fun i' => if i' < i + 1 then v else mem g j i' from funext fun i' => by
        unfold upd
        by_cases e : i' = i
        · subst e; simp
        · rw [if_neg e]
          by_cases e2 : i' < i
          · rw [if_pos (show i' < i + 1 by omega)]; exact if_pos e2
          · rw [if_neg (show ¬ i' < i + 1 by omega)]; exact if_neg e2]
      refine r_iinc_2 (q := 17) _ (nI_inc _) (by decide) dJ7_fill_53178_14 rfl ?_
      refine r_goto 5 dJ7_fill_53178_17 (by decide) ?_
      exact ih (i + 1) (by omega) (by omega)
theorem sumUpFromEachOn_ok {Us : List Nat} (hW : WFB B) (hU : UkT B Us mem) (hl : Us.length ≤ 16) (hQ : ∀ mem', Fr [15] mem mem' → Uk B Us mem' → Q 0 mem') : Call E (d + 1) mX5_sumUpFromEachOn [pR 9 0] mem Q := by
  refine Call.of [some (pR 9 0), none, none] mk_X5_sumUpFromEachOn rfl (Nat.le_of_ble_eq_true rfl) (fun _ => ?_)
  refine r_aload_0 (q := 1) dX5_sumUpFromEachOn_0 rfl ?_
  refine r_getR (k := 3) (q := 4) f_RX5_23_4 rfl rfl dX5_sumUpFromEachOn_1 rfl ?_
  refine r_aload_0 (q := 5) dX5_sumUpFromEachOn_4 rfl ?_
  refine r_getI (k := 4) (q := 8) f_RX5_26_4 rfl rfl dX5_sumUpFromEachOn_5 rfl ?_
  rw [hU.1]
  refine r_aald (q := 9) _ rfl rfl (by first | omega | assumption | decide) dX5_sumUpFromEachOn_8 rfl ?_
  refine r_iconst (q := 10) 0 (by decide) dX5_sumUpFromEachOn_9 rfl ?_
  refine r_callS2v (M' := mJ7_fill_53178) (q := 13) mk_J7_fill_53178 ms_J7_fill_53178 k_448 rfl (Nat.le_of_ble_eq_true rfl) rm_xm dX5_sumUpFromEachOn_10 rfl (fill_ok rfl ?_)
  generalize hm1 : mrow mem 15 Us.length (fun i => if i < 10 then 0 else mem 15 Us.length i) = mem1
  have hF1 : Fr [15] mem mem1 := by rw [← hm1]; exact Fr.rf.mrow (by simp)
  have hR1 : ∀ b, b < 10 → mem1 15 Us.length b = nI (sumFrom B (Us.drop Us.length) b) := by
    intro b hb
    rw [← hm1, mrow_at, if_pos hb, List.drop_length]
    rfl
  clear hm1
  have hU1 : ∀ m, Fr [15] mem m → UkT B Us m := by
    intro m hF
    unfold UkT
    rw [hF 9 (by decide), hF 10 (by decide), hF 11 (by decide), hF 13 (by decide)]
    exact hU
  refine r_aload_0 (q := 14) dX5_sumUpFromEachOn_13 rfl ?_
  refine r_getI (k := 4) (q := 17) f_RX5_26_4 rfl rfl dX5_sumUpFromEachOn_14 rfl ?_
  rw [(hU1 _ hF1).1]
  refine r_iconst (q := 18) 1 (by decide) dX5_sumUpFromEachOn_17 rfl ?_
  refine r_isub (q := 19) dX5_sumUpFromEachOn_18 rfl ?_
  refine r_istore_1 (q := 20) (by decide) dX5_sumUpFromEachOn_19 rfl ?_
  suffices H : ∀ (k : Nat) (m : Mem), k ≤ Us.length → Fr [15] mem m → (∀ u, k ≤ u → u ≤ Us.length → ∀ b, b < 10 → m 15 u b = nI (sumFrom B (Us.drop u) b)) → Wp E (xm E (d + 1) mX5_sumUpFromEachOn Q) mX5_sumUpFromEachOn 20 [some (pR 9 0), some (pI (nI k - 1)), none] [] m from H Us.length mem1 (Nat.le_refl _) hF1 (fun u h1 h2 => by
    have : u = Us.length := by omega
    subst this
    exact hR1)
  intro k
  induction k with
  | zero =>
    intro m hk hF hR
    refine r_iload_1 (q := 21) dX5_sumUpFromEachOn_20 rfl ?_
    refine r_if_lt (q := 24) 71 dX5_sumUpFromEachOn_21 (by decide) rfl (fun h21 => ?_) (fun h21 => ?_)
    · refine r_vret rfl dX5_sumUpFromEachOn_71 (?_)
      exact hQ m hF ⟨hU1 m hF, fun u hu => hR u (Nat.zero_le u) hu⟩
    · exact absurd (by decide) h21
  | succ k ih =>
    intro m hk hF hR
    rw [nI_pred]
    refine r_iload_1 (q := 21) dX5_sumUpFromEachOn_20 rfl ?_
    refine r_if_lt (q := 24) 71 dX5_sumUpFromEachOn_21 (by decide) rfl (fun h21 => ?_) (fun h21 => ?_)
    · exact absurd h21 (nI_pos (by omega))
    · refine r_iconst (q := 25) 0 (by decide) dX5_sumUpFromEachOn_24 rfl ?_
      refine r_istore_2 (q := 26) (by decide) dX5_sumUpFromEachOn_25 rfl ?_
      suffices H2 : ∀ (j b : Nat) (m : Mem), 10 - b < j → b ≤ 10 → Fr [15] mem m → (∀ u, k + 1 ≤ u → u ≤ Us.length → ∀ b, b < 10 → m 15 u b = nI (sumFrom B (Us.drop u) b)) → (∀ b', b' < b → m 15 k b' = nI (sumFrom B (Us.drop k) b')) → Wp E (xm E (d + 1) mX5_sumUpFromEachOn Q) mX5_sumUpFromEachOn 26 [some (pR 9 0), some (pI (nI k)), some (pI (nI b))] [] m from H2 11 0 m (by omega) (by omega) hF hR (fun b' h => by omega)
      intro j
      induction j with
      | zero => intro b m h; omega
      | succ j ih2 =>
        intro b m h1 h2 hF hR hR2
        refine r_iload_2 (q := 27) dX5_sumUpFromEachOn_26 rfl ?_
        refine r_bipush (q := 29) 10 (by decide) dX5_sumUpFromEachOn_27 rfl ?_
        refine r_icmp_ge (q := 32) 65 dX5_sumUpFromEachOn_29 (by decide) rfl (fun h29 => ?_) (fun h29 => ?_)
        · have hb := nI_ge_of (a := 10) (by decide) (by omega) h29
          have hb : b = 10 := by omega
          subst hb
          refine r_iinc_1 (q := 68) (nI k - 1) (dec1 _) (by decide) dX5_sumUpFromEachOn_65 rfl ?_
          refine r_goto 20 dX5_sumUpFromEachOn_68 (by decide) ?_
          refine (ih m (by omega) hF (fun u h3 h4 => ?_)).sub (by simp [lsub])
          rcases Nat.lt_or_ge k u with z | z
          · exact hR u z h4
          · have : u = k := by omega
            subst this
            exact hR2
        · have hb : b < 10 := nI_lt_of (a := 10) (by omega) h29
          refine r_aload_0 (q := 33) dX5_sumUpFromEachOn_32 rfl ?_
          refine r_getR (k := 3) (q := 36) f_RX5_23_4 rfl rfl dX5_sumUpFromEachOn_33 rfl ?_
          refine r_iload_1 (q := 37) dX5_sumUpFromEachOn_36 rfl ?_
          refine r_aald (q := 38) _ rfl rfl (by first | omega | assumption | decide) dX5_sumUpFromEachOn_37 rfl ?_
          refine r_iload_2 (q := 39) dX5_sumUpFromEachOn_38 rfl ?_
          refine r_aload_0 (q := 40) dX5_sumUpFromEachOn_39 rfl ?_
          refine r_getR (k := 2) (q := 43) f_RX5_20_4 rfl rfl dX5_sumUpFromEachOn_40 rfl ?_
          refine r_iload_1 (q := 44) dX5_sumUpFromEachOn_43 rfl ?_
          refine r_aald (q := 45) _ rfl rfl (by first | omega | assumption | decide) dX5_sumUpFromEachOn_44 rfl ?_
          refine r_iload_2 (q := 46) dX5_sumUpFromEachOn_45 rfl ?_
          refine r_iald (q := 47) _ rfl rfl (by first | omega | assumption | decide) dX5_sumUpFromEachOn_46 rfl ?_
          refine r_aload_0 (q := 48) dX5_sumUpFromEachOn_47 rfl ?_
          refine r_getR (k := 3) (q := 51) f_RX5_23_4 rfl rfl dX5_sumUpFromEachOn_48 rfl ?_
          refine r_iload_1 (q := 52) dX5_sumUpFromEachOn_51 rfl ?_
          refine r_iconst (q := 53) 1 (by decide) dX5_sumUpFromEachOn_52 rfl ?_
          refine r_iadd (q := 54) dX5_sumUpFromEachOn_53 rfl ?_
          refine r_aald (q := 55) (k + 1) (nI_1 k) rfl (by first | omega | assumption | decide) dX5_sumUpFromEachOn_54 rfl ?_
          refine r_iload_2 (q := 56) dX5_sumUpFromEachOn_55 rfl ?_
          refine r_iald (q := 57) _ rfl rfl (by first | omega | assumption | decide) dX5_sumUpFromEachOn_56 rfl ?_
          rw [((hU1 m hF).2 k (by omega)).2.2 b hb, hR (k + 1) (Nat.le_refl _) (by omega) b hb]
          refine r_iadd (q := 58) dX5_sumUpFromEachOn_57 rfl ?_
          rw [nI_add, show sumN B (Us.getD k 0) b + sumFrom B (Us.drop (k + 1)) b = sumFrom B (Us.drop k) b by rw [drop_cons (show k < Us.length by omega)]; rfl]
          refine r_iast (q := 59) _ rfl rfl (by first | omega | assumption | decide) dX5_sumUpFromEachOn_58 rfl ?_
          refine r_iinc_2 (q := 62) _ (nI_inc _) (by decide) dX5_sumUpFromEachOn_59 rfl ?_
          refine r_goto 26 dX5_sumUpFromEachOn_62 (by decide) ?_
          refine ih2 (b + 1) _ (by omega) (by omega) (hF.mset (by simp)) (fun u h3 h4 b' hb' => ?_) (fun b' hb' => ?_)
          · rw [show mset m 15 k b (nI (sumFrom B (Us.drop k) b)) 15 u = m 15 u from mset_ne m _ _ (by omega)]
            exact hR u h3 h4 b' hb'
          · rw [mset_self]
            unfold upd
            by_cases e : b' = b
            · subst e; rw [if_pos rfl]
            · rw [if_neg e]; exact hR2 b' (by omega)
theorem splitBank_ok (hB : Bk B mem) (hW : WFB B) (hh : handB B ≤ 16) (hQ : ∀ mem', Fr [9, 10, 11, 13, 15] mem mem' → Uk B (unitsB B) mem' → Q 0 mem') : Call E (d + 3) mX5_splitBank [pR 9 0, pR 1 0] mem Q := by
  refine Call.of [some (pR 9 0), some (pR 1 0), none, none] mk_X5_splitBank rfl (Nat.le_of_ble_eq_true rfl) (fun _ => ?_)
  have h24 := hW.1
  refine r_aload_0 (q := 1) dX5_splitBank_0 rfl ?_
  refine r_iconst (q := 2) 0 (by decide) dX5_splitBank_1 rfl ?_
  refine r_put (k := 4) (q := 5) f_RX5_26_4 pf_4_4 rfl rfl dX5_splitBank_2 rfl ?_
  refine r_iconst (q := 6) 0 (by decide) dX5_splitBank_5 rfl ?_
  refine r_istore_2 (q := 7) (by decide) dX5_splitBank_6 rfl ?_
  suffices H : ∀ (k q : Nat) (m : Mem), bN B - q < k → q ≤ bN B → Fr [9, 10, 11, 13] mem m → UkT B (unitsT B q) m → Wp E (xm E (d + 3) mX5_splitBank Q) mX5_splitBank 7 [some (pR 9 0), some (pR 1 0), some (pI (nI q)), none] [] m from H (bN B + 1) 0 _ (by omega) (by omega) (Fr.rf.mset (by simp)) ⟨mset_at _ _ _ _ _, fun u hu => absurd hu (Nat.not_lt_zero u)⟩
  intro k
  induction k with
  | zero => intro q m h; omega
  | succ k ih =>
    intro q m h1 h2 hF hU
    have hBm : Bk B m := hB.fr hF (by decide) (by decide) (by decide)
    have hlen := unitsT_hand B h2
    have fin : unitsT B q = unitsB B → Wp E (xm E (d + 3) mX5_splitBank Q) mX5_splitBank 102 [some (pR 9 0), some (pR 1 0), some (pI (nI q)), none] [] m := by
      intro e
      rw [e] at hU hlen
      refine r_aload_0 (q := 103) dX5_splitBank_102 rfl ?_
      refine r_callV0v (M' := mX5_sumUpFromEachOn) (q := 106) mk_X5_sumUpFromEachOn mi_X5_sumUpFromEachOn k_444 rfl rfl rfl rfl (Nat.le_of_ble_eq_true rfl) rm_xm dX5_splitBank_103 rfl (sumUpFromEachOn_ok hW hU (by omega) (fun mem' hF' hU' => ?_))
      refine r_vret rfl dX5_splitBank_106 (?_)
      exact hQ mem' ((hF.mono (by simp)).tr (hF'.mono (by simp))) hU'
    refine r_iload_2 (q := 8) dX5_splitBank_7 rfl ?_
    refine r_aload_1 (q := 9) dX5_splitBank_8 rfl ?_
    refine r_getI (k := 2) (q := 12) f_RX5_30_0 rfl rfl dX5_splitBank_9 rfl ?_
    rw [hBm.1]
    refine r_icmp_ge (q := 15) 102 dX5_splitBank_12 (by decide) rfl (fun h12 => ?_) (fun h12 => ?_)
    · have hb := nI_ge_of (by omega) (by omega) h12
      have : q = bN B := by omega
      exact fin (by rw [this]; rfl)
    · have hq : q < bN B := nI_lt_of (by omega) h12
      have hlq : (unitsT B q).length ≤ 16 := by omega
      refine r_aload_0 (q := 16) dX5_splitBank_15 rfl ?_
      refine r_getI (k := 4) (q := 19) f_RX5_26_4 rfl rfl dX5_splitBank_16 rfl ?_
      refine r_bipush (q := 21) 16 (by decide) dX5_splitBank_19 rfl ?_
      rw [hU.1]
      refine r_icmp_ge (q := 24) 102 dX5_splitBank_21 (by decide) rfl (fun h21 => ?_) (fun h21 => ?_)
      · have hl16 := nI_ge_of (a := 16) (by decide) (by omega) h21
        refine fin ?_
        obtain ⟨t, ht⟩ := unitsT_pre B q (bN B - q)
        rw [show q + (bN B - q) = bN B by omega] at ht
        have hl := unitsT_hand B (Nat.le_refl (bN B))
        rw [ht, List.length_append] at hl
        have : t = [] := List.length_eq_zero_iff.mp (by omega)
        rw [this, List.append_nil] at ht
        exact ht.symm
      · have hl16 : (unitsT B q).length < 16 := nI_lt_of (a := 16) (by omega) h21
        have hw24 := wholeB_lt hW hq
        have J : isU B q = false → Wp E (xm E (d + 3) mX5_splitBank Q) mX5_splitBank 96 [some (pR 9 0), some (pR 1 0), some (pI (nI q)), some (pI (nI (wholeB B q)))] [] m := by
          intro hu
          refine r_iinc_2 (q := 99) _ (nI_inc _) (by decide) dX5_splitBank_96 rfl ?_
          refine r_goto 7 dX5_splitBank_99 (by decide) ?_
          refine (ih (q + 1) m (by omega) (by omega) hF ?_).sub (by simp [lsub])
          rw [unitsT, hu]
          exact hU
        refine r_aload_1 (q := 25) dX5_splitBank_24 rfl ?_
        refine r_iload_2 (q := 26) dX5_splitBank_25 rfl ?_
        refine r_callV1i (M' := mX0_wholeOf) (q := 29) mk_X0_wholeOf mi_X0_wholeOf k_434 rfl rfl rfl rfl (Nat.le_of_ble_eq_true rfl) rm_xm dX5_splitBank_26 rfl (wholeOf_ok hBm hW hq ?_)
        refine r_istore_3 (q := 30) (by decide) dX5_splitBank_29 rfl ?_
        refine r_iload_3 (q := 31) dX5_splitBank_30 rfl ?_
        refine r_callN1i (M' := mX8_lowestOf) (q := 34) mk_X8_lowestOf ms_X8_lowestOf (by decide +kernel) rfl (Nat.le_of_ble_eq_true rfl) rm_xm dX5_splitBank_31 rfl (lowestOf_ok ?_)
        refine r_iconst (q := 35) 1 (by decide) dX5_splitBank_34 rfl ?_
        refine r_iload_2 (q := 36) dX5_splitBank_35 rfl ?_
        refine r_ishl (q := 37) dX5_splitBank_36 rfl ?_
        rw [nb_shl1 q (by omega)]
        refine r_icmp_ne (q := 40) 96 dX5_splitBank_37 (by decide) rfl (fun h37 => ?_) (fun h37 => ?_)
        · refine J ?_
          cases hl : lowQ (wholeB B q) q with
          | true => exact absurd ((low_iff (by omega)).mpr hl) h37
          | false => unfold isU; rw [hl]; rfl
        · have hlow := (low_iff (by omega)).mp h37
          refine r_aload_1 (q := 41) dX5_splitBank_40 rfl ?_
          refine r_iload_3 (q := 42) dX5_splitBank_41 rfl ?_
          refine r_callV1i (M' := mX0_isFit) (q := 45) mk_X0_isFit mi_X0_isFit k_438 rfl rfl rfl rfl (Nat.le_of_ble_eq_true rfl) rm_xm dX5_splitBank_42 rfl (isFit_ok hBm hW hw24 ?_)
          refine r_if_eq (q := 48) 96 dX5_splitBank_45 (by decide) rfl (fun h45 => ?_) (fun h45 => ?_)
          · refine J ?_
            unfold isU
            rw [b2_eq0.mp h45, Bool.and_false]
          · have hu : isU B q = true := by unfold isU; rw [hlow, b2_ne0.mp h45]; rfl
            refine r_aload_0 (q := 49) dX5_splitBank_48 rfl ?_
            refine r_getR (k := 0) (q := 52) f_RX5_9_4 rfl rfl dX5_splitBank_49 rfl ?_
            refine r_aload_0 (q := 53) dX5_splitBank_52 rfl ?_
            refine r_getI (k := 4) (q := 56) f_RX5_26_4 rfl rfl dX5_splitBank_53 rfl ?_
            rw [hU.1]
            refine r_iload_3 (q := 57) dX5_splitBank_56 rfl ?_
            refine r_iast (q := 58) _ rfl rfl (by first | omega | assumption | decide) dX5_splitBank_57 rfl ?_
            refine r_aload_0 (q := 59) dX5_splitBank_58 rfl ?_
            refine r_getR (k := 1) (q := 62) f_RX5_15_4 rfl rfl dX5_splitBank_59 rfl ?_
            refine r_aload_0 (q := 63) dX5_splitBank_62 rfl ?_
            refine r_getI (k := 4) (q := 66) f_RX5_26_4 rfl rfl dX5_splitBank_63 rfl ?_
            rw [show mset m 10 0 (unitsT B q).length (nI (wholeB B q)) 9 0 4 = nI (unitsT B q).length from hU.1]
            have hF1 : Fr [9, 10, 11, 13] mem (mset m 10 0 (unitsT B q).length (nI (wholeB B q))) := hF.mset (by simp)
            refine r_aload_1 (q := 67) dX5_splitBank_66 rfl ?_
            refine r_iload_3 (q := 68) dX5_splitBank_67 rfl ?_
            refine r_callV1i (M' := mX0_clashesWith) (q := 71) mk_X0_clashesWith mi_X0_clashesWith k_439 rfl rfl rfl rfl (Nat.le_of_ble_eq_true rfl) rm_xm dX5_splitBank_68 rfl (clashesWith_ok (hB.fr hF1 (by decide) (by decide) (by decide)) hW hw24 ?_)
            refine r_iast (q := 72) _ rfl rfl (by first | omega | assumption | decide) dX5_splitBank_71 rfl ?_
            refine r_aload_1 (q := 73) dX5_splitBank_72 rfl ?_
            refine r_iload_3 (q := 74) dX5_splitBank_73 rfl ?_
            refine r_aload_0 (q := 75) dX5_splitBank_74 rfl ?_
            refine r_getR (k := 2) (q := 78) f_RX5_20_4 rfl rfl dX5_splitBank_75 rfl ?_
            refine r_aload_0 (q := 79) dX5_splitBank_78 rfl ?_
            refine r_getI (k := 4) (q := 82) f_RX5_26_4 rfl rfl dX5_splitBank_79 rfl ?_
            generalize hm2 : mset (mset m 10 0 (unitsT B q).length (nI (wholeB B q))) 11 0 (unitsT B q).length (nI (clashB B (wholeB B q))) = m2
            have hF2 : Fr [9, 10, 11, 13] mem m2 := by rw [← hm2]; exact hF1.mset (by simp)
            have e9 : m2 9 = m 9 := by rw [← hm2, mset_g _ _ _ _ (by decide), mset_g _ _ _ _ (by decide)]
            have e13 : m2 13 = m 13 := by rw [← hm2, mset_g _ _ _ _ (by decide), mset_g _ _ _ _ (by decide)]
            have e10 : m2 10 0 = upd (m 10 0) (unitsT B q).length (nI (wholeB B q)) := by rw [← hm2, mset_g _ _ _ _ (by decide), mset_self]
            have e11 : m2 11 0 = upd (m 11 0) (unitsT B q).length (nI (clashB B (wholeB B q))) := by rw [← hm2, mset_self, mset_g _ _ _ _ (by decide)]
            rw [e9, hU.1]
            refine r_aald (q := 83) _ rfl rfl (by first | omega | assumption | decide) dX5_splitBank_82 rfl ?_
            refine r_callV2v (M' := mX0_sumUp) (q := 86) mk_X0_sumUp mi_X0_sumUp k_443 rfl rfl rfl rfl (Nat.le_of_ble_eq_true rfl) rm_xm dX5_splitBank_83 rfl (sumUp_ok (hB.fr hF2 (by decide) (by decide) (by decide)) hW hw24 rfl ?_)
            refine r_aload_0 (q := 87) dX5_splitBank_86 rfl ?_
            refine r_dup (q := 88) dX5_splitBank_87 rfl ?_
            refine r_getI (k := 4) (q := 91) f_RX5_26_4 rfl rfl dX5_splitBank_88 rfl ?_
            rw [mrow_g _ _ _ (by decide), e9, hU.1]
            refine r_iconst (q := 92) 1 (by decide) dX5_splitBank_91 rfl ?_
            refine r_iadd (q := 93) dX5_splitBank_92 rfl ?_
            rw [nI_1]
            refine r_put (k := 4) (q := 96) f_RX5_26_4 pf_4_4 rfl rfl dX5_splitBank_93 rfl ?_
            refine r_iinc_2 (q := 99) _ (nI_inc _) (by decide) dX5_splitBank_96 rfl ?_
            refine r_goto 7 dX5_splitBank_99 (by decide) ?_
            refine (ih (q + 1) _ (by omega) (by omega) ((hF2.mrow (by simp)).mset (by simp)) ?_).sub (by simp [lsub])
            rw [unitsT, if_pos hu]
            refine ⟨by rw [mset_at, List.length_append]; rfl, fun u hul => ?_⟩
            rw [List.length_append, List.length_singleton] at hul
            rw [mset_g _ _ _ _ (by decide), mset_g _ _ _ _ (by decide), mset_g _ _ _ _ (by decide), mrow_g _ _ _ (by decide), mrow_g _ _ _ (by decide), e10, e11]
            by_cases hul2 : u < (unitsT B q).length
            · have hg : (unitsT B q ++ [wholeB B q]).getD u 0 = (unitsT B q).getD u 0 := by
                rw [List.getD_eq_getElem?_getD, List.getD_eq_getElem?_getD, List.getElem?_append_left hul2]
              rw [hg]
              have hh := hU.2 u hul2
              refine ⟨?_, ?_, ?_⟩
              · unfold upd; rw [if_neg (by omega)]; exact hh.1
              · unfold upd; rw [if_neg (by omega)]; exact hh.2.1
              · intro b hb
                rw [mrow_ne _ _ (by omega), e13]
                exact hh.2.2 b hb
            · have hue : u = (unitsT B q).length := by omega
              subst hue
              have hg : (unitsT B q ++ [wholeB B q]).getD (unitsT B q).length 0 = wholeB B q := by
                rw [List.getD_eq_getElem?_getD, List.getElem?_append_right (Nat.le_refl _), Nat.sub_self]
                rfl
              rw [hg]
              refine ⟨by unfold upd; rw [if_pos rfl], by unfold upd; rw [if_pos rfl], fun b hb => ?_⟩
              rw [mrow_at]
              unfold sumRow
              rw [if_pos hb]
end UN
