/-! BOTH SIDES: order -/
theorem cheapT_first {jc T : Nat → Nat → Nat} {u : Option Nat} {r : Nat} : ∀ k, (cheapT jc T u r k).2 < 1000000 → ∀ i, i < (cheapT jc T u r k).1 → r.testBit i = true → (cheapT jc T u r k).2 < costB jc T u r i
  | 0, h => absurd h (Nat.lt_irrefl _)
  | k + 1, h => by
    have e : cheapT jc T u r (k + 1) = if candB jc T u r k < (cheapT jc T u r k).2 then (k, candB jc T u r k) else cheapT jc T u r k := rfl
    rw [e] at h ⊢
    intro i
    by_cases hc : candB jc T u r k < (cheapT jc T u r k).2
    · rw [if_pos hc] at h ⊢
      intro hi hb
      have := cheapT_le (jc := jc) (T := T) (u := u) (r := r) k i hi hb
      show candB jc T u r k < _
      omega
    · rw [if_neg hc] at h ⊢
      exact cheapT_first k h i
theorem cheapB_first {jc T : Nat → Nat → Nat} {u : Option Nat} {r m : Nat} (hj : ∀ a b, jc a b ≤ 33) (hT : ∀ r u, T r u ≤ 33 * r) (hm : m ≤ 8) (hr : r < 2 ^ m) (h0 : r ≠ 0) : ∀ i, i < cheapB jc T m u r → r.testBit i = true → costB jc T u r (cheapB jc T m u r) < costB jc T u r i := by
  intro i hi hb
  have hin := cheapB_in (u := u) hj hT hm hr h0
  have hc := (cost_lt (u := u) hj hT hm hr hin.1).2
  have him : cheapB jc T m u r < m := hin.2.1
  have hle := cheapT_le (jc := jc) (T := T) (u := u) (r := r) m _ him hin.1
  have hlt : (cheapT jc T u r m).2 < 1000000 := by omega
  have h3 := cheapT_mem (jc := jc) (T := T) (u := u) (r := r) m hlt
  have := cheapT_first (jc := jc) (T := T) (u := u) (r := r) m hlt i hi hb
  show costB jc T u r (cheapT jc T u r m).1 < _
  rw [← h3.2.2]
  exact this
def jcost (jc : Nat → Nat → Nat) : Option Nat → List Nat → Nat
  | _, [] => 0
  | u, v :: t => (match u with
    | none => 0
    | some u => jc u v) + jcost jc (some v) t
theorem jcost_cost (jc T : Nat → Nat → Nat) (u : Option Nat) (v rest : Nat) (t : List Nat) : jcost jc u (v :: t) + T (andn rest (2 ^ v)) v = costB jc T u rest v + jcost jc (some v) t := by
  cases u with
  | none => show 0 + jcost jc (some v) t + T (andn rest (2 ^ v)) v = 0 + T (andn rest (2 ^ v)) v + jcost jc (some v) t; omega
  | some u => show jc u v + jcost jc (some v) t + T (andn rest (2 ^ v)) v = jc u v + T (andn rest (2 ^ v)) v + jcost jc (some v) t; omega
def Enm (l : List Nat) (rest : Nat) : Prop := l.Nodup ∧ ∀ v, v ∈ l ↔ rest.testBit v = true
def lexLs : List Nat → List Nat → Prop
  | a :: t, b :: t' => a < b ∨ (a = b ∧ lexLs t t')
  | _, _ => False
def Tval (jc T : Nat → Nat → Nat) (m : Nat) (u : Option Nat) (rest : Nat) : Nat := match u with
  | some v => T rest v
  | none => if rest = 0 then 0 else costB jc T none rest (cheapB jc T m none rest)
theorem enm_nil {rest : Nat} (h : Enm [] rest) : rest = 0 := tb_ext (fun i => by
  rw [Nat.zero_testBit]
  cases hb : rest.testBit i with
  | false => rfl
  | true => have := (h.2 i).mpr hb; cases this)
theorem enm_cons {v : Nat} {t : List Nat} {rest : Nat} (h : Enm (v :: t) rest) : rest.testBit v = true ∧ Enm t (andn rest (2 ^ v)) := by
  have hn := List.nodup_cons.mp h.1
  refine ⟨(h.2 v).mp List.mem_cons_self, hn.2, fun x => ?_⟩
  rw [andn_tb, tb_pow, Bool.and_eq_true, Bool.not_eq_true', decide_eq_false_iff_not]
  constructor
  · intro hx
    exact ⟨(h.2 x).mp (List.mem_cons_of_mem _ hx), fun e => hn.1 (by rw [e]; exact hx)⟩
  · rintro ⟨h1, h2⟩
    rcases List.mem_cons.mp ((h.2 x).mpr h1) with e | e
    · exact absurd e.symm h2
    · exact e
theorem enm_erase {l : List Nat} {w rest : Nat} (h : Enm l rest) (hw : rest.testBit w = true) : Enm (l.erase w) (andn rest (2 ^ w)) ∧ (l.erase w).length = l.length - 1 := by
  refine ⟨⟨h.1.erase w, fun x => ?_⟩, List.length_erase_of_mem ((h.2 w).mpr hw)⟩
  rw [h.1.mem_erase_iff, h.2 x, andn_tb, tb_pow, Bool.and_eq_true, Bool.not_eq_true', decide_eq_false_iff_not]
  constructor
  · rintro ⟨a, b⟩; exact ⟨b, fun e => a e.symm⟩
  · rintro ⟨a, b⟩; exact ⟨fun e => b e.symm, a⟩
section PK
variable {jc T : Nat → Nat → Nat} {m : Nat} (hj : ∀ a b, jc a b ≤ 33) (hT : TabOK jc T m) (hm : m ≤ 8)
theorem tval_cost {u : Option Nat} {rest : Nat} (hT : TabOK jc T m) (hr : rest < 2 ^ m) (h0 : rest ≠ 0) (hu : ∀ v, u = some v → v < m ∧ rest.testBit v = false) : Tval jc T m u rest = costB jc T u rest (cheapB jc T m u rest) := by
  cases u with
  | none => show (if rest = 0 then 0 else _) = _; rw [if_neg h0]
  | some v =>
    have := hu v rfl
    exact hT.2.2 rest (by omega) hr v this.1 this.2
theorem andn_self_tb (r v : Nat) : (andn r (2 ^ v)).testBit v = false := by
  rw [andn_tb, tb_pow]
  simp
theorem lowerB (hj : ∀ a b, jc a b ≤ 33) (hT : TabOK jc T m) (hm : m ≤ 8) : ∀ (l : List Nat) (u : Option Nat) (rest : Nat), Enm l rest → rest < 2 ^ m → (∀ v, u = some v → v < m ∧ rest.testBit v = false) → Tval jc T m u rest ≤ jcost jc u l
  | [], u, rest, he, hr, hu => by
    have h0 := enm_nil he
    subst h0
    cases u with
    | none => exact Nat.zero_le _
    | some v => show T 0 v ≤ 0; rw [hT.1 v]; exact Nat.le_refl _
  | v :: t, u, rest, he, hr, hu => by
    obtain ⟨hv, het⟩ := enm_cons he
    have h0 : rest ≠ 0 := fun z => by rw [z, Nat.zero_testBit] at hv; cases hv
    have hvm : v < m := by
      rcases Nat.lt_or_ge v m with z | z
      · exact z
      · rw [tb_hi hr z] at hv; cases hv
    have hin := cheapB_in (u := u) hj hT.2.1 hm hr h0
    have h1 := hin.2.2 v hvm hv
    have h2 := lowerB hj hT hm t (some v) (andn rest (2 ^ v)) het (andn_lt hr) (fun v' e => by cases e; exact ⟨hvm, andn_self_tb rest v⟩)
    rw [tval_cost hT hr h0 hu]
    refine Nat.le_trans h1 ?_
    have h2 : T (andn rest (2 ^ v)) v ≤ jcost jc (some v) t := h2
    have h3 := jcost_cost jc T u v rest t
    omega
theorem pickB (hj : ∀ a b, jc a b ≤ 33) (hT : TabOK jc T m) (hm : m ≤ 8) (k : Nat) : ∀ (l : List Nat) (u : Option Nat) (rest : Nat), l.length = k → Enm l rest → rest < 2 ^ m → (∀ v, u = some v → v < m ∧ rest.testBit v = false) → jcost jc u (pickP jc T m k u rest) = Tval jc T m u rest ∧ (jcost jc u (pickP jc T m k u rest) < jcost jc u l ∨ (jcost jc u (pickP jc T m k u rest) = jcost jc u l ∧ (pickP jc T m k u rest = l ∨ lexLs (pickP jc T m k u rest) l))) := by
  induction k with
  | zero =>
    intro l u rest hl he hr hu
    have : l = [] := List.length_eq_zero_iff.mp hl
    subst this
    have h0 := enm_nil he
    subst h0
    refine ⟨?_, Or.inr ⟨rfl, Or.inl rfl⟩⟩
    cases u with
    | none => rfl
    | some v => exact (hT.1 v).symm
  | succ k ih =>
    intro l u rest hl he hr hu
    cases l with
    | nil => cases hl
    | cons v t =>
      obtain ⟨hv, het⟩ := enm_cons he
      have h0 : rest ≠ 0 := fun z => by rw [z, Nat.zero_testBit] at hv; cases hv
      have hvm : v < m := by
        rcases Nat.lt_or_ge v m with z | z
        · exact z
        · rw [tb_hi hr z] at hv; cases hv
      have hin := cheapB_in (u := u) hj hT.2.1 hm hr h0
      have hfirst := cheapB_first (u := u) hj hT.2.1 hm hr h0
      have htv := tval_cost hT hr h0 hu
      have ep : pickP jc T m (k + 1) u rest = cheapB jc T m u rest :: pickP jc T m k (some (cheapB jc T m u rest)) (andn rest (2 ^ cheapB jc T m u rest)) := rfl
      rw [ep]
      generalize cheapB jc T m u rest = w at *
      have hus : ∀ x, some w = some x → x < m ∧ (andn rest (2 ^ w)).testBit x = false := fun x e => by cases e; exact ⟨hin.2.1, andn_self_tb rest w⟩
      have hee := enm_erase he hin.1
      have hlt : t.length = k := by rw [List.length_cons] at hl; omega
      have ih1 := ih ((v :: t).erase w) (some w) (andn rest (2 ^ w)) (by rw [hee.2, List.length_cons]; omega) hee.1 (andn_lt hr) hus
      have ecost : jcost jc u (w :: pickP jc T m k (some w) (andn rest (2 ^ w))) = costB jc T u rest w := by
        have e1 : jcost jc (some w) (pickP jc T m k (some w) (andn rest (2 ^ w))) = T (andn rest (2 ^ w)) w := ih1.1
        have h3 := jcost_cost jc T u w rest (pickP jc T m k (some w) (andn rest (2 ^ w)))
        omega
      refine ⟨by rw [ecost, htv], ?_⟩
      have hlow := lowerB hj hT hm t (some v) (andn rest (2 ^ v)) het (andn_lt hr) (fun v' e => by cases e; exact ⟨hvm, andn_self_tb rest v⟩)
      have hcv : costB jc T u rest v ≤ jcost jc u (v :: t) := by
        have hlow : T (andn rest (2 ^ v)) v ≤ jcost jc (some v) t := hlow
        have h3 := jcost_cost jc T u v rest t
        omega
      have hwv := hin.2.2 v hvm hv
      by_cases e : w = v
      · subst e
        have ih2 := (ih t (some w) (andn rest (2 ^ w)) hlt het (andn_lt hr) hus).2
        rcases ih2 with z | ⟨z1, z2⟩
        · refine Or.inl ?_
          unfold jcost
          omega
        · refine Or.inr ⟨?_, ?_⟩
          · unfold jcost
            rw [z1]
          · rcases z2 with y | y
            · exact Or.inl (by rw [y])
            · exact Or.inr (Or.inr ⟨rfl, y⟩)
      · rw [ecost]
        rcases Nat.lt_or_eq_of_le (Nat.le_trans hwv hcv) with z | z
        · exact Or.inl z
        · refine Or.inr ⟨z, Or.inr (Or.inl ?_)⟩
          rcases Nat.lt_or_ge v w with y | y
          · have := hfirst v y hv
            omega
          · omega
end PK
/-! steps, unit by unit -/
def stL (f : Nat → Nat → Bool) : List Nat → Nat
  | [] => 0
  | [_] => 0
  | a :: b :: t => bn (f a b) + stL f (b :: t)
theorem sumf_shift (g : Nat → Nat) : ∀ n, sumf g (n + 1) = g 0 + sumf (fun i => g (i + 1)) n
  | 0 => by simp [sumf]
  | n + 1 => by
    have ih := sumf_shift g n
    show sumf g (n + 1) + g (n + 1) = g 0 + (sumf (fun i => g (i + 1)) n + g (n + 1))
    omega
theorem stepsN_stL (f : Nat → Nat → Bool) : ∀ l, stepsN f l = stL f l
  | [] => rfl
  | [a] => rfl
  | a :: b :: t => by
    have ih := stepsN_stL f (b :: t)
    unfold stL
    rw [← ih]
    unfold stepsN
    have e1 : (a :: b :: t).length - 1 = t.length + 1 := by simp
    have e2 : (b :: t).length - 1 = t.length := by simp
    rw [e1, e2, sumf_shift]
    rfl
theorem stL_app (f : Nat → Nat → Bool) {x y : Nat} {l2 : List Nat} : ∀ (l1 : List Nat), stL f (l1 ++ [x] ++ (y :: l2)) = stL f (l1 ++ [x]) + (bn (f x y) + stL f (y :: l2))
  | [] => by
    show bn (f x y) + stL f (y :: l2) = 0 + _
    rw [Nat.zero_add]
  | [a] => by
    show bn (f a x) + (bn (f x y) + stL f (y :: l2)) = (bn (f a x) + 0) + _
    omega
  | a :: b :: t => by
    have ih := stL_app f (x := x) (y := y) (l2 := l2) (b :: t)
    show bn (f a b) + stL f ((b :: t) ++ [x] ++ (y :: l2)) = (bn (f a b) + stL f ((b :: t) ++ [x])) + _
    omega
/-- a list that begins and ends so -/
def Brd (l : List Nat) (a z : Nat) : Prop := (∃ t, l = a :: t) ∧ ∃ i, l = i ++ [z]
theorem bits_hi {s : Nat} : ∀ k, ¬ (bitsT s k) = [] → ∃ i, bitsT s k = i ++ [hiT s k]
  | 0, h => absurd rfl h
  | k + 1, h => by
    unfold bitsT hiT at *
    by_cases hb : s.testBit k = true
    · rw [if_pos hb, if_pos hb]; exact ⟨_, rfl⟩
    · rw [if_neg hb] at h ⊢
      rw [if_neg hb]
      exact bits_hi k h
theorem bits_lo {s q : Nat} (h : lowQ s q = true) : ∀ k, q < k → ∃ t, bitsT s k = q :: t
  | 0, hk => absurd hk (Nat.not_lt_zero q)
  | k + 1, hk => by
    have hl := lowQ_iff.mp h
    unfold bitsT
    by_cases e : q = k
    · subst e
      rw [if_pos hl.1, bitsT_lo (q := q) q hl.2]
      exact ⟨[], rfl⟩
    · obtain ⟨t, ht⟩ := bits_lo h k (by omega)
      rw [ht]
      split
      · exact ⟨t ++ [k], rfl⟩
      · exact ⟨t, rfl⟩
def fstU (Ou : List (Nat × Nat)) (u : Nat) : Nat := (Ou.getD u pz).2
def lstU (Ou : List (Nat × Nat)) (u : Nat) : Nat := hiT (Ou.getD u pz).1 24
def bitU (Ou : List (Nat × Nat)) (u : Nat) : List Nat := bitsT (Ou.getD u pz).1 24
def OuB (Ou : List (Nat × Nat)) : Prop := ∀ u, u < Ou.length → Brd (bitU Ou u) (fstU Ou u) (lstU Ou u)
theorem ou_brd {B : BD} (hW : WFB B) (s : Nat) : OuB (ouT B s (bN B)) := by
  intro u hu
  obtain ⟨q, h1, h2, h3, -⟩ := ouT_ex B s (bN B) u hu
  have h24 := hW.1
  unfold bitU fstU lstU
  rw [h3]
  obtain ⟨t, ht⟩ := bits_lo h2 24 (by omega)
  exact ⟨⟨t, ht⟩, bits_hi 24 (by rw [ht]; exact List.cons_ne_nil _ _)⟩
def joi (f : Nat → Nat → Bool) (Ou : List (Nat × Nat)) : List Nat → Nat
  | [] => 0
  | [_] => 0
  | u :: v :: t => bn (f (lstU Ou u) (fstU Ou v)) + joi f Ou (v :: t)
def inn (f : Nat → Nat → Bool) (Ou : List (Nat × Nat)) (us : List Nat) : Nat := (us.map (fun u => stL f (bitU Ou u))).sum
theorem ord_cons (Ou : List (Nat × Nat)) (u : Nat) (t : List Nat) : ordL Ou (u :: t) = bitU Ou u ++ ordL Ou t := rfl
theorem stL_ord (f : Nat → Nat → Bool) {Ou : List (Nat × Nat)} (hO : OuB Ou) : ∀ (us : List Nat), (∀ u, u ∈ us → u < Ou.length) → stL f (ordL Ou us) = inn f Ou us + joi f Ou us
  | [], _ => rfl
  | [u], _ => by
    rw [ord_cons]
    show stL f (bitU Ou u ++ []) = (stL f (bitU Ou u) + 0) + 0
    rw [List.append_nil]
    omega
  | u :: v :: t, h => by
    have ih := stL_ord f hO (v :: t) (fun w hw => h w (List.mem_cons_of_mem _ hw))
    obtain ⟨-, i, hi⟩ := hO u (h u List.mem_cons_self)
    obtain ⟨⟨t', ht'⟩, -⟩ := hO v (h v (List.mem_cons_of_mem _ List.mem_cons_self))
    have e1 : ordL Ou (v :: t) = fstU Ou v :: (t' ++ ordL Ou t) := by rw [ord_cons, ht']; rfl
    have e2 : inn f Ou (u :: v :: t) = stL f (bitU Ou u) + inn f Ou (v :: t) := by
      unfold inn
      rw [List.map_cons, List.sum_cons]
    have e3 : joi f Ou (u :: v :: t) = bn (f (lstU Ou u) (fstU Ou v)) + joi f Ou (v :: t) := rfl
    rw [ord_cons, hi, e1, stL_app, ← hi, ← e1, ih, e2, e3]
    omega
theorem joi_cost (B : BD) (Ou : List (Nat × Nat)) : ∀ (us : List Nat), jcost (jcB B Ou) none us = 32 * joi (downB B) Ou us + joi (alkB B) Ou us ∧ joi (alkB B) Ou us ≤ us.length - 1
  | [] => ⟨rfl, Nat.le_refl _⟩
  | [u] => ⟨rfl, Nat.le_refl _⟩
  | u :: v :: t => by
    have ih := joi_cost B Ou (v :: t)
    have h1 := bn_le (alkB B (lstU Ou u) (fstU Ou v))
    have e : jcost (jcB B Ou) none (u :: v :: t) = jcB B Ou u v + jcost (jcB B Ou) none (v :: t) := by
      show 0 + (jcB B Ou u v + jcost (jcB B Ou) (some v) t) = jcB B Ou u v + (0 + jcost (jcB B Ou) (some v) t)
      omega
    have ej : jcB B Ou u v = bn (downB B (lstU Ou u) (fstU Ou v)) * 32 + bn (alkB B (lstU Ou u) (fstU Ou v)) * 1 := rfl
    rw [e, ej]
    simp only [joi, List.length_cons] at ih ⊢
    omega
theorem inn_perm {f : Nat → Nat → Bool} {Ou : List (Nat × Nat)} {us vs : List Nat} (h : us.Perm vs) : inn f Ou us = inn f Ou vs := by
  unfold inn
  induction h with
  | nil => rfl
  | cons x _ ih => rw [List.map_cons, List.map_cons, List.sum_cons, List.sum_cons, ih]
  | swap x y l => rw [List.map_cons, List.map_cons, List.map_cons, List.map_cons, List.sum_cons, List.sum_cons, List.sum_cons, List.sum_cons]; omega
  | trans _ _ ih1 ih2 => exact ih1.trans ih2
theorem usT_get (r : Nat → Nat) : ∀ k i, i < k → (usT r k).getD i 0 = r i
  | 0, i, h => absurd h (Nat.not_lt_zero i)
  | k + 1, i, h => by
    unfold usT
    by_cases e : i = k
    · subst e
      rw [List.getD_eq_getElem?_getD, List.getElem?_append_right (by rw [usT_len]; exact Nat.le_refl _), usT_len, Nat.sub_self]
      rfl
    · rw [List.getD_eq_getElem?_getD, List.getElem?_append_left (by rw [usT_len]; omega), ← List.getD_eq_getElem?_getD]
      exact usT_get r k i (by omega)
theorem usT_list {us : List Nat} {m : Nat} (h : us.length = m) : usT (fun i => us.getD i 0) m = us := by
  apply List.ext_getElem?
  intro i
  by_cases hi : i < m
  · have e := usT_get (fun i => us.getD i 0) m i hi
    rw [List.getD_eq_getElem?_getD, List.getD_eq_getElem?_getD] at e
    have h1 : i < (usT (fun i => us.getD i 0) m).length := by rw [usT_len]; exact hi
    have h2 : i < us.length := by omega
    rw [List.getElem?_eq_getElem h1, List.getElem?_eq_getElem h2] at e ⊢
    exact congrArg some e
  · rw [List.getElem?_eq_none (by rw [usT_len]; omega), List.getElem?_eq_none (by omega)]
theorem lexLs_lex : ∀ (a b : List Nat), a.length = b.length → lexLs a b → lexL a.length (fun i => a.getD i 0) (fun i => b.getD i 0)
  | [], b, _, h => by cases b <;> exact h.elim
  | x :: t, [], hl, _ => by cases hl
  | x :: t, y :: t', hl, h => by
    rcases h with h | ⟨h1, h2⟩
    · exact ⟨0, by simp, fun z hz => by omega, h⟩
    · obtain ⟨z, z1, z2, z3⟩ := lexLs_lex t t' (by simpa using hl) h2
      refine ⟨z + 1, by rw [List.length_cons]; omega, fun w hw => ?_, z3⟩
      cases w with
      | zero => exact h1
      | succ w => exact z2 w (by omega)
theorem ord_class {B : BD} (hW : WFB B) {s : Nat} (hl : (ouT B s (bN B)).length ≤ 8) {T : Nat → Nat → Nat} (hT : TabOK (jcB B (ouT B s (bN B))) T (ouT B s (bN B)).length) : ∃ c, IsOrd B s c ∧ lay B s c = ordQ B s T := by
  have hO := ou_brd hW s
  have hj := jcB_le B (ouT B s (bN B))
  unfold IsOrd cleB dnB smB lay ordQ
  simp only [stepsN_stL]
  generalize ouT B s (bN B) = Ou at *
  have hfull : ∀ v, v < Ou.length ↔ (2 ^ Ou.length - 1).testBit v = true := fun v => by
    rw [Nat.testBit_two_pow_sub_one, decide_eq_true_iff]
  have hr : 2 ^ Ou.length - 1 < 2 ^ Ou.length := by
    have : 0 < 2 ^ Ou.length := Nat.pow_pos (by decide)
    omega
  have hpick := pick_ok (jc := jcB B Ou) (T := T) hj hT.2.1 hl Ou.length none (2 ^ Ou.length - 1) hr (full_cnt Ou.length)
  have hpB := pickB (jc := jcB B Ou) (T := T) (m := Ou.length) hj hT hl Ou.length
  generalize hus : pickP (jcB B Ou) T Ou.length Ou.length none (2 ^ Ou.length - 1) = us at hpick
  -- its length
  have hid : Enm (usT (fun i => i) Ou.length) (2 ^ Ou.length - 1) := ⟨usT_nodup (perm_id _) _ (Nat.le_refl _), fun v => by rw [perm_us (perm_id _), hfull]⟩
  have hperm0 : us.Perm (usT (fun i => i) Ou.length) := (List.perm_ext_iff_of_nodup hpick.1 hid.1).mpr (fun v => by rw [hpick.2 v, hid.2 v])
  have hlen : us.length = Ou.length := by rw [hperm0.length_eq, usT_len]
  have hul := usT_list hlen
  refine ⟨fun i => us.getD i 0, ⟨⟨?_, ?_, ?_⟩, fun p hp => ?_⟩, by rw [hul]⟩
  · intro i hi
    rw [hfull, ← hpick.2]
    exact getD_mem (by omega)
  · intro i j hi hj' e
    have e : us.getD i 0 = us.getD j 0 := e
    rw [List.getD_eq_getElem?_getD, List.getD_eq_getElem?_getD, List.getElem?_eq_getElem (show i < us.length by omega), List.getElem?_eq_getElem (show j < us.length by omega)] at e
    rcases Nat.lt_trichotomy i j with z | z | z
    · exact absurd e (List.pairwise_iff_getElem.mp hpick.1 i j (by omega) (by omega) z)
    · exact z
    · exact absurd (show us[j]'(by omega) = us[i]'(by omega) from Eq.symm e) (List.pairwise_iff_getElem.mp hpick.1 j i (by omega) (by omega) z)
  · intro v hv
    have hm := (hpick.2 v).mpr ((hfull v).mp hv)
    obtain ⟨i, hi⟩ := List.getElem?_of_mem hm
    have hi2 := (List.getElem?_eq_some_iff.mp hi).1
    refine ⟨i, by omega, ?_⟩
    show us.getD i 0 = v
    rw [List.getD_eq_getElem?_getD, hi]
    rfl
  · have hep : Enm (usT p Ou.length) (2 ^ Ou.length - 1) := ⟨usT_nodup hp _ (Nat.le_refl _), fun v => by rw [perm_us hp, hfull]⟩
    have hcmp := (hpB (usT p Ou.length) none (2 ^ Ou.length - 1) (usT_len _ _) hep hr (fun v e => by cases e)).2
    rw [hus] at hcmp
    have hperm : us.Perm (usT p Ou.length) := (List.perm_ext_iff_of_nodup hpick.1 hep.1).mpr (fun v => by rw [hpick.2 v, hep.2 v])
    rw [hul]
    have m1 : ∀ u, u ∈ us → u < Ou.length := fun u hu => by rw [hfull, ← hpick.2]; exact hu
    have m2 : ∀ u, u ∈ usT p Ou.length → u < Ou.length := fun u hu => (perm_us hp u).mp hu
    rw [stL_ord _ hO us m1, stL_ord _ hO us m1, stL_ord _ hO _ m2, stL_ord _ hO _ m2, ← inn_perm (f := downB B) hperm, ← inn_perm (f := alkB B) hperm]
    have c1 := joi_cost B Ou us
    have c2 := joi_cost B Ou (usT p Ou.length)
    rw [usT_len] at c2
    rw [hlen] at c1
    rcases hcmp with z | ⟨z1, z2⟩
    · omega
    · refine Or.inr ⟨by omega, Or.inr ⟨by omega, ?_⟩⟩
      rcases z2 with y | y
      · refine Or.inl (fun i hi => ?_)
        show us.getD i 0 = p i
        rw [y]
        exact usT_get p _ i hi
      · right
        have := lexLs_lex us (usT p Ou.length) (by rw [hlen, usT_len]) y
        rw [hlen] at this
        exact lex_same this (fun i hi => usT_get p _ i hi)
theorem ord_uniq {B : BD} {s : Nat} {c c' : Nat → Nat} (h1 : IsOrd B s c) (h2 : IsOrd B s c') : lay B s c = lay B s c' := by
  apply lay_congr
  have a := h1.2 c' h2.1
  have b := h2.2 c h1.1
  unfold cleB at a b
  rcases a with a | ⟨a, a2 | ⟨a2, a3 | a3⟩⟩
  · rcases b with b | ⟨b, -⟩ <;> omega
  · rcases b with b | ⟨b, b2 | ⟨b2, -⟩⟩ <;> omega
  · exact a3
  · rcases b with b | ⟨b, b2 | ⟨b2, b3 | b3⟩⟩
    · omega
    · omega
    · exact fun i hi => (b3 i hi).symm
    · exact absurd b3 (fun z => lex_asym a3 z)
theorem ord_eq {S : AS} (hWF : WFS S) {x : Int32} {T : Nat → Nat → Nat} {c : Nat → Nat} (hT : ordB S.1 x = true → TabOK (jcB S.1 (ouT S.1 x.toNatClampNeg (bN S.1))) T (ouT S.1 x.toNatClampNeg (bN S.1)).length) (hc : ordB S.1 x = true → IsOrd S.1 x.toNatClampNeg c) : ordV S.1 x T = mordV S.1 x c ∧ ordS S x T = mordS S x c := by
  unfold ordV mordV ordS mordS
  by_cases ho : ordB S.1 x = true
  · rw [if_pos ho, if_pos ho, if_pos ho, if_pos ho]
    have hl : (ouT S.1 x.toNatClampNeg (bN S.1)).length ≤ 8 := by
      unfold ordB at ho
      rw [Bool.and_eq_true] at ho
      exact of_decide_eq_true ho.2
    obtain ⟨c', h1, h2⟩ := ord_class hWF.1 hl (hT ho)
    have e : ordQ S.1 x.toNatClampNeg T = lay S.1 x.toNatClampNeg c := h2.symm.trans (ord_uniq h1 (hc ho))
    unfold dnB smB
    rw [e]
    exact ⟨rfl, rfl⟩
  · rw [if_neg ho, if_neg ho, if_neg ho, if_neg ho]
    exact ⟨rfl, rfl⟩
