/-! STATES STAY WHOLE -/
theorem Mk.fc {S : AS} {a b : Mem} (h : Mk S a) (hF : Fc a b) : Mk S b := by
  unfold Mk Bm Lm
  rw [hF 36 (by decide), hF 37 (by decide), hF 38 (by decide), hF 39 (by decide), hF 40 (by decide), hF 41 (by decide), hF 42 (by decide), hF 43 (by decide), hF 44 (by decide), hF 45 (by decide), hF 46 (by decide), hF 47 (by decide), hF 57 (by decide)]
  exact h
theorem Ck.fm {S : AS} {a b : Mem} (h : Ck S a) (hF : Fm a b) : Ck S b := by
  unfold Ck Bk Lk Sk
  rw [hF 0 (by decide), hF 1 (by decide), hF 3 (by decide), hF 4 (by decide), hF 6 (by decide), hF 7 (by decide), hF 8 (by decide), hF 16 (by decide), hF 17 (by decide), hF 18 (by decide), hF 19 (by decide), hF 21 (by decide), hF 22 (by decide), hF 27 (by decide), hF 33 (by decide), hF 34 (by decide)]
  exact h
theorem wf_bank {S : AS} {B : BD} (h : WFS S) (hB : WFB B) : WFS (B, S.2) := ⟨hB, h.2⟩
theorem wf_lim {S : AS} {L : LD} (h : WFS S) (hL : WFL L) : WFS (S.1, L, S.2.2) := ⟨h.1, hL, h.2.2⟩
theorem upd_o {f : Nat → Int32} {k j : Nat} {v : Int32} (h : ¬ j = k) : upd f k v j = f j := by unfold upd; rw [if_neg h]
theorem upd_s {f : Nat → Int32} {k : Nat} {v : Int32} : upd f k v k = v := by unfold upd; rw [if_pos rfl]
theorem wf_question {S : AS} {t s m k h : Int32} (hS : WFS S) : WFS (if okQ S.1 t s m k h then (addQ S.1 t s m k h, S.2) else S) := by
  by_cases ho : okQ S.1 t s m k h = true
  · rw [if_pos ho]
    unfold okQ at ho
    rw [Bool.and_eq_true, Bool.and_eq_true, Bool.and_eq_true, Bool.and_eq_true, Bool.and_eq_true] at ho
    obtain ⟨⟨-, hm, hk, -⟩, hn⟩ := ho
    have hn := of_decide_eq_true hn
    obtain ⟨h1, h2, h3, h4, h5⟩ := hS.1
    refine wf_bank hS ⟨?_, h2, h3, fun q => ?_, fun q hq => ?_⟩
    · show bN S.1 + 1 ≤ 24
      omega
    · show bG S.1 q < 2 ^ (bN S.1 + 1)
      have := h4 q
      have h6 : 2 ^ bN S.1 < 2 ^ (bN S.1 + 1) := Nat.pow_lt_pow_right (by decide) (by omega)
      omega
    · have hq : q < bN S.1 + 1 := hq
      unfold fMin fMrk
      rw [bF_addQ]
      by_cases e : q = bN S.1
      · rw [if_pos e]
        obtain ⟨m', hm1, hm2, rfl⟩ := in_ab (a := 1) (b := 60) (by decide) (by decide) hm
        obtain ⟨k', hk1, hk2, rfl⟩ := in_ab (a := 1) (b := 40) (by decide) (by decide) hk
        have e2 : upd (upd (upd (upd (upd (upd (upd (bF S.1 q) 0 t) 1 s) 2 (nI m')) 3 (nI k')) 4 h) 5 (-1)) 6 (-1) 2 = nI m' := by
          rw [upd_o (by decide), upd_o (by decide), upd_o (by decide), upd_o (by decide), upd_s]
        have e3 : upd (upd (upd (upd (upd (upd (upd (bF S.1 q) 0 t) 1 s) 2 (nI m')) 3 (nI k')) 4 h) 5 (-1)) 6 (-1) 3 = nI k' := by
          rw [upd_o (by decide), upd_o (by decide), upd_o (by decide), upd_s]
        rw [e2, e3, nI_clamp (by omega), nI_clamp (by omega)]
        exact ⟨rfl, hm2, rfl, hk2⟩
      · rw [if_neg e]
        exact h5 q (by omega)
  · rw [if_neg ho]; exact hS
theorem wf_passage {S : AS} {x p : Int32} {c : Bool} (hS : WFS S) : WFS (if c then (setF S.1 x.toNatClampNeg 5 p, S.2) else S) := by
  cases c with
  | false => exact hS
  | true =>
    obtain ⟨h1, h2, h3, h4, h5⟩ := hS.1
    refine wf_bank hS ⟨h1, h2, h3, h4, fun q hq => ?_⟩
    have hh := h5 q hq
    unfold fMin fMrk at hh ⊢
    have e : ∀ j, ¬ j = 5 → bF (setF S.1 x.toNatClampNeg 5 p) q j = bF S.1 q j := fun j hj => by
      show (if q = x.toNatClampNeg then upd (bF S.1 q) 5 p else bF S.1 q) j = _
      split
      · exact upd_o hj
      · rfl
    rw [e 2 (by decide), e 3 (by decide)]
    exact hh
theorem wf_gives {S : AS} {x y : Int32} {is : Bool} (hS : WFS S) : WFS (if givB S.1 x y is then (setG S.1 x.toNatClampNeg (bG S.1 x.toNatClampNeg ^^^ 2 ^ y.toNatClampNeg), S.2) else S) := by
  by_cases ho : givB S.1 x y is = true
  · rw [if_pos ho]
    unfold givB at ho
    rw [Bool.and_eq_true, Bool.and_eq_true, Bool.and_eq_true] at ho
    obtain ⟨b, hb, e⟩ := hasB_ex hS.1 ho.1.2.1
    obtain ⟨h1, h2, h3, h4, h5⟩ := hS.1
    have hy : y.toNatClampNeg = b := by rw [e]; exact nI_clamp (by omega)
    refine wf_bank hS ⟨h1, h2, h3, fun q => ?_, h5⟩
    show updN (bG S.1) x.toNatClampNeg _ q < 2 ^ bN S.1
    unfold updN
    split
    · rw [hy]; exact xor_lt (h4 _) (Nat.pow_lt_pow_right (by decide) hb)
    · exact h4 q
  · rw [if_neg ho]; exact hS
theorem wf_bound {S : AS} {b l g : Int32} (hS : WFS S) : WFS (if bndB b l g then (S.1, setL S.2.1 b.toNatClampNeg l.toNatClampNeg g.toNatClampNeg, S.2.2) else S) := by
  by_cases ho : bndB b l g = true
  · rw [if_pos ho]
    unfold bndB at ho
    rw [Bool.and_eq_true, Bool.and_eq_true, Bool.and_eq_true] at ho
    obtain ⟨l', -, hl, e1⟩ := in_ab (a := 0) (b := 1000) (by decide) (by decide) ho.2.1.1
    obtain ⟨g', -, hg, e2⟩ := in_ab (a := 0) (b := 1000) (by decide) (by decide) ho.2.1.2
    have c1 : l.toNatClampNeg = l' := by rw [e1]; exact nI_clamp (by omega)
    have c2 : g.toNatClampNeg = g' := by rw [e2]; exact nI_clamp (by omega)
    refine wf_lim hS (fun i => ?_)
    have hh := hS.2.1 i
    show updN S.2.1.1 _ _ i ≤ 1000 ∧ updN S.2.1.2.1 _ _ i ≤ 1000 ∧ S.2.1.2.2 i ≤ 1000
    rw [c1, c2]
    unfold updN
    refine ⟨?_, ?_, hh.2.2⟩
    · split
      · exact hl
      · exact hh.1
    · split
      · exact hg
      · exact hh.2.1
  · rw [if_neg ho]; exact hS
theorem wf_profile {S : AS} {t m : Int32} (hS : WFS S) : WFS (if proB t m then (S.1, setW S.2.1 t.toNatClampNeg m.toNatClampNeg, S.2.2) else S) := by
  by_cases ho : proB t m = true
  · rw [if_pos ho]
    unfold proB at ho
    rw [Bool.and_eq_true] at ho
    obtain ⟨m', -, hm, e1⟩ := in_ab (a := 0) (b := 1000) (by decide) (by decide) ho.2
    have c1 : m.toNatClampNeg = m' := by rw [e1]; exact nI_clamp (by omega)
    refine wf_lim hS (fun i => ?_)
    have hh := hS.2.1 i
    show S.2.1.1 i ≤ 1000 ∧ S.2.1.2.1 i ≤ 1000 ∧ updN S.2.1.2.2 _ _ i ≤ 1000
    rw [c1]
    unfold updN
    refine ⟨hh.1, hh.2.1, ?_⟩
    split
    · exact hm
    · exact hh.2.2
  · rw [if_neg ho]; exact hS
theorem wf_rest {S : AS} {r : Int32} (hS : WFS S) : WFS (if decide (0 ≤ r ∧ r ≤ 9) then ((bN S.1, bT S.1, r.toNatClampNeg, bF S.1, bG S.1), S.2) else S) := by
  by_cases ho : decide (0 ≤ r ∧ r ≤ 9) = true
  · rw [if_pos ho]
    obtain ⟨r', -, hr, e1⟩ := in_ab (a := 0) (b := 9) (by decide) (by decide) ho
    have c1 : r.toNatClampNeg = r' := by rw [e1]; exact nI_clamp (by omega)
    obtain ⟨h1, h2, h3, h4, h5⟩ := hS.1
    exact wf_bank hS ⟨h1, h2, by show r.toNatClampNeg ≤ 9; omega, h4, h5⟩
  · rw [if_neg ho]; exact hS
theorem wf_term {S : AS} (hS : WFS S) : WFS (if bT S.1 < 1000 then ((bN S.1, bT S.1 + 1, bR S.1, bF S.1, bG S.1), S.2) else S) := by
  by_cases ho : bT S.1 < 1000
  · rw [if_pos ho]
    obtain ⟨h1, h2, h3, h4, h5⟩ := hS.1
    exact wf_bank hS ⟨h1, by show bT S.1 + 1 ≤ 1000; omega, h3, h4, h5⟩
  · rw [if_neg ho]; exact hS
theorem wf_use {S : AS} {x : Int32} (hS : WFS S) : WFS (if setB S.1 x then (useF S.1 x.toNatClampNeg (bN S.1), S.2) else S) := by
  by_cases ho : setB S.1 x = true
  · rw [if_pos ho]
    obtain ⟨h1, h2, h3, h4, h5⟩ := hS.1
    refine wf_bank hS ⟨h1, h2, h3, h4, fun q hq => ?_⟩
    have hh := h5 q hq
    unfold fMin fMrk at hh ⊢
    have e : ∀ j, ¬ j = 6 → bF (useF S.1 x.toNatClampNeg (bN S.1)) q j = bF S.1 q j := fun j hj => by
      rw [bF_useF]
      split
      · exact upd_o hj
      · rfl
    rw [e 2 (by decide), e 3 (by decide)]
    exact hh
  · rw [if_neg ho]; exact hS
theorem wf_versions {S : AS} {x : Int32} (hS : WFS S) : WFS (mverS S x) := by
  unfold mverS
  split
  · exact ⟨hS.1, hS.2.1, tol_lt24 hS.1 _, hS.2.2.2⟩
  · exact hS
theorem wf_order {S : AS} {x : Int32} {c : Nat → Nat} (hS : WFS S) (hc : ordB S.1 x = true → IsOrd S.1 x.toNatClampNeg c) : WFS (mordS S x c) := by
  unfold mordS
  by_cases ho : ordB S.1 x = true
  · rw [if_pos ho]
    have hI := hc ho
    unfold ordB at ho
    rw [Bool.and_eq_true] at ho
    obtain ⟨s, hs, e⟩ := setB_ex hS.1 ho.1
    have hcl : x.toNatClampNeg = s := by rw [e]; exact nI_clamp (pw24 (Nat.lt_of_lt_of_le hs (pw_le hS.1.1)))
    rw [hcl] at hI ⊢
    have hlen : (lay S.1 s c).length = popN s := lay_len hs hI.1
    have hp := popN_le s
    have hst := stepsN_le (alkB S.1) (lay S.1 s c)
    refine ⟨hS.1, hS.2.1, hS.2.2.1, ?_, ?_, fun i hi => ?_⟩
    · show (lay S.1 s c).length ≤ 24
      omega
    · show stepsN (alkB S.1) (lay S.1 s c) ≤ 24
      omega
    · exact ordL_lt (getD_mem hi)
  · rw [if_neg ho]; exact hS
/-! THE BEGINNING -/
def S0 : AS := ((0, 1, 0, fun _ _ => 0, fun _ => 0), (fun _ => 0, fun b => if b < 10 then 1000 else 0, fun _ => 0), 0, (0, 0, fun _ => 0))
theorem wf_S0 : WFS S0 := by
  refine ⟨⟨by decide, by decide, by decide, fun q => by show 0 < 2 ^ 0; decide, fun q hq => absurd hq (Nat.not_lt_zero q)⟩, fun b => ⟨by show 0 ≤ 1000; decide, ?_, by show 0 ≤ 1000; decide⟩, by decide, by decide, by decide, fun i hi => absurd hi (Nat.not_lt_zero i)⟩
  show (if b < 10 then 1000 else 0) ≤ 1000
  split <;> decide
def memP : Mem := ctP_m (fun _ _ => zr)
def mem0 : Mem := ctM_m memP
theorem mem0_7 (b : Nat) : mem0 7 0 b = nI (if b < 10 then 1000 else 0) := by
  show (if b < 10 then (1000 : Int32) else 0) = _
  by_cases h : b < 10
  · rw [if_pos h, if_pos h]; rfl
  · rw [if_neg h, if_neg h]; rfl
theorem mem0_46 (b : Nat) : mem0 46 0 b = nI (if b < 10 then 1000 else 0) := by
  show (if b < 10 then (1000 : Int32) else 0) = _
  by_cases h : b < 10
  · rw [if_pos h, if_pos h]; rfl
  · rw [if_neg h, if_neg h]; rfl
set_option maxRecDepth 20000 in
theorem ck_S0 : Ck S0 mem0 := by
  refine ⟨⟨rfl, rfl, rfl, fun q k => rfl, fun q => rfl⟩, fun b => ⟨rfl, mem0_7 b, rfl⟩, rfl, ⟨⟨rfl, rfl, fun b _ => rfl⟩, ⟨rfl, rfl, fun b _ => rfl⟩, ⟨rfl, rfl, fun b _ => rfl⟩⟩, ⟨rfl, rfl, fun i hi => absurd hi (Nat.not_lt_zero i)⟩, fun u _ => rfl⟩
set_option maxRecDepth 20000 in
theorem mk_S0 : Mk S0 mem0 := by
  refine ⟨⟨rfl, rfl, rfl, fun q => ⟨rfl, rfl, rfl, rfl, rfl, rfl, rfl⟩, fun q => rfl⟩, fun b => ⟨rfl, mem0_46 b, rfl⟩, rfl, rfl, rfl, fun i hi => absurd hi (Nat.not_lt_zero i)⟩
/-! all fields stand: the world is whole -/
def flagB (mem : Mem) : Bool := (List.range 59).all fun g => match gobj g with
  | some (_, fs) => gcnt g == 1 && (List.range fs.length).all fun k => match fs[k]? with
    | some (some _) => mem g 0 k == 1
    | _ => true
  | none => true
theorem flag0 : flagB mem0 = true := by decide +kernel
theorem fds_same {E : En} {r : Nat → Int32} {fs : List (Option Nat)} (h : ∀ k g', fs[k]? = some (some g') → r k = 1) : fdsK E r fs = fdsE E r fs := by
  apply List.ext_getElem?
  intro n
  unfold fdsK fdsE
  rw [List.getElem?_mapIdx, List.getElem?_mapIdx]
  cases hc : fs[n]? with
  | none => rfl
  | some f =>
    cases f with
    | none => rfl
    | some g' =>
      show some (if r n = 1 then Value.ref (E.2.2.1 g' 0) else Value.null) = some (.ref (E.2.2.1 g' 0))
      rw [if_pos (h n g' hc)]
theorem ws_whole {E : En} {mem : Mem} (h : flagB mem = true) : wsK E 120 mem = wsE E mem := by
  unfold wsK wsE
  rw [List.take_of_length_le (by rw [ac_len]; exact Nat.le_refl _)]
  apply List.map_congr_left
  intro c hc
  obtain ⟨g, j⟩ := c
  congr 1
  have hg : g < 59 ∧ j < gcnt g := by
    obtain ⟨a, h1, h2⟩ := List.mem_flatMap.mp hc
    obtain ⟨b, h3, h4⟩ := List.mem_map.mp h2
    cases h4
    exact ⟨List.mem_range.mp h1, List.mem_range.mp h3⟩
  have hf := List.all_eq_true.mp h g (List.mem_range.mpr hg.1)
  show gentK E (mem g j) g = gent E (mem g j) g
  cases ho : gobj g with
  | none => exact gentK_no ho
  | some q =>
    obtain ⟨ci, fs⟩ := q
    rw [ho] at hf
    have hf : (gcnt g == 1 && (List.range fs.length).all fun k => match fs[k]? with
      | some (some _) => mem g 0 k == 1
      | _ => true) = true := hf
    rw [Bool.and_eq_true] at hf
    have hc1 : gcnt g = 1 := by simpa using hf.1
    have hj : j = 0 := by omega
    subst hj
    rw [gentK_obj ho, gent_obj ho, fds_same]
    intro k g' hk
    have := List.all_eq_true.mp hf.2 k (List.mem_range.mpr (List.getElem?_eq_some_iff.mp hk).1)
    rw [hk] at this
    simpa using this
