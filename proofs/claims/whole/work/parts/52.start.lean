/-! THE LAW'S BEGINNING: both constructors, then the loop -/
abbrev YL (E : En) (b Ls : Nat) (xs : Nat → Int32) : Xk := (room_1, 0, fun below args s t => PL E b Ls xs s → lw_Z below args s t)
theorem sl_0 : SLn 0 = 0 := by decide +kernel
theorem bn_7 : ∀ j, j < 9 → defaultValue (tyX8 j) = vp_V (([some 1, some 5, some 9, some 16, some 18, some 21, some 27, some 35, none] : List (Option Nat)).map zv) j := by decide +kernel
theorem bn_8 : ∀ j, j < 30 → defaultValue (tyX9 j) = vp_V (([none, none, none, some 37, some 38, some 39, some 40, some 41, some 42, some 43, some 44, some 45, some 46, some 47, none, some 48, some 49, some 50, some 51, some 52, some 53, some 54, none, none, none, none, some 55, some 56, some 57, some 58] : List (Option Nat)).map zv) j := by decide +kernel
/-- from the world that comes, cell by cell, to the world that stands -/
theorem law_turn {E : En} {b Ls : Nat} {xs : Nat → Int32} {L : List (Option PV)} {mem : Mem} (hflag : flagB mem = true) (hok : ∀ v, some v ∈ L → okv v) (h : Wp E (XL E b Ls xs) mL 18 L [] mem) : Wc E (YL E b Ls xs) mL 120 18 L [] mem := by
  intro p e s m args below meth c H locs ls hC hs0 hZ hsz hP hS hl
  by_cases hPL : PL E b Ls xs s
  · have eA : (fun q => bs E ≤ q ∨ ¬ PL E b Ls xs s) = bA E := funext fun q => propext ⟨fun z => z.resolve_right (fun y => y hPL), Or.inl⟩
    have hKx := hC.2.2.2.2.2.2.2.1
    have hKE : Kx E (fun q => bs E ≤ q ∨ ¬ PL E b Ls xs s) s := by rw [eA]; exact hKx.1
    have hSE : va_S (fun q => bs E ≤ q ∨ ¬ PL E b Ls xs s) s.heap H locs := by rw [eA]; exact hS
    have hPE : va_P E.2.1 kcl (wsE E mem) H := by rw [← ws_whole hflag]; exact hP
    have K := h p e s m args below meth c H locs ls ⟨hC.1, hC.2.1, hC.2.2.1, hC.2.2.2.1, hC.2.2.2.2.1, hC.2.2.2.2.2.1, hC.2.2.2.2.2.2.1, hKE, fun q hq => Or.inl (hKx.2.2.2.ra q hq)⟩ hPE hSE hl (fun v hv => absurd hv List.not_mem_nil) hok
    have K2 : W p E.1 e room_1 s m args below meth c H locs (120 - 0) (SLn 120 - SLn 0) (lw_Z below args s) (F0 m 18 ls (([] : List PV).map (cv E))) := by
      refine W.widen (k := 120) (n := SLn 120) (Nat.le_refl _) (Nat.sub_le _ _) ?_
      exact K
    intro T hT X
    obtain ⟨t, a1, b1⟩ := K2 T hT X
    exact ⟨t, a1, fun _ => b1⟩
  · intro T hT X
    exact ⟨_, Steps.refl _, fun z => absurd z hPL⟩
theorem law_ctor {E : En} {b Ls : Nat} {xs : Nat → Int32} (hL : Ls ≤ 3072) : Wc E (YL E b Ls xs) mL 0 0 [some (pR 98 0), none, none, none] [] (fun _ _ => zr) := by
  refine c_new (k := 0) (q := 3) (C := RX8) (T := TX8) (N := 9) (g := 0) tyX8 tyX8_ok rfl rfl (by decide +kernel) k_46 k_47 k_33 bn_7 (Nat.le_of_ble_eq_true rfl) (Nat.le_of_ble_eq_true rfl) (by show SLn 0 - SLn 0 + 9 ≤ 7302250; rw [sl_0]; omega) (by show SLn 0 - SLn 0 + 9 ≤ SLn 1 - SLn 0; rw [sl_0, sl_1]; omega) dL_law_0 rfl ?_
  refine c_dup (q := 4) dL_law_3 rfl ?_
  refine c_call (k := 1) (k1 := 97) (d := 3) (q := 7) (g := 0) (As := []) (st := [pR 0 0]) mk_X8_init rfl rfl k_49 k_48 rfl (by decide) ⟨Nat.le_of_ble_eq_true rfl, Nat.le_of_ble_eq_true rfl, Nat.le_of_ble_eq_true rfl, Nat.le_of_ble_eq_true rfl, Nat.le_of_ble_eq_true rfl, (by show SLn 1 - SLn 0 + (SLn 97 - SLn 1) ≤ 7302250; rw [sl_0, sl_1, sl_97]; omega), (by show SLn 1 - SLn 0 + (SLn 97 - SLn 1) ≤ SLn 97 - SLn 0; rw [sl_0, sl_1, sl_97]; omega)⟩ dL_law_4 rfl (ctP_ok (d := 0) ?_)
  refine c_astore_n (q := 8) (by decide) dL_law_7 rfl ?_
  refine c_new (k := 97) (q := 11) (C := RX9) (T := TX9) (N := 30) (g := 36) tyX9 tyX9_ok rfl rfl (by decide +kernel) k_628 k_629 k_43 bn_8 (Nat.le_of_ble_eq_true rfl) (Nat.le_of_ble_eq_true rfl) (by show SLn 97 - SLn 0 + 30 ≤ 7302250; rw [sl_0, sl_97]; omega) (by show SLn 97 - SLn 0 + 30 ≤ SLn 98 - SLn 0; rw [sl_0, sl_97, sl_98]; omega) dL_law_8 rfl ?_
  refine c_dup (q := 12) dL_law_11 rfl ?_
  refine c_call (k := 98) (k1 := 120) (d := 1) (q := 15) (g := 36) (As := []) (st := [pR 36 0]) mk_X9_init rfl rfl k_631 k_630 rfl (by decide) ⟨Nat.le_of_ble_eq_true rfl, Nat.le_of_ble_eq_true rfl, Nat.le_of_ble_eq_true rfl, Nat.le_of_ble_eq_true rfl, Nat.le_of_ble_eq_true rfl, (by show SLn 98 - SLn 0 + (SLn 120 - SLn 98) ≤ 7302250; rw [sl_0, sl_98, sl_120]; omega), (by show SLn 98 - SLn 0 + (SLn 120 - SLn 98) ≤ SLn 120 - SLn 0; rw [sl_0, sl_98, sl_120]; omega)⟩ dL_law_12 rfl (ctM_ok (d := 0) ?_)
  refine c_astore_n (q := 16) (by decide) dL_law_15 rfl ?_
  refine c_iconst (q := 17) 0 (by decide) dL_law_16 rfl ?_
  refine c_istore_n (q := 18) (by decide) dL_law_17 rfl ?_
  refine law_turn (mem := mem0) flag0 ?_ (law_loop hL (Ls + 7) 0 S0 mem0 (by omega) (Nat.zero_le _) ck_S0 mk_S0 wf_S0)
  intro v hv
  have hv : some v ∈ ([some (pR 98 0), some (pR 0 0), some (pR 36 0), some (pI 0)] : List (Option PV)) := hv
  simp only [List.mem_cons, List.not_mem_nil, or_false, Option.some.injEq] at hv
  rcases hv with rfl | rfl | rfl | rfl
  · exact okR0 98
  · exact okR0 0
  · exact okR0 36
  · exact okI 0
/-! the addresses: one behind another, from the heap's end on -/
def adr (n0 b t : Nat) : Nat → Nat → Nat := fun g j => if g = 98 then b else if g = 99 then t else n0 + ac.findIdx (fun c => c == (g, j))
theorem ac_idx : (List.range 120).all (fun i => match ac[i]? with | some c => (ac.findIdx (fun d => d == (c.1, c.2)) == i) && decide (c.1 < 59) | none => false) = true := by decide +kernel
theorem ac_at {i : Nat} {c : Nat × Nat} (h : ac[i]? = some c) : ac.findIdx (fun d => d == (c.1, c.2)) = i ∧ c.1 < 59 := by
  have hi : i < 120 := by
    have := (List.getElem?_eq_some_iff.mp h).1
    rwa [ac_len] at this
  have h1 := List.all_eq_true.mp ac_idx i (List.mem_range.mpr hi)
  rw [h] at h1
  have h1 : ((ac.findIdx (fun d => d == (c.1, c.2)) == i) && decide (c.1 < 59)) = true := h1
  rw [Bool.and_eq_true] at h1
  exact ⟨by simpa using h1.1, by simpa using h1.2⟩
theorem adr_0 (n0 b t : Nat) : adr n0 b t 0 0 = n0 := by
  have e : ac.findIdx (fun c => c == (0, 0)) = 0 := by decide +kernel
  unfold adr
  rw [if_neg (by decide), if_neg (by decide), e]
  rfl
theorem adr_at {n0 b t i : Nat} {c : Nat × Nat} (h : ac[i]? = some c) : adr n0 b t c.1 c.2 = n0 + i := by
  obtain ⟨h1, h2⟩ := ac_at h
  unfold adr
  rw [if_neg (by omega), if_neg (by omega), h1]
theorem kcl_inst : ∀ (ci : Nat) (r : vw_C), kcl[ci]? = some r → Cond.instantiable r.1 r.2.2 ∈ TB_
  | 0, _, h => by cases h; exact k_55
  | 1, _, h => by cases h; exact k_142
  | 2, _, h => by cases h; exact k_88
  | 3, _, h => by cases h; exact k_256
  | 4, _, h => by cases h; exact k_110
  | 5, _, h => by cases h; exact k_217
  | 6, _, h => by cases h; exact k_201
  | 7, _, h => by cases h; exact k_47
  | 8, _, h => by cases h; exact k_629
  | k + 9, _, h => by simp [kcl] at h
theorem lw_l {ws : List Cond} (ps : List Nat) (hp : ws = ps.filterMap (fun i => lw_tbl[i]?)) : ∀ w ∈ ws, w ∈ lw_tbl := by
  intro w hw
  rw [hp] at hw
  obtain ⟨i, -, hi⟩ := List.mem_filterMap.mp hw
  exact List.mem_of_getElem? hi
theorem nws_lw : ∀ w ∈ NWS, w ∈ lw_tbl := lw_l [340, 391, 435, 541, 571, 575, 587, 488, 492, 455, 463, 483] (by decide +kernel)
theorem nwc_lw : ∀ w ∈ NWC, w ∈ lw_tbl := lw_l [56, 111, 257] (by decide +kernel)
theorem nws_on : NWS.all (fun w => w.onTables) = true := by decide +kernel
theorem nwc_on : NWC.all (fun w => w.onTables) = true := by decide +kernel
theorem lw_397 : Cond.laysStatic RX8 "NOTHING_MORE" "[I" ∈ lw_tbl := List.mem_of_getElem? (i := 397) (by decide +kernel)
theorem lw_61 : Cond.arrayOver (.array .int) ∈ lw_tbl := List.mem_of_getElem? (i := 61) (by decide +kernel)
theorem lw_498 : Cond.privateMethod yX4_take ∈ lw_tbl := List.mem_of_getElem? (i := 498) (by decide +kernel)
theorem lw_502 : Cond.privateMethod yX4_drop ∈ lw_tbl := List.mem_of_getElem? (i := 502) (by decide +kernel)
theorem tb_lw {w : Cond} (h : w ∈ TB_) : w ∈ lw_tbl ∨ w ∈ ex6 := by
  rcases List.mem_append.mp h with h | h
  · exact Or.inl (List.mem_filter.mp h).1
  · exact Or.inr h
theorem lw_456 : Cond.selects RX1 ⟨RX1, "walkAll", "()V"⟩ yX4_walkAll ∈ lw_tbl := List.mem_of_getElem? (i := 456) (by decide +kernel)
theorem lw_533 : Cond.selects RX6 ⟨RX6, "walkAll", "()V"⟩ yX4_walkAll ∈ lw_tbl := List.mem_of_getElem? (i := 533) (by decide +kernel)
theorem lw_515 : Cond.selects RX7 ⟨RX7, "walkAll", "()V"⟩ yX4_walkAll ∈ lw_tbl := List.mem_of_getElem? (i := 515) (by decide +kernel)
theorem lw_499 : Cond.instanceMethod yX4_take ∈ lw_tbl := List.mem_of_getElem? (i := 499) (by decide +kernel)
theorem lw_503 : Cond.instanceMethod yX4_drop ∈ lw_tbl := List.mem_of_getElem? (i := 503) (by decide +kernel)
theorem tb_all {s : State} {args : Array Value} (hts : ∀ w ∈ lw_tbl, w.before args s = true) : ∀ w ∈ TB_, w.before args s = true := by
  intro w hw
  rcases tb_lw hw with h | h
  · exact hts w h
  · simp only [ex6, List.mem_cons, List.not_mem_nil, or_false] at h
    rcases h with rfl | rfl | rfl | rfl | rfl | rfl
    · exact sel_up (hts _ lw_456) rfl (hts _ lw_498) (hts _ lw_499) ⟨by decide +kernel, by decide +kernel⟩
    · exact sel_up (hts _ lw_456) rfl (hts _ lw_502) (hts _ lw_503) ⟨by decide +kernel, by decide +kernel⟩
    · exact sel_up (hts _ lw_533) rfl (hts _ lw_498) (hts _ lw_499) ⟨by decide +kernel, by decide +kernel⟩
    · exact sel_up (hts _ lw_533) rfl (hts _ lw_502) (hts _ lw_503) ⟨by decide +kernel, by decide +kernel⟩
    · exact sel_up (hts _ lw_515) rfl (hts _ lw_498) (hts _ lw_499) ⟨by decide +kernel, by decide +kernel⟩
    · exact sel_up (hts _ lw_515) rfl (hts _ lw_502) (hts _ lw_503) ⟨by decide +kernel, by decide +kernel⟩
theorem kcl_known {s : State} {args : Array Value} (hTB : ∀ w ∈ TB_, w.before args s = true) : ∃ D : va_G, ∀ (c : Nat) (q : vw_C), kcl[c]? = some q → u_Kn s q.1 q.2.1 q.2.2 (D.1 c) (D.2 c) := by
  have h : ∀ k : Nat, ∃ d : ClassId × (Nat → Nat), ∀ q : vw_C, kcl[k]? = some q → u_Kn s q.1 q.2.1 q.2.2 d.1 d.2 := by
    intro k
    cases hk : kcl[k]? with
    | none => exact ⟨(0, fun _ => 0), fun q hq => by cases hq⟩
    | some r =>
      obtain ⟨cC, iS, hK⟩ := u_known (C := r.1) (T := r.2.1) (N := r.2.2) (n := r.2.2) hTB (kcl_ok k r hk).1 (hTB _ (kcl_inst k r hk))
      exact ⟨(cC, iS), fun q hq => by cases hq; exact hK⟩
  exact ⟨(fun k => (Classical.choose (h k)).1, fun k => (Classical.choose (h k)).2), fun c q hq => Classical.choose_spec (h c) q hq⟩
theorem arr_known {s : State} {args : Array Value} {ty : FieldType} (h : (Cond.arrayClass ty).before args s = true) : ∃ cA : ClassId, ArrOfT s cA ty ∧ s.vm.findClass ("[" ++ ty.toString) = some cA := by
  obtain ⟨c, k, comp, h1, h2, h3⟩ := Cond.arrayClass_spec h
  exact ⟨c, fun n z => ⟨fun k h => (by cases h), k, h2, comp, h3⟩, h1⟩
theorem arr2_known {s : State} {args : Array Value} {ty : FieldType} (h : (Cond.arrayOver (.array ty)).before args s = true) : ∃ cA : ClassId, ArrOfT s cA (.array ty) ∧ s.vm.findClass ("[" ++ (FieldType.array ty).toString) = some cA := by
  obtain ⟨comp, c, k, h1, h4, h2, h3, h5⟩ := Jvm.Stand.arrayOver_specB h
  exact ⟨c, fun n z => ⟨fun k h => (by cases h), k, h2, comp, h3⟩, h5⟩
/-- the static row of noughts stands ahead of the world -/
theorem more_known {s : State} {b : Nat} {A : Nat → Prop} (hgv : (Jvm.Cond.and given_1 narrow_1).before #[Value.ref b] s = true) (hts : ∀ w ∈ lw_tbl, w.before #[Value.ref b] s = true) (hTB : ∀ w ∈ TB_, w.before #[Value.ref b] s = true) (hA : ∀ a : Nat, a < s.heap.size → ¬ A a) : ∃ t : Nat, va_Z RX8 "NOTHING_MORE" "[I" (.ref t) A s s.heap ∧ va_T .int t 10 (fun _ => .int 0) A s s.heap := by
  have hf := flat_of_before _ hgv
  have harr : (Cond.arrayOf (.static "PaperSetter" "NOTHING_MORE" "[I") .int).before #[Value.ref b] s = true := hf _ (by decide +kernel)
  have hlen : (Cond.eq (.length (.static "PaperSetter" "NOTHING_MORE" "[I")) (.int 10)).before #[Value.ref b] s = true := hf _ (by decide +kernel)
  have hel : ∀ j : Nat, j < 10 → (Cond.eq (.elem (.static "PaperSetter" "NOTHING_MORE" "[I") (.int (Int32.ofNat j))) (.int 0)).before #[Value.ref b] s = true := by
    intro j hj
    rcases (by omega : j = 0 ∨ j = 1 ∨ j = 2 ∨ j = 3 ∨ j = 4 ∨ j = 5 ∨ j = 6 ∨ j = 7 ∨ j = 8 ∨ j = 9) with rfl | rfl | rfl | rfl | rfl | rfl | rfl | rfl | rfl | rfl <;> exact hf _ (by decide +kernel)
  obtain ⟨t, ht, hT⟩ := va_Tof (f := fun _ => .int 0) (A := A) (N := 10) (by decide) harr (va_eqt hlen) (fun j hj => va_eqt (hel j hj)) hA
  exact ⟨t, va_Zref (hts _ lw_397) (hTB _ k_33) ht hA, hT⟩
theorem whole_start {p : Program} {e : Env} {s : State} {m : MethodId} {below : List Frame} {meth : Method} {c : Code} (l : Launch) (hflags : l.flags = flags0) {b L : Nat} {xs : Nat → Int32} (hL : L ≤ 3072) (C0 : lw_At p s m meth c b L xs) : W p l e room_1 s m #[Value.ref b] below meth c s.heap [] 0 0 (lw_Z below #[Value.ref b] s) (entryFrame m ([Value.ref b] : List Value).toArray 4) := by
  obtain ⟨hx, hb, hr, hml, hown, hts, hX, hbl, hlocks, hgv⟩ := id C0
  have hTB := tb_all hts
  obtain ⟨D, hD⟩ := kcl_known hTB
  obtain ⟨cI, i1, i2⟩ := arr_known (hTB _ k_86)
  obtain ⟨cZ, z1, z2⟩ := arr_known (hTB _ k_215)
  obtain ⟨cA, a1, a2⟩ := arr2_known (hts _ lw_61)
  obtain ⟨t, hZ, hT⟩ := more_known (A := fun q => s.heap.size ≤ q) hgv hts hTB (fun a ha => Nat.not_le.mpr ha)
  have hbs : bs (l, D, adr s.heap.size b t, (cI, cZ, cA)) = s.heap.size := adr_0 s.heap.size b t
  have hbA : bA (l, D, adr s.heap.size b t, (cI, cZ, cA)) = fun q => s.heap.size ≤ q := by unfold bA; rw [hbs]
  have hEA : EA (l, D, adr s.heap.size b t, (cI, cZ, cA)) := fun i c hc => by
    rw [hbs]
    exact adr_at hc
  have hK : va_K D kcl (tysE (l, D, adr s.heap.size b t, (cI, cZ, cA))) s := by
    refine ⟨hD, fun k q hk => ?_⟩
    match k, hk with
    | 0, hk => cases hk; exact ⟨i1, i2⟩
    | 1, hk => cases hk; exact ⟨z1, z2⟩
    | 2, hk => cases hk; exact ⟨a1, a2⟩
    | k + 3, hk => simp [tysE] at hk
  have hN : ∀ w ∈ NWS, va_Nw w s := fun w hw => va_Nw.of (List.all_eq_true.mp nws_on w hw) (hts w (nws_lw w hw))
  have hNc : ∀ w ∈ NWC, va_Nw w s := fun w hw => va_Nw.of (List.all_eq_true.mp nwc_on w hw) (hts w (nwc_lw w hw))
  have hKx : KxC (l, D, adr s.heap.size b t, (cI, cZ, cA)) s := by
    refine ⟨?_, hNc, arrayOver_alikeB (s := s) (U := s) (Vm.Alike.refl s.vm) (hts _ lw_61), hEA⟩
    rw [hbA]
    exact ⟨hK, hN, hZ, hT, hEA.ej⟩
  have hl := lv_entry ([.ref b]) (n := 4) (Nat.le_of_ble_eq_true rfl)
  rw [lg_entry_eq]
  generalize (lg_sl ([.ref b]) ++ List.replicate (4 - (lg_sl ([.ref b])).length) Slot.unset).toArray = ls at hl ⊢
  have hl : lv_has ls 4 [(0, .ref b)] := hl
  have K := law_ctor (E := (l, D, adr s.heap.size b t, (cI, cZ, cA))) (b := b) (Ls := L) (xs := xs) hL p e s m #[Value.ref b] below meth c s.heap [] ls ⟨hx, hb, hr, hml, hown, hTB, hlocks, hKx, fun h => absurd h (by decide +kernel)⟩ hbs.symm (fun i c _ _ => rfl) hbs.symm (fun i q h => by simp [wsK] at h) va_S.rf hl
  intro T hT X
  obtain ⟨t9, x1, x2⟩ := K T hT X
  exact ⟨t9, x1, x2 ⟨hX, hbl, hbs, rfl⟩⟩
