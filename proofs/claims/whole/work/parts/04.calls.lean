/-! CALLS. A contract of a method over the small machine: its arguments and the world's numbers in, its answer and the world's numbers out. -/
def rmD (d : Nat) : Room := { frames := d, cells := 0, slots := 0, locals := 64 * d }
def rvO (r : Option FieldType) (v : Int32) : Option Value := match r with
  | none => none
  | some _ => some (.int v)
def rvP (r : Option FieldType) (v : Int32) : List PV := match r with
  | none => []
  | some _ => [pI v]
theorem rv_map (E : En) (r : Option FieldType) (v : Int32) (st : List PV) : (rvO r v).toList ++ st.map (cv E) = (rvP r v ++ st).map (cv E) := by cases r <;> rfl
theorem rv_ok (r : Option FieldType) (v : Int32) {st : List PV} (h : ∀ w ∈ st, okv w) : ∀ w ∈ rvP r v ++ st, okv w := by
  cases r with
  | none => exact h
  | some t => exact ok_c trivial h
def QcE (E : En) (M : MI_) (Q : Int32 → Mem → Prop) : Array Value → State → Outcome → State → Prop := fun _ st oc t => (∃ (v : Int32) (mem : Mem), oc = .returned (rvO M.2.2.2.2 v) ∧ Q v mem ∧ va_P E.2.1 kcl (wsE E mem) t.heap) ∧ va_F (rA E) st t
def PcE (E : En) (args : List PV) (mem : Mem) : Array Value → State → Prop := va_Pc (args.map (cv E)) (fun U => va_P E.2.1 kcl (wsE E mem) U.heap ∧ Kx E (rA E) U ∧ ∀ v ∈ args, okv v)
def wsM (M : MI_) : List Cond := Cond.code M.2.1 M.2.2.1 M.2.2.2.1 M.2.2.2.2 :: TB_
def Call (E : En) (d : Nat) (M : MI_) (args : List PV) (mem : Mem) (Q : Int32 → Mem → Prop) : Prop := Met E.1 M.2.1 (wsM M) (rmD d) (PcE E args mem) (QcE E M Q) 0 0 (rA E)
abbrev xm (E : En) (d : Nat) (M : MI_) (Q : Int32 → Mem → Prop) : Xt := (rmD d, 0, 0, fun _ => rA E, fun below args s => MQ below (QcE E M Q) args s 0 0 (rA E))
/-- what is known of a method: its code is in the tables, it takes n arguments beside the receiver -/
def MOK (M : MI_) (n : Nat) : Prop := plainName M.2.1.cls = true ∧ M.1 = M.2.1.cls ∧ Cond.code M.2.1 M.2.2.1 M.2.2.2.1 M.2.2.2.2 ∈ TB_ ∧ Cond.initialized M.2.1.cls ∈ TB_ ∧ (M.2.1.cls ≠ "java/lang/invoke/MethodHandle" ∧ M.2.1.cls ≠ "java/lang/invoke/VarHandle") ∧ (parseMethodDescriptor M.2.1.desc).map (fun d => d.parameters.length) = some n ∧ M.2.2.2.1 ≤ 30
theorem lvl_args (E : En) (k : Nat) : ∀ (i : Nat) (args : List PV), lvl E i (args.map some ++ List.replicate k none) = lv_args i (args.map (cv E))
  | i, [] => by
    have : ∀ (k i : Nat), lvl E i (List.replicate k none) = [] := by
      intro k
      induction k with
      | zero => intro i; rfl
      | succ n ih => intro i; exact ih (i + 1)
    simpa [lv_args] using this k i
  | i, v :: t => by
    show (i, cv E v) :: lvl E (i + 1) (t.map some ++ List.replicate k none) = (i, cv E v) :: lv_args (if (cv E v).category = 2 then i + 2 else i + 1) (t.map (cv E))
    rw [lvl_args E k (i + 1) t, if_neg (by rw [cv_cat]; decide)]
theorem lg_sl_cv (E : En) (args : List PV) : (lg_sl (args.map (cv E))).length = args.length := by
  induction args with
  | nil => rfl
  | cons v t ih =>
    show (lg_sl (cv E v :: t.map (cv E))).length = _
    unfold lg_sl at ih ⊢
    rw [List.flatMap_cons, List.length_append, ih, if_neg (by rw [cv_cat]; decide)]
    simp [Nat.add_comm]
theorem Call.of {E : En} {d n : Nat} {M : MI_} {args : List PV} {mem : Mem} {Q : Int32 → Mem → Prop} (L : List (Option PV)) (hM : MOK M n) (hL : args.map some ++ List.replicate (M.2.2.2.1 - args.length) none = L) (hle : args.length ≤ M.2.2.2.1) (h : (∀ v ∈ args, okv v) → Wp E (xm E d M Q) M 0 L [] mem) : Call E d M args mem Q := by
  refine Met.ofW (cc := M.2.2.1) (maxL := M.2.2.2.1) (ret := M.2.2.2.2) hM.1 rfl ?_
  intro p e s m args' below meth c s₁ B hml hv
  obtain ⟨rfl, hP, hK, hok⟩ := hv
  have hts := atoms_spec (ws := wsM M) B.pre
  have hown : s.vm.findClass M.2.1.cls = some m.cls := findClass_of_methodNamed B.named
  have hl := lv_entry (args.map (cv E)) (n := M.2.2.2.1) (by rw [lg_sl_cv]; exact hle)
  rw [lg_entry_eq]
  generalize (lg_sl (args.map (cv E)) ++ List.replicate (M.2.2.2.1 - (lg_sl (args.map (cv E))).length) Slot.unset).toArray = ls at hl ⊢
  rw [← lvl_args E (M.2.2.2.1 - args.length), hL] at hl
  refine h hok p e s m _ below meth c s.heap [] ls ⟨B.exec, B.bytes, B.returns, hml, by rw [hM.2.1]; exact hown, fun w hw => hts w (List.mem_cons_of_mem _ hw), B.notSynchronized, hK, fun q h => h⟩ hP va_S.rf hl (fun v h => by cases h) (fun v hv => ?_)
  rw [← hL] at hv
  rcases List.mem_append.mp hv with q | q
  · obtain ⟨w, hw, e⟩ := List.mem_map.mp q
    cases e
    exact hok _ hw
  · have := List.eq_of_mem_replicate q
    cases this
section RT
variable {E : En} {d : Nat} {M : MI_} {Q : Int32 → Mem → Prop} {pc q : Nat} {L : List (Option PV)} {st : List PV} {mem : Mem}
theorem r_iret {v : Int32} (hr : M.2.2.2.2 = some .int) (hd : decode M.2.2.1 pc = .ok (.ireturn, 1)) (h : Q v mem) : Wp E (xm E d M Q) M pc L [pI v] mem := by
  intro p e s m args below meth c H locs ls hC hP hS hl h1 h2
  have hlk := hC.2.2.2.2.2.2.1
  exact W.iret hC.1 hC.2.1 (hC.2.2.1.trans hr) (fun t ht _ => ⟨⟨v, mem, by rw [hr]; rfl, h, by rw [ht]; exact hP⟩, hS.F ht⟩) hS.2.2 hd hlk
theorem r_zret {v : Int32} (hv : v = 0 ∨ v = 1) (hr : M.2.2.2.2 = some .boolean) (hd : decode M.2.2.1 pc = .ok (.ireturn, 1)) (h : Q v mem) : Wp E (xm E d M Q) M pc L [pI v] mem := by
  intro p e s m args below meth c H locs ls hC hP hS hl h1 h2
  have hlk := hC.2.2.2.2.2.2.1
  have hn : narrow .boolean (.int v) = .int v := by rcases hv with rfl | rfl <;> decide +kernel
  exact W.zret hC.1 hC.2.1 (hC.2.2.1.trans hr) hn (fun t ht _ => ⟨⟨v, mem, by rw [hr]; rfl, h, by rw [ht]; exact hP⟩, hS.F ht⟩) hS.2.2 hd hlk
theorem r_vret (hr : M.2.2.2.2 = none) (hd : decode M.2.2.1 pc = .ok (.return_, 1)) (h : Q 0 mem) : Wp E (xm E d M Q) M pc L [] mem := by
  intro p e s m args below meth c H locs ls hC hP hS hl h1 h2
  have hlk := hC.2.2.2.2.2.2.1
  exact W.vret hC.1 hC.2.1 (hC.2.2.1.trans hr) (fun t ht _ => ⟨⟨0, mem, by rw [hr]; rfl, h, by rw [ht]; exact hP⟩, hS.F ht⟩) hS.2.2 hd hlk
end RT
section CG
variable {p : Program} {e : Env} {R : Room} {s : State} {m : MethodId} {args : Array Value} {below : List Frame} {meth : Method} {c : Code} {H : Heap} {locs : List Loc} {ce sl : Nat} {Qe : State → Prop} {pc : Nat} {ls : Array Slot} {rest st0 : List Value} {aa : Array Value} {A : Nat → Prop}
theorem call_go {E : En} {M' : MI_} {Q' : Int32 → Mem → Prop} (hr : va_Run p E.1 e R s m args below meth c H locs ce sl 0 0 (F0 m pc ls st0) rest (QcE E M' Q' aa) (rA E)) (hS : va_S A s.heap H locs) (hA : ∀ q, rA E q → A q)
    (kk : ∀ (v : Int32) (mem' : Mem) (H1 : Heap) (locs1 : List Loc), Q' v mem' → va_P E.2.1 kcl (wsE E mem') H1 → va_S A s.heap H1 locs1 → W p E.1 e R s m args below meth c H1 locs1 ce sl Qe (F0 m (pc + 3) ls ((rvO M'.2.2.2.2 v).toList ++ rest))) : W p E.1 e R s m args below meth c H locs ce sl Qe (F0 m pc ls st0) := by
  intro T hT X
  obtain ⟨v, st₀, t, T', L, h0, X', hL, e1, e2, ⟨⟨r, u, hv, hp, hb⟩, hz, hk⟩, st⟩ := hr T hT X
  have hv : v = rvO M'.2.2.2.2 r := by injection hv
  subst hv
  rw [h0] at hz hk
  obtain ⟨t2, a1, b1⟩ := kk r u T'.heap (locs ++ L) hp (by rw [e1]; exact hb)
    ⟨Nat.le_trans hS.1 (by rw [e1]; exact hz), fun q h1 h2 => by rw [e1, hk q (Nat.lt_of_lt_of_le h1 hS.1) (fun z => h2 (hA q z))]; exact hS.2.1 q h1 h2, fun q hq => by
      rcases List.mem_append.mp hq with h | h
      · exact hS.2.2 q h
      · exact hA _ (hL q h)⟩ T' rfl X'
  exact ⟨t2, st t2 a1, b1⟩
end CG
/-- the room that a call of depth d leaves -/
def RmOK (d : Nat) (X : Xt) : Prop := d + 1 ≤ X.1.frames ∧ 64 * d + 64 ≤ X.1.locals ∧ X.2.1 ≤ X.1.cells ∧ X.2.2.1 ≤ X.1.slots
theorem rm_xm {E : En} {d : Nat} {M : MI_} {Q : Int32 → Mem → Prop} : RmOK d (xm E (d + 1) M Q) := ⟨Nat.le_refl _, by show 64 * d + 64 ≤ 64 * (d + 1); omega, Nat.le_refl _, Nat.le_refl _⟩
theorem cat_sum (E : En) (st : List PV) : ((st.map (cv E)).map fun v => v.category).sum = st.length := by
  induction st with
  | nil => rfl
  | cons v t ih =>
    rw [List.map_cons, List.map_cons, List.sum_cons, ih, cv_cat, List.length_cons]
    omega
theorem PcE_blind (E : En) (args : List PV) (mem : Mem) : FrameBlind (PcE E args mem) := by
  intro a U g mk h
  obtain ⟨h1, h2, h3, h4⟩ := h
  exact ⟨h1, h2, h3.blind, h4⟩
theorem wsM_in {M : MI_} {n : Nat} (hM : MOK M n) : ∀ w ∈ wsM M, w ∈ TB_ := by
  intro w hw
  rcases List.mem_cons.mp hw with rfl | h
  · exact hM.2.2.1
  · exact h
section RC
variable {E : En} {X : Xt} {M M' : MI_} {d pc q n idx : Nat} {L : List (Option PV)} {st : List PV} {mem : Mem}
theorem map_rev (E : En) (As : List PV) (v : PV) (st : List PV) : (As.reverse ++ v :: st).map (cv E) = (As.map (cv E)).reverse ++ cv E v :: st.map (cv E) := by
  rw [List.map_append, List.map_reverse, List.map_cons]
theorem map_rev0 (E : En) (As : List PV) (st : List PV) : (As.reverse ++ st).map (cv E) = (As.map (cv E)).reverse ++ st.map (cv E) := by
  rw [List.map_append, List.map_reverse]
theorem rm_hR (hM : MOK M' n) (hR : RmOK d X) : (rmD d).frames + 1 ≤ X.1.frames ∧ 8 + (M'.2.2.2.1 + 11) + (rmD d).locals ≤ X.1.locals := by
  refine ⟨hR.1, ?_⟩
  have h1 := hM.2.2.2.2.2.2
  have h2 := hR.2.1
  show 8 + (M'.2.2.2.1 + 11) + 64 * d ≤ _
  omega
/-- an instance method that the receiver's own class declares -/
theorem g_callV {g j ci : Nat} {fs : List (Option Nat)} {r : vw_C} {As : List PV} (hM : MOK M' n) (hI : Cond.instanceMethod M'.2.1 ∈ TB_ ∧ Cond.selects M'.2.1.cls M'.2.1 M'.2.1 ∈ TB_) (hlk : Cond.methodLink M.1 idx M'.2.1 ∈ TB_) (hg : gobj g = some (ci, fs)) (hc : kcl[ci]? = some r) (hcl : r.1 = M'.2.1.cls) (hn : As.length = n) (hst : st.length ≤ 8) (hR : RmOK d X) (hd : decode M.2.2.1 pc = .ok (.invokevirtual idx, 3)) (hq : pc + 3 = q)
    (hk : Call E d M' (pR g j :: As) mem (fun v mem' => Wp E X M q L (rvP M'.2.2.2.2 v ++ st) mem')) : Wp E X M pc L (As.reverse ++ pR g j :: st) mem := by
  subst hq
  intro p e s m args below meth c H locs ls hC hP hS hl h1 h2
  have hts := hC.2.2.2.2.2.1
  have hok : ∀ v ∈ pR g j :: As, okv v := by
    intro v hv
    apply h1 v
    rcases List.mem_cons.mp hv with rfl | h
    · exact List.mem_append_right _ List.mem_cons_self
    · exact List.mem_append_left _ (List.mem_reverse.mpr h)
  have hrest : ∀ v ∈ st, okv v := fun v hv => h1 v (List.mem_append_right _ (List.mem_cons_of_mem _ hv))
  obtain ⟨k0, hk0, hw⟩ := wsE_place E mem (gobj_lt hg) (hok _ List.mem_cons_self (gobj_lt hg))
  rw [gent_obj hg] at hw
  have hKx := hC.2.2.2.2.2.2.2.1
  have hA := hC.2.2.2.2.2.2.2.2
  have hrec := va_recv hKx.1 hP hc hw
  rw [hcl] at hrec
  have hG : GoodIn TB_ (wsV M.1 idx M'.2.1.cls M'.2.1 (wsM M')) := tb_good (fun w hw => by
    unfold wsV at hw
    rcases List.mem_append.mp hw with h | h
    · simp only [List.mem_cons, List.not_mem_nil, or_false] at h
      rcases h with rfl | rfl | rfl | rfl
      · exact hlk
      · exact hI.1
      · exact hI.2
      · exact hM.2.2.2.1
    · exact wsM_in hM w h)
  rw [map_rev]
  refine call_go (M' := M') (A := X.2.2.2.1 s) (va_runV (mc := 0) (ms := 0) (As := As.map (cv E)) (rest := st.map (cv E)) ⟨hC.1, hC.2.1, hC.2.2.2.1, hC.2.2.2.2.1, hts⟩ hk (cwV n hts hG rfl rfl rfl ⟨rfl, hM.2.2.2.2.1.1, hM.2.2.2.2.1.2, hM.2.2.2.2.2.1⟩ (rm_hR hM hR)) ⟨PcE_blind E _ mem, hrec, fun U hU hW => ⟨rfl, by rw [hU]; exact hP, hKx.call hS hA hU hW, hok⟩⟩ rfl (by rw [List.length_map]; exact hn) hl.1 rfl (lv_room (by rw [cat_sum]; exact hst)) hd ⟨hR.2.2.1, hR.2.2.2⟩) hS hA (fun v mem' H1 locs1 hQ hP1 hS1 => ?_)
  rw [rv_map]
  exact hQ p e s m args below meth c H1 locs1 ls hC hP1 hS1 hl (rv_ok _ v hrest) h2
/-- an inherited, an overriding or an abstract method: the receiver's class selects it -/
theorem g_callU {g j ci : Nat} {fs : List (Option Nat)} {r : vw_C} {As : List PV} {x : MethodName} {owner : String} (hM : MOK M' n) (hI : Cond.instanceMethod M'.2.1 ∈ TB_) (hsel : Cond.selects r.1 x M'.2.1 ∈ TB_) (hsm : Cond.sameMethod x.cls owner x.name x.desc ∈ TB_) (hdc : M'.2.1 = ⟨owner, x.name, x.desc⟩ ∨ Cond.declares ⟨owner, x.name, x.desc⟩ ∈ NWS) (how : owner ≠ "java/lang/invoke/MethodHandle" ∧ owner ≠ "java/lang/invoke/VarHandle" ∧ (parseMethodDescriptor x.desc).map (fun d => d.parameters.length) = some n) (hlk : Cond.methodLink M.1 idx x ∈ TB_) (hg : gobj g = some (ci, fs)) (hc : kcl[ci]? = some r) (hn : As.length = n) (hst : st.length ≤ 8) (hR : RmOK d X) (hd : decode M.2.2.1 pc = .ok (.invokevirtual idx, 3)) (hq : pc + 3 = q)
    (hk : Call E d M' (pR g j :: As) mem (fun v mem' => Wp E X M q L (rvP M'.2.2.2.2 v ++ st) mem')) : Wp E X M pc L (As.reverse ++ pR g j :: st) mem := by
  subst hq
  intro p e s m args below meth c H locs ls hC hP hS hl h1 h2
  have hts := hC.2.2.2.2.2.1
  have hok : ∀ v ∈ pR g j :: As, okv v := by
    intro v hv
    apply h1 v
    rcases List.mem_cons.mp hv with rfl | h
    · exact List.mem_append_right _ List.mem_cons_self
    · exact List.mem_append_left _ (List.mem_reverse.mpr h)
  have hrest : ∀ v ∈ st, okv v := fun v hv => h1 v (List.mem_append_right _ (List.mem_cons_of_mem _ hv))
  obtain ⟨k0, hk0, hw⟩ := wsE_place E mem (gobj_lt hg) (hok _ List.mem_cons_self (gobj_lt hg))
  rw [gent_obj hg] at hw
  have hKx := hC.2.2.2.2.2.2.2.1
  have hA := hC.2.2.2.2.2.2.2.2
  have hrec := va_recv hKx.1 hP hc hw
  have hG : GoodIn TB_ (va_wsU M.1 idx r.1 owner x M'.2.1 (wsM M')) := tb_good (fun w hw => by
    unfold va_wsU at hw
    rcases List.mem_append.mp hw with h | h
    · simp only [List.mem_cons, List.not_mem_nil, or_false] at h
      rcases h with rfl | rfl | rfl | rfl | rfl
      · exact hlk
      · exact hsm
      · exact hsel
      · exact hI
      · exact hM.2.2.2.1
    · exact wsM_in hM w h)
  have hcu : va_CU X.1 s args M.1 r.1 owner idx x M'.2.1 M'.2.2.1 M'.2.2.2.1 M'.2.2.2.2 (wsM M') (rmD d) 0 0 n := by
    rcases hdc with h | h
    · exact va_cwU n hts hG rfl rfl rfl h how (rm_hR hM hR)
    · exact va_cwA n hts hG rfl rfl rfl (hKx.2.1 _ h) how (rm_hR hM hR)
  rw [map_rev]
  refine call_go (M' := M') (A := X.2.2.2.1 s) (va_runU (mc := 0) (ms := 0) (As := As.map (cv E)) (rest := st.map (cv E)) ⟨hC.1, hC.2.1, hC.2.2.2.1, hC.2.2.2.2.1, hts⟩ hk hcu ⟨PcE_blind E _ mem, hrec, fun U hU hW => ⟨rfl, by rw [hU]; exact hP, hKx.call hS hA hU hW, hok⟩⟩ rfl (by rw [List.length_map]; exact hn) hl.1 rfl (lv_room (by rw [cat_sum]; exact hst)) hd ⟨hR.2.2.1, hR.2.2.2⟩) hS hA (fun v mem' H1 locs1 hQ hP1 hS1 => ?_)
  rw [rv_map]
  exact hQ p e s m args below meth c H1 locs1 ls hC hP1 hS1 hl (rv_ok _ v hrest) h2
theorem ok_As {As : List PV} (h1 : ∀ v ∈ As.reverse ++ st, okv v) : ∀ v ∈ As, okv v := fun v hv => h1 v (List.mem_append_left _ (List.mem_reverse.mpr hv))
/-- a static method -/
theorem g_callS {As : List PV} (hM : MOK M' n) (hI : Cond.static M'.2.1 ∈ TB_) (hlk : Cond.methodLink M.1 idx M'.2.1 ∈ TB_) (hn : As.length = n) (hst : st.length ≤ 8) (hR : RmOK d X) (hd : decode M.2.2.1 pc = .ok (.invokestatic idx, 3)) (hq : pc + 3 = q)
    (hk : Call E d M' As mem (fun v mem' => Wp E X M q L (rvP M'.2.2.2.2 v ++ st) mem')) : Wp E X M pc L (As.reverse ++ st) mem := by
  subst hq
  intro p e s m args below meth c H locs ls hC hP hS hl h1 h2
  have hts := hC.2.2.2.2.2.1
  have hrest : ∀ v ∈ st, okv v := fun v hv => h1 v (List.mem_append_right _ hv)
  have hKx := hC.2.2.2.2.2.2.2.1
  have hA := hC.2.2.2.2.2.2.2.2
  have hG : GoodIn TB_ (va_wsS M.1 idx M'.2.1 (wsM M')) := tb_good (fun w hw => by
    unfold va_wsS at hw
    rcases List.mem_append.mp hw with h | h
    · simp only [List.mem_cons, List.not_mem_nil, or_false] at h
      rcases h with rfl | rfl | rfl
      · exact hlk
      · exact hI
      · exact hM.2.2.2.1
    · exact wsM_in hM w h)
  rw [map_rev0]
  refine call_go (M' := M') (A := X.2.2.2.1 s) (va_runS (mc := 0) (ms := 0) (As := As.map (cv E)) (rest := st.map (cv E)) ⟨hC.1, hC.2.1, hC.2.2.2.1, hC.2.2.2.2.1, hts⟩ hk (va_cwS n hts hG rfl rfl rfl ⟨hM.2.2.2.2.1.1, hM.2.2.2.2.1.2, hM.2.2.2.2.2.1⟩ (rm_hR hM hR)) ⟨PcE_blind E _ mem, fun U hU hW => ⟨rfl, by rw [hU]; exact hP, hKx.call hS hA hU hW, ok_As h1⟩⟩ rfl (by rw [List.length_map]; exact hn) hl.1 rfl (lv_room (by rw [cat_sum]; exact hst)) hd ⟨hR.2.2.1, hR.2.2.2⟩) hS hA (fun v mem' H1 locs1 hQ hP1 hS1 => ?_)
  rw [rv_map]
  exact hQ p e s m args below meth c H1 locs1 ls hC hP1 hS1 hl (rv_ok _ v hrest) h2
/-- a private static method of the nest's host -/
theorem g_callN {As : List PV} (hM : MOK M' n) (hI : Cond.static M'.2.1 ∈ TB_) (hlk : Cond.methodLinkNest M.1 idx M'.2.1 RX8 ∈ NWS) (hn : As.length = n) (hst : st.length ≤ 8) (hR : RmOK d X) (hd : decode M.2.2.1 pc = .ok (.invokestatic idx, 3)) (hq : pc + 3 = q)
    (hk : Call E d M' As mem (fun v mem' => Wp E X M q L (rvP M'.2.2.2.2 v ++ st) mem')) : Wp E X M pc L (As.reverse ++ st) mem := by
  subst hq
  intro p e s m args below meth c H locs ls hC hP hS hl h1 h2
  have hts := hC.2.2.2.2.2.1
  have hrest : ∀ v ∈ st, okv v := fun v hv => h1 v (List.mem_append_right _ hv)
  have hKx := hC.2.2.2.2.2.2.2.1
  have hA := hC.2.2.2.2.2.2.2.2
  rw [map_rev0]
  refine call_go (M' := M') (A := X.2.2.2.1 s) (va_runSN (mc := 0) (ms := 0) (As := As.map (cv E)) (rest := st.map (cv E)) ⟨hC.1, hC.2.1, hC.2.2.2.1, hC.2.2.2.2.1, hts⟩ hk ⟨va_cnB n hts (tb_good (wsM_in hM)) rfl rfl rfl (hKx.2.1 _ hlk) (hts _ hM.2.2.2.1) ⟨hM.2.2.2.2.1.1, hM.2.2.2.2.1.2, hM.2.2.2.2.2.1⟩ (rm_hR hM hR), hts _ hI, trivial⟩ ⟨PcE_blind E _ mem, fun U hU hW => ⟨rfl, by rw [hU]; exact hP, hKx.call hS hA hU hW, ok_As h1⟩⟩ rfl (by rw [List.length_map]; exact hn) hl.1 rfl (lv_room (by rw [cat_sum]; exact hst)) hd ⟨hR.2.2.1, hR.2.2.2⟩) hS hA (fun v mem' H1 locs1 hQ hP1 hS1 => ?_)
  rw [rv_map]
  exact hQ p e s m args below meth c H1 locs1 ls hC hP1 hS1 hl (rv_ok _ v hrest) h2
theorem sum_le (E : En) (hst : st.length ≤ 8) (hR : RmOK 0 X) : (((st.map (cv E)).map fun v => v.category).sum + 13 ≤ X.1.locals) := by
  rw [cat_sum]
  have := hR.2.1
  omega
theorem r_mmax {x y : Int32} (hlk : Cond.methodLink M.1 idx Lib.Math.max.name ∈ TB_) (hs : Cond.static Lib.Math.max.name ∈ TB_) (hi : Cond.initialized "java/lang/Math" ∈ TB_) (hco : Cond.code Lib.Math.max.name Lib.Math.max.code 2 (some .int) ∈ TB_) (hst : st.length ≤ 8) (hR : RmOK 0 X) (hd : decode M.2.2.1 pc = .ok (.invokestatic idx, 3)) (hq : pc + 3 = q) (k : Wp E X M q L (pI (if x < y then y else x) :: st) mem) : Wp E X M pc L (pI y :: pI x :: st) mem := by
  subst hq
  intro p e s m args below meth c H locs ls hC hP hS hl h1 h2
  have hts := hC.2.2.2.2.2.1
  exact va_mmax hC.1 hC.2.1 (hC.2.2.2.1.trans hl.1.symm) hC.2.2.2.2.1 (hts _ hlk) (hts _ hs) (hts _ hi) (hts _ hco) hR.1 (sum_le E hst hR) hR.2.2.1 hR.2.2.2 hd (k p e s m args below meth c H locs ls hC hP hS hl (ok_c trivial (ok_t (ok_t h1))) h2)
theorem r_mmin {x y : Int32} (hlk : Cond.methodLink M.1 idx Lib.Math.min.name ∈ TB_) (hs : Cond.static Lib.Math.min.name ∈ TB_) (hi : Cond.initialized "java/lang/Math" ∈ TB_) (hco : Cond.code Lib.Math.min.name Lib.Math.min.code 2 (some .int) ∈ TB_) (hst : st.length ≤ 8) (hR : RmOK 0 X) (hd : decode M.2.2.1 pc = .ok (.invokestatic idx, 3)) (hq : pc + 3 = q) (k : Wp E X M q L (pI (if y < x then y else x) :: st) mem) : Wp E X M pc L (pI y :: pI x :: st) mem := by
  subst hq
  intro p e s m args below meth c H locs ls hC hP hS hl h1 h2
  have hts := hC.2.2.2.2.2.1
  exact va_mmin hC.1 hC.2.1 (hC.2.2.2.1.trans hl.1.symm) hC.2.2.2.2.1 (hts _ hlk) (hts _ hs) (hts _ hi) (hts _ hco) hR.1 (sum_le E hst hR) hR.2.2.1 hR.2.2.2 hd (k p e s m args below meth c H locs ls hC hP hS hl (ok_c trivial (ok_t (ok_t h1))) h2)
theorem r_mabs {x : Int32} (hlk : Cond.methodLink M.1 idx Lib.Math.abs.name ∈ TB_) (hs : Cond.static Lib.Math.abs.name ∈ TB_) (hi : Cond.initialized "java/lang/Math" ∈ TB_) (hco : Cond.code Lib.Math.abs.name Lib.Math.abs.code 1 (some .int) ∈ TB_) (hst : st.length ≤ 8) (hR : RmOK 0 X) (hd : decode M.2.2.1 pc = .ok (.invokestatic idx, 3)) (hq : pc + 3 = q) (k : Wp E X M q L (pI (if 0 ≤ x then x else 0 - x) :: st) mem) : Wp E X M pc L (pI x :: st) mem := by
  subst hq
  intro p e s m args below meth c H locs ls hC hP hS hl h1 h2
  have hts := hC.2.2.2.2.2.1
  exact va_mabs hC.1 hC.2.1 (hC.2.2.2.1.trans hl.1.symm) hC.2.2.2.2.1 (hts _ hlk) (hts _ hs) (hts _ hi) (hts _ hco) hR.1 (sum_le E hst hR) hR.2.2.1 hR.2.2.2 hd (k p e s m args below meth c H locs ls hC hP hS hl (ok_c trivial (ok_t h1)) h2)

theorem r_callV0i {ty : FieldType} {g j ci : Nat} {fs : List (Option Nat)} {r : vw_C} (hM : MOK M' 0) (hI : Cond.instanceMethod M'.2.1 ∈ TB_ ∧ Cond.selects M'.2.1.cls M'.2.1 M'.2.1 ∈ TB_) (hlk : Cond.methodLink M.1 idx M'.2.1 ∈ TB_) (hg : gobj g = some (ci, fs)) (hc : kcl[ci]? = some r) (hcl : r.1 = M'.2.1.cls) (hret : M'.2.2.2.2 = some ty) (hst : st.length ≤ 8) (hR : RmOK d X) (hd : decode M.2.2.1 pc = .ok (.invokevirtual idx, 3)) (hq : pc + 3 = q) (hk : Call E d M' [pR g j] mem (fun v mem' => Wp E X M q L (pI v :: st) mem')) : Wp E X M pc L (pR g j :: st) mem := g_callV (As := []) hM hI hlk hg hc hcl rfl hst hR hd hq (by rw [hret]; exact hk)
theorem r_callU0i {ty : FieldType} {g j ci : Nat} {fs : List (Option Nat)} {r : vw_C} {x : MethodName} {owner : String} (hM : MOK M' 0) (hI : Cond.instanceMethod M'.2.1 ∈ TB_) (hsel : Cond.selects r.1 x M'.2.1 ∈ TB_) (hsm : Cond.sameMethod x.cls owner x.name x.desc ∈ TB_) (hdc : M'.2.1 = ⟨owner, x.name, x.desc⟩ ∨ Cond.declares ⟨owner, x.name, x.desc⟩ ∈ NWS) (how : owner ≠ "java/lang/invoke/MethodHandle" ∧ owner ≠ "java/lang/invoke/VarHandle" ∧ (parseMethodDescriptor x.desc).map (fun d => d.parameters.length) = some 0) (hlk : Cond.methodLink M.1 idx x ∈ TB_) (hg : gobj g = some (ci, fs)) (hc : kcl[ci]? = some r) (hret : M'.2.2.2.2 = some ty) (hst : st.length ≤ 8) (hR : RmOK d X) (hd : decode M.2.2.1 pc = .ok (.invokevirtual idx, 3)) (hq : pc + 3 = q) (hk : Call E d M' [pR g j] mem (fun v mem' => Wp E X M q L (pI v :: st) mem')) : Wp E X M pc L (pR g j :: st) mem := g_callU (As := []) hM hI hsel hsm hdc how hlk hg hc rfl hst hR hd hq (by rw [hret]; exact hk)
theorem r_callV0v {g j ci : Nat} {fs : List (Option Nat)} {r : vw_C} (hM : MOK M' 0) (hI : Cond.instanceMethod M'.2.1 ∈ TB_ ∧ Cond.selects M'.2.1.cls M'.2.1 M'.2.1 ∈ TB_) (hlk : Cond.methodLink M.1 idx M'.2.1 ∈ TB_) (hg : gobj g = some (ci, fs)) (hc : kcl[ci]? = some r) (hcl : r.1 = M'.2.1.cls) (hret : M'.2.2.2.2 = none) (hst : st.length ≤ 8) (hR : RmOK d X) (hd : decode M.2.2.1 pc = .ok (.invokevirtual idx, 3)) (hq : pc + 3 = q) (hk : Call E d M' [pR g j] mem (fun v mem' => Wp E X M q L (st) mem')) : Wp E X M pc L (pR g j :: st) mem := g_callV (As := []) hM hI hlk hg hc hcl rfl hst hR hd hq (by rw [hret]; exact hk)
theorem r_callU0v {g j ci : Nat} {fs : List (Option Nat)} {r : vw_C} {x : MethodName} {owner : String} (hM : MOK M' 0) (hI : Cond.instanceMethod M'.2.1 ∈ TB_) (hsel : Cond.selects r.1 x M'.2.1 ∈ TB_) (hsm : Cond.sameMethod x.cls owner x.name x.desc ∈ TB_) (hdc : M'.2.1 = ⟨owner, x.name, x.desc⟩ ∨ Cond.declares ⟨owner, x.name, x.desc⟩ ∈ NWS) (how : owner ≠ "java/lang/invoke/MethodHandle" ∧ owner ≠ "java/lang/invoke/VarHandle" ∧ (parseMethodDescriptor x.desc).map (fun d => d.parameters.length) = some 0) (hlk : Cond.methodLink M.1 idx x ∈ TB_) (hg : gobj g = some (ci, fs)) (hc : kcl[ci]? = some r) (hret : M'.2.2.2.2 = none) (hst : st.length ≤ 8) (hR : RmOK d X) (hd : decode M.2.2.1 pc = .ok (.invokevirtual idx, 3)) (hq : pc + 3 = q) (hk : Call E d M' [pR g j] mem (fun v mem' => Wp E X M q L (st) mem')) : Wp E X M pc L (pR g j :: st) mem := g_callU (As := []) hM hI hsel hsm hdc how hlk hg hc rfl hst hR hd hq (by rw [hret]; exact hk)
theorem r_callV1i {a0 : PV} {ty : FieldType} {g j ci : Nat} {fs : List (Option Nat)} {r : vw_C} (hM : MOK M' 1) (hI : Cond.instanceMethod M'.2.1 ∈ TB_ ∧ Cond.selects M'.2.1.cls M'.2.1 M'.2.1 ∈ TB_) (hlk : Cond.methodLink M.1 idx M'.2.1 ∈ TB_) (hg : gobj g = some (ci, fs)) (hc : kcl[ci]? = some r) (hcl : r.1 = M'.2.1.cls) (hret : M'.2.2.2.2 = some ty) (hst : st.length ≤ 8) (hR : RmOK d X) (hd : decode M.2.2.1 pc = .ok (.invokevirtual idx, 3)) (hq : pc + 3 = q) (hk : Call E d M' [pR g j, a0] mem (fun v mem' => Wp E X M q L (pI v :: st) mem')) : Wp E X M pc L (a0 :: pR g j :: st) mem := g_callV (As := [a0]) hM hI hlk hg hc hcl rfl hst hR hd hq (by rw [hret]; exact hk)
theorem r_callU1i {a0 : PV} {ty : FieldType} {g j ci : Nat} {fs : List (Option Nat)} {r : vw_C} {x : MethodName} {owner : String} (hM : MOK M' 1) (hI : Cond.instanceMethod M'.2.1 ∈ TB_) (hsel : Cond.selects r.1 x M'.2.1 ∈ TB_) (hsm : Cond.sameMethod x.cls owner x.name x.desc ∈ TB_) (hdc : M'.2.1 = ⟨owner, x.name, x.desc⟩ ∨ Cond.declares ⟨owner, x.name, x.desc⟩ ∈ NWS) (how : owner ≠ "java/lang/invoke/MethodHandle" ∧ owner ≠ "java/lang/invoke/VarHandle" ∧ (parseMethodDescriptor x.desc).map (fun d => d.parameters.length) = some 1) (hlk : Cond.methodLink M.1 idx x ∈ TB_) (hg : gobj g = some (ci, fs)) (hc : kcl[ci]? = some r) (hret : M'.2.2.2.2 = some ty) (hst : st.length ≤ 8) (hR : RmOK d X) (hd : decode M.2.2.1 pc = .ok (.invokevirtual idx, 3)) (hq : pc + 3 = q) (hk : Call E d M' [pR g j, a0] mem (fun v mem' => Wp E X M q L (pI v :: st) mem')) : Wp E X M pc L (a0 :: pR g j :: st) mem := g_callU (As := [a0]) hM hI hsel hsm hdc how hlk hg hc rfl hst hR hd hq (by rw [hret]; exact hk)
theorem r_callS1i {a0 : PV} {ty : FieldType} (hM : MOK M' 1) (hI : Cond.static M'.2.1 ∈ TB_) (hlk : Cond.methodLink M.1 idx M'.2.1 ∈ TB_) (hret : M'.2.2.2.2 = some ty) (hst : st.length ≤ 8) (hR : RmOK d X) (hd : decode M.2.2.1 pc = .ok (.invokestatic idx, 3)) (hq : pc + 3 = q) (hk : Call E d M' [a0] mem (fun v mem' => Wp E X M q L (pI v :: st) mem')) : Wp E X M pc L (a0 :: st) mem := g_callS (As := [a0]) hM hI hlk rfl hst hR hd hq (by rw [hret]; exact hk)
theorem r_callN1i {a0 : PV} {ty : FieldType} (hM : MOK M' 1) (hI : Cond.static M'.2.1 ∈ TB_) (hlk : Cond.methodLinkNest M.1 idx M'.2.1 RX8 ∈ NWS) (hret : M'.2.2.2.2 = some ty) (hst : st.length ≤ 8) (hR : RmOK d X) (hd : decode M.2.2.1 pc = .ok (.invokestatic idx, 3)) (hq : pc + 3 = q) (hk : Call E d M' [a0] mem (fun v mem' => Wp E X M q L (pI v :: st) mem')) : Wp E X M pc L (a0 :: st) mem := g_callN (As := [a0]) hM hI hlk rfl hst hR hd hq (by rw [hret]; exact hk)
theorem r_callV1v {a0 : PV} {g j ci : Nat} {fs : List (Option Nat)} {r : vw_C} (hM : MOK M' 1) (hI : Cond.instanceMethod M'.2.1 ∈ TB_ ∧ Cond.selects M'.2.1.cls M'.2.1 M'.2.1 ∈ TB_) (hlk : Cond.methodLink M.1 idx M'.2.1 ∈ TB_) (hg : gobj g = some (ci, fs)) (hc : kcl[ci]? = some r) (hcl : r.1 = M'.2.1.cls) (hret : M'.2.2.2.2 = none) (hst : st.length ≤ 8) (hR : RmOK d X) (hd : decode M.2.2.1 pc = .ok (.invokevirtual idx, 3)) (hq : pc + 3 = q) (hk : Call E d M' [pR g j, a0] mem (fun v mem' => Wp E X M q L (st) mem')) : Wp E X M pc L (a0 :: pR g j :: st) mem := g_callV (As := [a0]) hM hI hlk hg hc hcl rfl hst hR hd hq (by rw [hret]; exact hk)
theorem r_callU1v {a0 : PV} {g j ci : Nat} {fs : List (Option Nat)} {r : vw_C} {x : MethodName} {owner : String} (hM : MOK M' 1) (hI : Cond.instanceMethod M'.2.1 ∈ TB_) (hsel : Cond.selects r.1 x M'.2.1 ∈ TB_) (hsm : Cond.sameMethod x.cls owner x.name x.desc ∈ TB_) (hdc : M'.2.1 = ⟨owner, x.name, x.desc⟩ ∨ Cond.declares ⟨owner, x.name, x.desc⟩ ∈ NWS) (how : owner ≠ "java/lang/invoke/MethodHandle" ∧ owner ≠ "java/lang/invoke/VarHandle" ∧ (parseMethodDescriptor x.desc).map (fun d => d.parameters.length) = some 1) (hlk : Cond.methodLink M.1 idx x ∈ TB_) (hg : gobj g = some (ci, fs)) (hc : kcl[ci]? = some r) (hret : M'.2.2.2.2 = none) (hst : st.length ≤ 8) (hR : RmOK d X) (hd : decode M.2.2.1 pc = .ok (.invokevirtual idx, 3)) (hq : pc + 3 = q) (hk : Call E d M' [pR g j, a0] mem (fun v mem' => Wp E X M q L (st) mem')) : Wp E X M pc L (a0 :: pR g j :: st) mem := g_callU (As := [a0]) hM hI hsel hsm hdc how hlk hg hc rfl hst hR hd hq (by rw [hret]; exact hk)
theorem r_callS1v {a0 : PV} (hM : MOK M' 1) (hI : Cond.static M'.2.1 ∈ TB_) (hlk : Cond.methodLink M.1 idx M'.2.1 ∈ TB_) (hret : M'.2.2.2.2 = none) (hst : st.length ≤ 8) (hR : RmOK d X) (hd : decode M.2.2.1 pc = .ok (.invokestatic idx, 3)) (hq : pc + 3 = q) (hk : Call E d M' [a0] mem (fun v mem' => Wp E X M q L (st) mem')) : Wp E X M pc L (a0 :: st) mem := g_callS (As := [a0]) hM hI hlk rfl hst hR hd hq (by rw [hret]; exact hk)
theorem r_callN1v {a0 : PV} (hM : MOK M' 1) (hI : Cond.static M'.2.1 ∈ TB_) (hlk : Cond.methodLinkNest M.1 idx M'.2.1 RX8 ∈ NWS) (hret : M'.2.2.2.2 = none) (hst : st.length ≤ 8) (hR : RmOK d X) (hd : decode M.2.2.1 pc = .ok (.invokestatic idx, 3)) (hq : pc + 3 = q) (hk : Call E d M' [a0] mem (fun v mem' => Wp E X M q L (st) mem')) : Wp E X M pc L (a0 :: st) mem := g_callN (As := [a0]) hM hI hlk rfl hst hR hd hq (by rw [hret]; exact hk)
theorem r_callV2i {a0 a1 : PV} {ty : FieldType} {g j ci : Nat} {fs : List (Option Nat)} {r : vw_C} (hM : MOK M' 2) (hI : Cond.instanceMethod M'.2.1 ∈ TB_ ∧ Cond.selects M'.2.1.cls M'.2.1 M'.2.1 ∈ TB_) (hlk : Cond.methodLink M.1 idx M'.2.1 ∈ TB_) (hg : gobj g = some (ci, fs)) (hc : kcl[ci]? = some r) (hcl : r.1 = M'.2.1.cls) (hret : M'.2.2.2.2 = some ty) (hst : st.length ≤ 8) (hR : RmOK d X) (hd : decode M.2.2.1 pc = .ok (.invokevirtual idx, 3)) (hq : pc + 3 = q) (hk : Call E d M' [pR g j, a0, a1] mem (fun v mem' => Wp E X M q L (pI v :: st) mem')) : Wp E X M pc L (a1 :: a0 :: pR g j :: st) mem := g_callV (As := [a0, a1]) hM hI hlk hg hc hcl rfl hst hR hd hq (by rw [hret]; exact hk)
theorem r_callS2i {a0 a1 : PV} {ty : FieldType} (hM : MOK M' 2) (hI : Cond.static M'.2.1 ∈ TB_) (hlk : Cond.methodLink M.1 idx M'.2.1 ∈ TB_) (hret : M'.2.2.2.2 = some ty) (hst : st.length ≤ 8) (hR : RmOK d X) (hd : decode M.2.2.1 pc = .ok (.invokestatic idx, 3)) (hq : pc + 3 = q) (hk : Call E d M' [a0, a1] mem (fun v mem' => Wp E X M q L (pI v :: st) mem')) : Wp E X M pc L (a1 :: a0 :: st) mem := g_callS (As := [a0, a1]) hM hI hlk rfl hst hR hd hq (by rw [hret]; exact hk)
theorem r_callN2i {a0 a1 : PV} {ty : FieldType} (hM : MOK M' 2) (hI : Cond.static M'.2.1 ∈ TB_) (hlk : Cond.methodLinkNest M.1 idx M'.2.1 RX8 ∈ NWS) (hret : M'.2.2.2.2 = some ty) (hst : st.length ≤ 8) (hR : RmOK d X) (hd : decode M.2.2.1 pc = .ok (.invokestatic idx, 3)) (hq : pc + 3 = q) (hk : Call E d M' [a0, a1] mem (fun v mem' => Wp E X M q L (pI v :: st) mem')) : Wp E X M pc L (a1 :: a0 :: st) mem := g_callN (As := [a0, a1]) hM hI hlk rfl hst hR hd hq (by rw [hret]; exact hk)
theorem r_callV2v {a0 a1 : PV} {g j ci : Nat} {fs : List (Option Nat)} {r : vw_C} (hM : MOK M' 2) (hI : Cond.instanceMethod M'.2.1 ∈ TB_ ∧ Cond.selects M'.2.1.cls M'.2.1 M'.2.1 ∈ TB_) (hlk : Cond.methodLink M.1 idx M'.2.1 ∈ TB_) (hg : gobj g = some (ci, fs)) (hc : kcl[ci]? = some r) (hcl : r.1 = M'.2.1.cls) (hret : M'.2.2.2.2 = none) (hst : st.length ≤ 8) (hR : RmOK d X) (hd : decode M.2.2.1 pc = .ok (.invokevirtual idx, 3)) (hq : pc + 3 = q) (hk : Call E d M' [pR g j, a0, a1] mem (fun v mem' => Wp E X M q L (st) mem')) : Wp E X M pc L (a1 :: a0 :: pR g j :: st) mem := g_callV (As := [a0, a1]) hM hI hlk hg hc hcl rfl hst hR hd hq (by rw [hret]; exact hk)
theorem r_callS2v {a0 a1 : PV} (hM : MOK M' 2) (hI : Cond.static M'.2.1 ∈ TB_) (hlk : Cond.methodLink M.1 idx M'.2.1 ∈ TB_) (hret : M'.2.2.2.2 = none) (hst : st.length ≤ 8) (hR : RmOK d X) (hd : decode M.2.2.1 pc = .ok (.invokestatic idx, 3)) (hq : pc + 3 = q) (hk : Call E d M' [a0, a1] mem (fun v mem' => Wp E X M q L (st) mem')) : Wp E X M pc L (a1 :: a0 :: st) mem := g_callS (As := [a0, a1]) hM hI hlk rfl hst hR hd hq (by rw [hret]; exact hk)
theorem r_callN2v {a0 a1 : PV} (hM : MOK M' 2) (hI : Cond.static M'.2.1 ∈ TB_) (hlk : Cond.methodLinkNest M.1 idx M'.2.1 RX8 ∈ NWS) (hret : M'.2.2.2.2 = none) (hst : st.length ≤ 8) (hR : RmOK d X) (hd : decode M.2.2.1 pc = .ok (.invokestatic idx, 3)) (hq : pc + 3 = q) (hk : Call E d M' [a0, a1] mem (fun v mem' => Wp E X M q L (st) mem')) : Wp E X M pc L (a1 :: a0 :: st) mem := g_callN (As := [a0, a1]) hM hI hlk rfl hst hR hd hq (by rw [hret]; exact hk)
theorem r_callV3i {a0 a1 a2 : PV} {ty : FieldType} {g j ci : Nat} {fs : List (Option Nat)} {r : vw_C} (hM : MOK M' 3) (hI : Cond.instanceMethod M'.2.1 ∈ TB_ ∧ Cond.selects M'.2.1.cls M'.2.1 M'.2.1 ∈ TB_) (hlk : Cond.methodLink M.1 idx M'.2.1 ∈ TB_) (hg : gobj g = some (ci, fs)) (hc : kcl[ci]? = some r) (hcl : r.1 = M'.2.1.cls) (hret : M'.2.2.2.2 = some ty) (hst : st.length ≤ 8) (hR : RmOK d X) (hd : decode M.2.2.1 pc = .ok (.invokevirtual idx, 3)) (hq : pc + 3 = q) (hk : Call E d M' [pR g j, a0, a1, a2] mem (fun v mem' => Wp E X M q L (pI v :: st) mem')) : Wp E X M pc L (a2 :: a1 :: a0 :: pR g j :: st) mem := g_callV (As := [a0, a1, a2]) hM hI hlk hg hc hcl rfl hst hR hd hq (by rw [hret]; exact hk)
theorem r_callS3i {a0 a1 a2 : PV} {ty : FieldType} (hM : MOK M' 3) (hI : Cond.static M'.2.1 ∈ TB_) (hlk : Cond.methodLink M.1 idx M'.2.1 ∈ TB_) (hret : M'.2.2.2.2 = some ty) (hst : st.length ≤ 8) (hR : RmOK d X) (hd : decode M.2.2.1 pc = .ok (.invokestatic idx, 3)) (hq : pc + 3 = q) (hk : Call E d M' [a0, a1, a2] mem (fun v mem' => Wp E X M q L (pI v :: st) mem')) : Wp E X M pc L (a2 :: a1 :: a0 :: st) mem := g_callS (As := [a0, a1, a2]) hM hI hlk rfl hst hR hd hq (by rw [hret]; exact hk)
theorem r_callN3i {a0 a1 a2 : PV} {ty : FieldType} (hM : MOK M' 3) (hI : Cond.static M'.2.1 ∈ TB_) (hlk : Cond.methodLinkNest M.1 idx M'.2.1 RX8 ∈ NWS) (hret : M'.2.2.2.2 = some ty) (hst : st.length ≤ 8) (hR : RmOK d X) (hd : decode M.2.2.1 pc = .ok (.invokestatic idx, 3)) (hq : pc + 3 = q) (hk : Call E d M' [a0, a1, a2] mem (fun v mem' => Wp E X M q L (pI v :: st) mem')) : Wp E X M pc L (a2 :: a1 :: a0 :: st) mem := g_callN (As := [a0, a1, a2]) hM hI hlk rfl hst hR hd hq (by rw [hret]; exact hk)
theorem r_callV3v {a0 a1 a2 : PV} {g j ci : Nat} {fs : List (Option Nat)} {r : vw_C} (hM : MOK M' 3) (hI : Cond.instanceMethod M'.2.1 ∈ TB_ ∧ Cond.selects M'.2.1.cls M'.2.1 M'.2.1 ∈ TB_) (hlk : Cond.methodLink M.1 idx M'.2.1 ∈ TB_) (hg : gobj g = some (ci, fs)) (hc : kcl[ci]? = some r) (hcl : r.1 = M'.2.1.cls) (hret : M'.2.2.2.2 = none) (hst : st.length ≤ 8) (hR : RmOK d X) (hd : decode M.2.2.1 pc = .ok (.invokevirtual idx, 3)) (hq : pc + 3 = q) (hk : Call E d M' [pR g j, a0, a1, a2] mem (fun v mem' => Wp E X M q L (st) mem')) : Wp E X M pc L (a2 :: a1 :: a0 :: pR g j :: st) mem := g_callV (As := [a0, a1, a2]) hM hI hlk hg hc hcl rfl hst hR hd hq (by rw [hret]; exact hk)
theorem r_callS3v {a0 a1 a2 : PV} (hM : MOK M' 3) (hI : Cond.static M'.2.1 ∈ TB_) (hlk : Cond.methodLink M.1 idx M'.2.1 ∈ TB_) (hret : M'.2.2.2.2 = none) (hst : st.length ≤ 8) (hR : RmOK d X) (hd : decode M.2.2.1 pc = .ok (.invokestatic idx, 3)) (hq : pc + 3 = q) (hk : Call E d M' [a0, a1, a2] mem (fun v mem' => Wp E X M q L (st) mem')) : Wp E X M pc L (a2 :: a1 :: a0 :: st) mem := g_callS (As := [a0, a1, a2]) hM hI hlk rfl hst hR hd hq (by rw [hret]; exact hk)
theorem r_callN3v {a0 a1 a2 : PV} (hM : MOK M' 3) (hI : Cond.static M'.2.1 ∈ TB_) (hlk : Cond.methodLinkNest M.1 idx M'.2.1 RX8 ∈ NWS) (hret : M'.2.2.2.2 = none) (hst : st.length ≤ 8) (hR : RmOK d X) (hd : decode M.2.2.1 pc = .ok (.invokestatic idx, 3)) (hq : pc + 3 = q) (hk : Call E d M' [a0, a1, a2] mem (fun v mem' => Wp E X M q L (st) mem')) : Wp E X M pc L (a2 :: a1 :: a0 :: st) mem := g_callN (As := [a0, a1, a2]) hM hI hlk rfl hst hR hd hq (by rw [hret]; exact hk)
theorem r_callV4i {a0 a1 a2 a3 : PV} {ty : FieldType} {g j ci : Nat} {fs : List (Option Nat)} {r : vw_C} (hM : MOK M' 4) (hI : Cond.instanceMethod M'.2.1 ∈ TB_ ∧ Cond.selects M'.2.1.cls M'.2.1 M'.2.1 ∈ TB_) (hlk : Cond.methodLink M.1 idx M'.2.1 ∈ TB_) (hg : gobj g = some (ci, fs)) (hc : kcl[ci]? = some r) (hcl : r.1 = M'.2.1.cls) (hret : M'.2.2.2.2 = some ty) (hst : st.length ≤ 8) (hR : RmOK d X) (hd : decode M.2.2.1 pc = .ok (.invokevirtual idx, 3)) (hq : pc + 3 = q) (hk : Call E d M' [pR g j, a0, a1, a2, a3] mem (fun v mem' => Wp E X M q L (pI v :: st) mem')) : Wp E X M pc L (a3 :: a2 :: a1 :: a0 :: pR g j :: st) mem := g_callV (As := [a0, a1, a2, a3]) hM hI hlk hg hc hcl rfl hst hR hd hq (by rw [hret]; exact hk)
theorem r_callS4i {a0 a1 a2 a3 : PV} {ty : FieldType} (hM : MOK M' 4) (hI : Cond.static M'.2.1 ∈ TB_) (hlk : Cond.methodLink M.1 idx M'.2.1 ∈ TB_) (hret : M'.2.2.2.2 = some ty) (hst : st.length ≤ 8) (hR : RmOK d X) (hd : decode M.2.2.1 pc = .ok (.invokestatic idx, 3)) (hq : pc + 3 = q) (hk : Call E d M' [a0, a1, a2, a3] mem (fun v mem' => Wp E X M q L (pI v :: st) mem')) : Wp E X M pc L (a3 :: a2 :: a1 :: a0 :: st) mem := g_callS (As := [a0, a1, a2, a3]) hM hI hlk rfl hst hR hd hq (by rw [hret]; exact hk)
theorem r_callN4i {a0 a1 a2 a3 : PV} {ty : FieldType} (hM : MOK M' 4) (hI : Cond.static M'.2.1 ∈ TB_) (hlk : Cond.methodLinkNest M.1 idx M'.2.1 RX8 ∈ NWS) (hret : M'.2.2.2.2 = some ty) (hst : st.length ≤ 8) (hR : RmOK d X) (hd : decode M.2.2.1 pc = .ok (.invokestatic idx, 3)) (hq : pc + 3 = q) (hk : Call E d M' [a0, a1, a2, a3] mem (fun v mem' => Wp E X M q L (pI v :: st) mem')) : Wp E X M pc L (a3 :: a2 :: a1 :: a0 :: st) mem := g_callN (As := [a0, a1, a2, a3]) hM hI hlk rfl hst hR hd hq (by rw [hret]; exact hk)
theorem r_callV4v {a0 a1 a2 a3 : PV} {g j ci : Nat} {fs : List (Option Nat)} {r : vw_C} (hM : MOK M' 4) (hI : Cond.instanceMethod M'.2.1 ∈ TB_ ∧ Cond.selects M'.2.1.cls M'.2.1 M'.2.1 ∈ TB_) (hlk : Cond.methodLink M.1 idx M'.2.1 ∈ TB_) (hg : gobj g = some (ci, fs)) (hc : kcl[ci]? = some r) (hcl : r.1 = M'.2.1.cls) (hret : M'.2.2.2.2 = none) (hst : st.length ≤ 8) (hR : RmOK d X) (hd : decode M.2.2.1 pc = .ok (.invokevirtual idx, 3)) (hq : pc + 3 = q) (hk : Call E d M' [pR g j, a0, a1, a2, a3] mem (fun v mem' => Wp E X M q L (st) mem')) : Wp E X M pc L (a3 :: a2 :: a1 :: a0 :: pR g j :: st) mem := g_callV (As := [a0, a1, a2, a3]) hM hI hlk hg hc hcl rfl hst hR hd hq (by rw [hret]; exact hk)
theorem r_callS4v {a0 a1 a2 a3 : PV} (hM : MOK M' 4) (hI : Cond.static M'.2.1 ∈ TB_) (hlk : Cond.methodLink M.1 idx M'.2.1 ∈ TB_) (hret : M'.2.2.2.2 = none) (hst : st.length ≤ 8) (hR : RmOK d X) (hd : decode M.2.2.1 pc = .ok (.invokestatic idx, 3)) (hq : pc + 3 = q) (hk : Call E d M' [a0, a1, a2, a3] mem (fun v mem' => Wp E X M q L (st) mem')) : Wp E X M pc L (a3 :: a2 :: a1 :: a0 :: st) mem := g_callS (As := [a0, a1, a2, a3]) hM hI hlk rfl hst hR hd hq (by rw [hret]; exact hk)
theorem r_callN4v {a0 a1 a2 a3 : PV} (hM : MOK M' 4) (hI : Cond.static M'.2.1 ∈ TB_) (hlk : Cond.methodLinkNest M.1 idx M'.2.1 RX8 ∈ NWS) (hret : M'.2.2.2.2 = none) (hst : st.length ≤ 8) (hR : RmOK d X) (hd : decode M.2.2.1 pc = .ok (.invokestatic idx, 3)) (hq : pc + 3 = q) (hk : Call E d M' [a0, a1, a2, a3] mem (fun v mem' => Wp E X M q L (st) mem')) : Wp E X M pc L (a3 :: a2 :: a1 :: a0 :: st) mem := g_callN (As := [a0, a1, a2, a3]) hM hI hlk rfl hst hR hd hq (by rw [hret]; exact hk)
theorem r_callV5i {a0 a1 a2 a3 a4 : PV} {ty : FieldType} {g j ci : Nat} {fs : List (Option Nat)} {r : vw_C} (hM : MOK M' 5) (hI : Cond.instanceMethod M'.2.1 ∈ TB_ ∧ Cond.selects M'.2.1.cls M'.2.1 M'.2.1 ∈ TB_) (hlk : Cond.methodLink M.1 idx M'.2.1 ∈ TB_) (hg : gobj g = some (ci, fs)) (hc : kcl[ci]? = some r) (hcl : r.1 = M'.2.1.cls) (hret : M'.2.2.2.2 = some ty) (hst : st.length ≤ 8) (hR : RmOK d X) (hd : decode M.2.2.1 pc = .ok (.invokevirtual idx, 3)) (hq : pc + 3 = q) (hk : Call E d M' [pR g j, a0, a1, a2, a3, a4] mem (fun v mem' => Wp E X M q L (pI v :: st) mem')) : Wp E X M pc L (a4 :: a3 :: a2 :: a1 :: a0 :: pR g j :: st) mem := g_callV (As := [a0, a1, a2, a3, a4]) hM hI hlk hg hc hcl rfl hst hR hd hq (by rw [hret]; exact hk)
theorem r_callS5i {a0 a1 a2 a3 a4 : PV} {ty : FieldType} (hM : MOK M' 5) (hI : Cond.static M'.2.1 ∈ TB_) (hlk : Cond.methodLink M.1 idx M'.2.1 ∈ TB_) (hret : M'.2.2.2.2 = some ty) (hst : st.length ≤ 8) (hR : RmOK d X) (hd : decode M.2.2.1 pc = .ok (.invokestatic idx, 3)) (hq : pc + 3 = q) (hk : Call E d M' [a0, a1, a2, a3, a4] mem (fun v mem' => Wp E X M q L (pI v :: st) mem')) : Wp E X M pc L (a4 :: a3 :: a2 :: a1 :: a0 :: st) mem := g_callS (As := [a0, a1, a2, a3, a4]) hM hI hlk rfl hst hR hd hq (by rw [hret]; exact hk)
theorem r_callN5i {a0 a1 a2 a3 a4 : PV} {ty : FieldType} (hM : MOK M' 5) (hI : Cond.static M'.2.1 ∈ TB_) (hlk : Cond.methodLinkNest M.1 idx M'.2.1 RX8 ∈ NWS) (hret : M'.2.2.2.2 = some ty) (hst : st.length ≤ 8) (hR : RmOK d X) (hd : decode M.2.2.1 pc = .ok (.invokestatic idx, 3)) (hq : pc + 3 = q) (hk : Call E d M' [a0, a1, a2, a3, a4] mem (fun v mem' => Wp E X M q L (pI v :: st) mem')) : Wp E X M pc L (a4 :: a3 :: a2 :: a1 :: a0 :: st) mem := g_callN (As := [a0, a1, a2, a3, a4]) hM hI hlk rfl hst hR hd hq (by rw [hret]; exact hk)
theorem r_callV5v {a0 a1 a2 a3 a4 : PV} {g j ci : Nat} {fs : List (Option Nat)} {r : vw_C} (hM : MOK M' 5) (hI : Cond.instanceMethod M'.2.1 ∈ TB_ ∧ Cond.selects M'.2.1.cls M'.2.1 M'.2.1 ∈ TB_) (hlk : Cond.methodLink M.1 idx M'.2.1 ∈ TB_) (hg : gobj g = some (ci, fs)) (hc : kcl[ci]? = some r) (hcl : r.1 = M'.2.1.cls) (hret : M'.2.2.2.2 = none) (hst : st.length ≤ 8) (hR : RmOK d X) (hd : decode M.2.2.1 pc = .ok (.invokevirtual idx, 3)) (hq : pc + 3 = q) (hk : Call E d M' [pR g j, a0, a1, a2, a3, a4] mem (fun v mem' => Wp E X M q L (st) mem')) : Wp E X M pc L (a4 :: a3 :: a2 :: a1 :: a0 :: pR g j :: st) mem := g_callV (As := [a0, a1, a2, a3, a4]) hM hI hlk hg hc hcl rfl hst hR hd hq (by rw [hret]; exact hk)
theorem r_callS5v {a0 a1 a2 a3 a4 : PV} (hM : MOK M' 5) (hI : Cond.static M'.2.1 ∈ TB_) (hlk : Cond.methodLink M.1 idx M'.2.1 ∈ TB_) (hret : M'.2.2.2.2 = none) (hst : st.length ≤ 8) (hR : RmOK d X) (hd : decode M.2.2.1 pc = .ok (.invokestatic idx, 3)) (hq : pc + 3 = q) (hk : Call E d M' [a0, a1, a2, a3, a4] mem (fun v mem' => Wp E X M q L (st) mem')) : Wp E X M pc L (a4 :: a3 :: a2 :: a1 :: a0 :: st) mem := g_callS (As := [a0, a1, a2, a3, a4]) hM hI hlk rfl hst hR hd hq (by rw [hret]; exact hk)
theorem r_callN5v {a0 a1 a2 a3 a4 : PV} (hM : MOK M' 5) (hI : Cond.static M'.2.1 ∈ TB_) (hlk : Cond.methodLinkNest M.1 idx M'.2.1 RX8 ∈ NWS) (hret : M'.2.2.2.2 = none) (hst : st.length ≤ 8) (hR : RmOK d X) (hd : decode M.2.2.1 pc = .ok (.invokestatic idx, 3)) (hq : pc + 3 = q) (hk : Call E d M' [a0, a1, a2, a3, a4] mem (fun v mem' => Wp E X M q L (st) mem')) : Wp E X M pc L (a4 :: a3 :: a2 :: a1 :: a0 :: st) mem := g_callN (As := [a0, a1, a2, a3, a4]) hM hI hlk rfl hst hR hd hq (by rw [hret]; exact hk)
end RC
