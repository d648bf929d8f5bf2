/-! THE CONSTRUCTORS: cells come one behind another; a world of the first k of them -/
def bs (E : En) : Nat := E.2.2.1 0 0
def bA (E : En) : Nat → Prop := fun q => bs E ≤ q
def EA (E : En) : Prop := ∀ (i : Nat) (c : Nat × Nat), ac[i]? = some c → E.2.2.1 c.1 c.2 = bs E + i
theorem EA.ej {E : En} (h : EA E) : Ej E := fun i j c d hi hj e => by
  rw [h i c hi, h j d hj] at e
  omega
theorem EA.ra {E : En} (h : EA E) : ∀ q, rA E q → bA E q := by
  rintro q ⟨c, hc, rfl⟩
  obtain ⟨i, hi⟩ := List.getElem?_of_mem hc
  unfold bA
  rw [h i c hi]
  omega
def zr : Nat → Int32 := fun _ => 0
/-- a field that refers to a cell: null, until its number says 1 -/
def fvK (E : En) (r : Nat → Int32) (k : Nat) (f : Option Nat) : Value := match f with
  | some g => if r k = 1 then .ref (E.2.2.1 g 0) else .null
  | none => .int (r k)
def fdsK (E : En) (r : Nat → Int32) (fs : List (Option Nat)) : List Value := fs.mapIdx (fvK E r)
def gentK (E : En) (r : Nat → Int32) (g : Nat) : va_E := match gobj g with
  | some (ci, fs) => .inr (ci, fdsK E r fs)
  | none => gent E r g
theorem gentK_obj {E : En} {r : Nat → Int32} {g ci : Nat} {fs : List (Option Nat)} (h : gobj g = some (ci, fs)) : gentK E r g = .inr (ci, fdsK E r fs) := by unfold gentK; rw [h]
theorem gentK_no {E : En} {r : Nat → Int32} {g : Nat} (h : gobj g = none) : gentK E r g = gent E r g := by unfold gentK; rw [h]
def wsK (E : En) (k : Nat) (mem : Mem) : va_W := (ac.take k).map fun c => (E.2.2.1 c.1 c.2, gentK E (mem c.1 c.2) c.1)
def csz (g : Nat) : Nat := match gobj g with
  | some (_, fs) => fs.length
  | none => match garr g with
    | some (_, n) => n
    | none => match gref g with
      | some (n, _) => n
      | none => 0
def SLn (k : Nat) : Nat := ((ac.take k).map fun c => csz c.1).sum
theorem wsK_at {E : En} {k i : Nat} {mem : Mem} {q : Nat × va_E} (h : (wsK E k mem)[i]? = some q) : i < k ∧ ∃ c, ac[i]? = some c ∧ q = (E.2.2.1 c.1 c.2, gentK E (mem c.1 c.2) c.1) := by
  unfold wsK at h
  rw [List.getElem?_map, List.getElem?_take] at h
  by_cases hi : i < k
  · rw [if_pos hi] at h
    cases hc : ac[i]? with
    | none => rw [hc] at h; cases h
    | some c => rw [hc] at h; exact ⟨hi, c, rfl, (Option.some.inj h).symm⟩
  · rw [if_neg hi] at h; cases h
theorem wsK_in {E : En} {k i : Nat} {mem : Mem} {c : Nat × Nat} (hi : i < k) (hc : ac[i]? = some c) : (wsK E k mem)[i]? = some (E.2.2.1 c.1 c.2, gentK E (mem c.1 c.2) c.1) := by
  unfold wsK
  rw [List.getElem?_map, List.getElem?_take, if_pos hi, hc]
  rfl
theorem wsK_D {E : En} {k : Nat} {mem : Mem} (h : EA E) : va_D (bA E) (wsK E k mem) := by
  refine ⟨fun i j p q hi hj e => ?_, fun i q hi => ?_⟩
  · obtain ⟨-, c, h1, rfl⟩ := wsK_at hi
    obtain ⟨-, d, h2, rfl⟩ := wsK_at hj
    exact h.ej i j c d h1 h2 e
  · obtain ⟨-, c, h1, rfl⟩ := wsK_at hi
    show bs E ≤ E.2.2.1 c.1 c.2
    rw [h i c h1]
    omega
theorem ac_uniq {E : En} (h : EA E) {i j : Nat} {c : Nat × Nat} (hi : ac[i]? = some c) (hj : ac[j]? = some c) : i = j := h.ej i j c c hi hj rfl
theorem wsK_set {E : En} {mem : Mem} {k i g j x : Nat} {v : Int32} {a : Nat} (h : EA E) (hi : i < k) (hk : ac[i]? = some (g, j)) (ha : a = E.2.2.1 g j) : (wsK E k mem).set i (a, gentK E (upd (mem g j) x v) g) = wsK E k (mset mem g j x v) := by
  subst ha
  apply List.ext_getElem?
  intro n
  have hl : i < (wsK E k mem).length := (List.getElem?_eq_some_iff.mp (wsK_in (E := E) (mem := mem) hi hk)).1
  by_cases hn : n = i
  · subst hn
    rw [List.getElem?_set_self hl, wsK_in hi hk]
    show _ = some (E.2.2.1 g j, gentK E (mset mem g j x v g j) g)
    rw [mset_self]
  · rw [List.getElem?_set_ne (Ne.symm hn)]
    unfold wsK
    rw [List.getElem?_map, List.getElem?_map, List.getElem?_take]
    by_cases hnk : n < k
    · rw [if_pos hnk]
      cases hc : ac[n]? with
      | none => rfl
      | some c =>
        obtain ⟨g', j'⟩ := c
        have : ¬ (g' = g ∧ j' = j) := fun q => by
          obtain ⟨rfl, rfl⟩ := q
          exact hn (ac_uniq h hc hk)
        show some (_, gentK E (mem g' j') g') = some (_, gentK E (mset mem g j x v g' j') g')
        rw [mset_ne mem x v this]
    · rw [if_neg hnk]; rfl
theorem fdsK_at {E : En} {r : Nat → Int32} {fs : List (Option Nat)} {k : Nat} {f : Option Nat} (h : fs[k]? = some f) : (fdsK E r fs)[k]? = some (fvK E r k f) := by
  unfold fdsK
  rw [List.getElem?_mapIdx, h]
  rfl
theorem fdsK_set {E : En} {r : Nat → Int32} {fs : List (Option Nat)} {k : Nat} {f : Option Nat} {w : Value} (v : Int32) (h : fs[k]? = some f) (hw : fvK E (upd r k v) k f = w) : (fdsK E r fs).set k w = fdsK E (upd r k v) fs := by
  have hl : k < fs.length := (List.getElem?_eq_some_iff.mp h).1
  apply List.ext_getElem?
  intro n
  by_cases hn : n = k
  · subst hn
    rw [List.getElem?_set_self (by unfold fdsK; rw [List.length_mapIdx]; exact hl), fdsK_at h, hw]
  · rw [List.getElem?_set_ne (Ne.symm hn)]
    unfold fdsK
    rw [List.getElem?_mapIdx, List.getElem?_mapIdx]
    cases hc : fs[n]? with
    | none => rfl
    | some f => cases f with
      | some g => simp [fvK, upd, hn]
      | none => simp [fvK, upd, hn]
def zv (f : Option Nat) : Value := match f with
  | some _ => .null
  | none => .int 0
theorem fdsK_zero (E : En) (fs : List (Option Nat)) : fdsK E zr fs = fs.map zv := by
  apply List.ext_getElem?
  intro n
  unfold fdsK
  rw [List.getElem?_mapIdx, List.getElem?_map]
  cases hc : fs[n]? with
  | none => rfl
  | some f => cases f <;> rfl
/-- cells that haven't come yet hold noughts -/
def Zr (k : Nat) (mem : Mem) : Prop := ∀ (i : Nat) (c : Nat × Nat), k ≤ i → ac[i]? = some c → mem c.1 c.2 = zr
theorem Zr.more {k k' : Nat} {mem : Mem} (h : Zr k mem) (hk : k ≤ k') : Zr k' mem := fun i c hi hc => h i c (by omega) hc
theorem Zr.mset {E : En} {k i g j x : Nat} {v : Int32} {mem : Mem} (hE : EA E) (h : Zr k mem) (hi : i < k) (hk : ac[i]? = some (g, j)) : Zr k (mset mem g j x v) := by
  intro n c hn hc
  rw [mset_ne mem x v (fun q => ?_)]
  · exact h n c hn hc
  · have e : c = (g, j) := Prod.ext q.1 q.2
    subst e
    have := ac_uniq hE hc hk
    omega
theorem wsK_ext {E : En} {D : va_G} {k k' : Nat} {mem : Mem} {H H1 : Heap} (hP : va_P D kcl (wsK E k mem) H) (ho : ∀ q, q < H.size → H1[q]? = H[q]?) (hn : ∀ i c, k ≤ i → i < k' → ac[i]? = some c → va_at D kcl (E.2.2.1 c.1 c.2, gentK E (mem c.1 c.2) c.1) H1) : va_P D kcl (wsK E k' mem) H1 := by
  intro i q hi
  obtain ⟨h1, c, h2, rfl⟩ := wsK_at hi
  by_cases h : i < k
  · have := hP i _ (wsK_in h h2)
    exact this.kept (ho _ this.lt)
  · exact hn i c (by omega) h1 h2
def NWC : List Cond := [.methodLinkNest RX8 11 yX0_init RX8, .methodLinkNest RX8 25 yX5_init RX8, .methodLinkNest RX8 55 yX3_init RX8]
theorem nwc_same {u U : State} (h : u.vm = U.vm) (hZ : ∀ w ∈ NWC, va_Nw w u) : ∀ w ∈ NWC, va_Nw w U := by
  intro w hw
  have h1 := hZ w hw
  simp only [NWC, List.mem_cons, List.not_mem_nil, or_false] at hw
  rcases hw with rfl | rfl | rfl <;> exact va_Nw.same rfl h h1
theorem nwc_warm {s U : State} (hW : s.WarmedH U.vm) (hZ : ∀ w ∈ NWC, va_Nw w s) : ∀ w ∈ NWC, va_Nw w U := by
  intro w hw
  have h1 := hZ w hw
  simp only [NWC, List.mem_cons, List.not_mem_nil, or_false] at hw
  rcases hw with rfl | rfl | rfl <;> exact va_Nw.warmM hW h1
def KxC (E : En) (U : State) : Prop := Kx E (bA E) U ∧ (∀ w ∈ NWC, va_Nw w U) ∧ (Cond.arrayOver (.array .int)).before #[] U = true ∧ EA E
theorem KxC.blind {E : En} {U : State} {g : JFrame} {mk : MethodId} {a : Array Value} (h : KxC E U) : KxC E (U.calling g mk a) := by
  obtain ⟨h1, h2, h3, h4⟩ := h
  exact ⟨h1.blind, nwc_same (u := U) (U := U.calling g mk a) rfl h2, arrayOver_alikeB (s := U) (U := U.calling g mk a) (Vm.Alike.refl U.vm) h3, h4⟩
theorem KxC.call {E : En} {s U : State} {H : Heap} {locs : List Loc} (h : KxC E s) (hS : va_S (bA E) s.heap H locs) (hU : U.heap = H) (hW : s.WarmedH U.vm) : KxC E U := by
  obtain ⟨⟨h1, h2, h3, h4, h5⟩, h6, h7, h8⟩ := h
  subst hU
  exact ⟨⟨va_K.moved hW.alike h1, nws_warm hW h2, va_Z.moved hW.alike (va_Z.kept h3 hS.2.1), va_T.moved hW.alike (va_T.kept h4 hS.2.1), h5⟩, nwc_warm hW h6, arrayOver_alikeB (s := s) (U := U) hW.alike h7, h8⟩
abbrev Xk : Type := Room × Nat × (List Frame → Array Value → State → State → Prop)
def CxK (E : En) (M : MI_) (p : Program) (s : State) (m : MethodId) (args : Array Value) (meth : Method) (c : Code) : Prop :=
  p.tables.exec = Jvm.exec ∧ c.code = M.2.2.1 ∧ meth.sig.returnType = M.2.2.2.2 ∧ c.maxLocals = M.2.2.2.1 ∧ s.vm.findClass M.1 = some m.cls ∧ (∀ w ∈ TB_, w.before args s = true) ∧ meth.locks = false ∧ KxC E s ∧ (M.2.1.name = "<init>" → meth.name = "<init>")
def Wc (E : En) (X : Xk) (M : MI_) (k pc : Nat) (L : List (Option PV)) (st : List PV) (mem : Mem) : Prop :=
  ∀ (p : Program) (e : Env) (s : State) (m : MethodId) (args : Array Value) (below : List Frame) (meth : Method) (c : Code) (H : Heap) (locs : List Loc) (ls : Array Slot), CxK E M p s m args meth c → s.heap.size = bs E + X.2.1 → Zr k mem → H.size = bs E + k → va_P E.2.1 kcl (wsK E k mem) H → va_S (bA E) s.heap H locs → lv_has ls M.2.2.2.1 (lvl E 0 L) →
    W p E.1 e X.1 s m args below meth c H locs (k - X.2.1) (SLn k - SLn X.2.1) (X.2.2 below args s) (F0 m pc ls (st.map (cv E)))
/-- a contract of a constructor: cells k0 to k1 come -/
def rmK (d k0 k1 : Nat) : Room := { frames := d, cells := k1 - k0, slots := SLn k1 - SLn k0, locals := 64 * d }
def QcK (E : En) (k1 : Nat) (Q : Mem → Prop) : Array Value → State → Outcome → State → Prop := fun _ st oc t => (∃ mem : Mem, oc = .returned none ∧ Q mem ∧ Zr k1 mem ∧ t.heap.size = bs E + k1 ∧ va_P E.2.1 kcl (wsK E k1 mem) t.heap) ∧ va_F (bA E) st t
def PcK (E : En) (args : List PV) (k0 : Nat) (mem : Mem) : Array Value → State → Prop := va_Pc (args.map (cv E)) (fun U => Zr k0 mem ∧ U.heap.size = bs E + k0 ∧ va_P E.2.1 kcl (wsK E k0 mem) U.heap ∧ KxC E U)
def CallK (E : En) (d : Nat) (M : MI_) (args : List PV) (k0 k1 : Nat) (mem : Mem) (Q : Mem → Prop) : Prop := Met E.1 M.2.1 (wsM M) (rmK d k0 k1) (PcK E args k0 mem) (QcK E k1 Q) (k1 - k0) (SLn k1 - SLn k0) (bA E)
abbrev xk (E : En) (d k0 k1 : Nat) (Q : Mem → Prop) : Xk := (rmK d k0 k1, k0, fun below args s => MQ below (QcK E k1 Q) args s (k1 - k0) (SLn k1 - SLn k0) (bA E))
theorem CallK.of {E : En} {d n k0 k1 : Nat} {M : MI_} {args : List PV} {mem : Mem} {Q : Mem → Prop} (L : List (Option PV)) (hM : MOK M n) (hL : args.map some ++ List.replicate (M.2.2.2.1 - args.length) none = L) (hle : args.length ≤ M.2.2.2.1) (h : Wc E (xk E d k0 k1 Q) M k0 0 L [] mem) : CallK E d M args k0 k1 mem Q := by
  refine Met.ofW (cc := M.2.2.1) (maxL := M.2.2.2.1) (ret := M.2.2.2.2) hM.1 rfl ?_
  intro p e s m args' below meth c s₁ B hml hv
  obtain ⟨rfl, hZ, hsz, hP, hK⟩ := hv
  have hts := atoms_spec (ws := wsM M) B.pre
  have hown : s.vm.findClass M.2.1.cls = some m.cls := findClass_of_methodNamed B.named
  have hnm : meth.name = M.2.1.name := (name_of_methodNamed B.named B.method).1
  have hl := lv_entry (args.map (cv E)) (n := M.2.2.2.1) (by rw [lg_sl_cv]; exact hle)
  rw [lg_entry_eq]
  generalize (lg_sl (args.map (cv E)) ++ List.replicate (M.2.2.2.1 - (lg_sl (args.map (cv E))).length) Slot.unset).toArray = ls at hl ⊢
  rw [← lvl_args E (M.2.2.2.1 - args.length), hL] at hl
  have := h p e s m (args.map (cv E)).toArray below meth c s.heap [] ls ⟨B.exec, B.bytes, B.returns, hml, by rw [hM.2.1]; exact hown, fun w hw => hts w (List.mem_cons_of_mem _ hw), B.notSynchronized, hK, fun hi => hnm.trans hi⟩ hsz hZ hsz hP va_S.rf hl
  rw [show (xk E d k0 k1 Q).2.1 = k0 from rfl, Nat.sub_self, Nat.sub_self] at this
  exact this
