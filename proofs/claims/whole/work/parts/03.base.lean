/-! THE SMALL MACHINE. The world of this claim has a fixed shape: one object of each class, its arrays, and rows of arrays of arrays. A cell is (group, place); the changing part of the world is a number for each (group, place, slot). -/
abbrev PV : Type := Int32 ⊕ (Nat × Nat)
abbrev pI (v : Int32) : PV := .inl v
abbrev pR (g j : Nat) : PV := .inr (g, j)
abbrev Mem : Type := Nat → Nat → Nat → Int32
abbrev En : Type := Launch × va_G × (Nat → Nat → Nat) × (ClassId × ClassId × ClassId)
/-- objects: class, and for each field the group that it refers to, or none where it is a number -/
def gobjT : List (Option (Nat × List (Option Nat))) := [
  some (7, [some 1, some 5, some 9, some 16, some 18, some 21, some 27, some 35, none]),
  some (0, [some 2, some 4, none, none, none]), none, none, none,
  some (2, [some 6, some 7, some 8]), none, none, none,
  some (4, [some 10, some 11, some 12, some 14, none]), none, none, none, none, none, none,
  some (1, [some 9, some 5, some 17, none, none, none, none, none]), none,
  some (6, [some 9, some 5, some 19, none, none, some 20]), none, none,
  some (5, [some 9, some 5, some 22, none, none, some 23, some 24, some 25, some 26, none, none, none, none]), none, none, none, none, none,
  some (3, [some 28, some 29, some 30, some 31, some 33, none, some 34, none, none, none]), none, none, none, none, none, none, none, none,
  some (8, [none, none, none, some 37, some 38, some 39, some 40, some 41, some 42, some 43, some 44, some 45, some 46, some 47, none, some 48, some 49, some 50, some 51, some 52, some 53, some 54, none, none, none, none, some 55, some 56, some 57, some 58]),
  none, none, none, none, none, none, none, none, none, none, none, none, none, none, none, none, none, none, none, none, none, none]
/-- arrays of numbers: whether of booleans, and the length -/
def garrT : List (Option (Bool × Nat)) := [
  none, none, none, some (false, 7), some (false, 24), none, some (false, 10), some (false, 10), some (false, 4), none,
  some (false, 16), some (false, 16), none, some (false, 10), none, some (false, 10), none, some (false, 10), none, some (false, 10),
  some (true, 1024), none, some (false, 10), some (false, 1024), some (false, 1024), some (false, 1024), some (false, 1024), none, some (false, 8), some (false, 8),
  some (false, 8), none, some (false, 8), some (false, 2048), some (false, 24), some (false, 10), none, some (false, 24), some (false, 24), some (false, 24),
  some (false, 24), some (false, 24), some (false, 24), some (false, 24), some (false, 24), some (false, 10), some (false, 10), some (false, 4), some (false, 16), some (false, 655360),
  some (true, 65536), some (false, 65536), some (false, 16), some (false, 16), some (true, 1024), some (false, 24), some (false, 8), some (false, 24), some (false, 24)]
/-- arrays of arrays: the length, and the group of the rows -/
def grefT : List (Option (Nat × Nat)) := [
  none, none, some (24, 3), none, none, none, none, none, none, none,
  none, none, some (16, 13), none, some (17, 15), none, none, none, none, none,
  none, none, none, none, none, none, none, none, none, none,
  none, some (8, 32), none, none, none, none, none, none, none, none,
  none, none, none, none, none, none, none, none, none, none,
  none, none, none, none, none, none, none, none, none]
def gobj (g : Nat) : Option (Nat × List (Option Nat)) := gobjT.getD g none
def garr (g : Nat) : Option (Bool × Nat) := garrT.getD g none
def gref (g : Nat) : Option (Nat × Nat) := grefT.getD g none
/-- how many cells a group has -/
def gcnt (g : Nat) : Nat := if g = 3 then 24 else if g = 13 then 16 else if g = 15 then 17 else if g = 32 then 8 else 1
theorem gobjT_len : gobjT.length = 59 := by decide +kernel
theorem garrT_len : garrT.length = 59 := by decide +kernel
theorem grefT_len : grefT.length = 59 := by decide +kernel
theorem getD_lt {α : Type} {l : List (Option α)} {g : Nat} {x : α} (h : l.getD g none = some x) : g < l.length := by
  rcases Nat.lt_or_ge g l.length with q | q
  · exact q
  · rw [List.getD_eq_getElem?_getD, List.getElem?_eq_none q] at h
    cases h
theorem gobj_lt {g : Nat} {x : Nat × List (Option Nat)} (h : gobj g = some x) : g < 59 := gobjT_len ▸ getD_lt h
theorem garr_lt {g : Nat} {x : Bool × Nat} (h : garr g = some x) : g < 59 := garrT_len ▸ getD_lt h
theorem gref_lt {g : Nat} {x : Nat × Nat} (h : gref g = some x) : g < 59 := grefT_len ▸ getD_lt h
theorem gone_all : (List.range 59).all (fun g => (gobj g).isNone || (garr g).isNone) = true := by decide +kernel
theorem gone_all2 : (List.range 59).all (fun g => (gobj g).isNone || (gref g).isNone) = true := by decide +kernel
theorem gone_all3 : (List.range 59).all (fun g => (garr g).isNone || (gref g).isNone) = true := by decide +kernel
theorem garr_no {g : Nat} {x : Bool × Nat} (h : garr g = some x) : gobj g = none := by
  have := List.all_eq_true.mp gone_all g (List.mem_range.mpr (garr_lt h))
  rw [h] at this
  simpa using this
theorem gref_no {g : Nat} {x : Nat × Nat} (h : gref g = some x) : gobj g = none ∧ garr g = none := by
  have h1 := List.all_eq_true.mp gone_all2 g (List.mem_range.mpr (gref_lt h))
  have h2 := List.all_eq_true.mp gone_all3 g (List.mem_range.mpr (gref_lt h))
  rw [h] at h1 h2
  exact ⟨by simpa using h1, by simpa using h2⟩
/-- every group that a field refers to has a cell 0; the rows of an array of arrays are there -/
theorem gfs_all : gobjT.all (fun o => match o with | some (_, fs) => fs.all (fun f => match f with | some _ => true | none => true) | none => true) = true := by decide +kernel
theorem gcnt_pos (g : Nat) : 0 < gcnt g := by
  unfold gcnt
  repeat' split
  all_goals omega
theorem gref_cnt : (List.range 59).all (fun g => match gref g with | some (n, t) => gcnt t == n | none => true) = true := by decide +kernel
theorem gref_rows {g n t : Nat} (h : gref g = some (n, t)) : gcnt t = n := by
  have h1 := List.all_eq_true.mp gref_cnt g (List.mem_range.mpr (gref_lt h))
  rw [h] at h1
  simpa using h1
def fvE (E : En) (r : Nat → Int32) (k : Nat) (f : Option Nat) : Value := match f with
  | some g => .ref (E.2.2.1 g 0)
  | none => .int (r k)
def fdsE (E : En) (r : Nat → Int32) (fs : List (Option Nat)) : List Value := fs.mapIdx (fvE E r)
def gent (E : En) (r : Nat → Int32) (g : Nat) : va_E := match gobj g with
  | some (ci, fs) => .inr (ci, fdsE E r fs)
  | none => match garr g with
    | some (z, n) => .inl (if z then E.2.2.2.2.1 else E.2.2.2.1, n, .inl r)
    | none => match gref g with
      | some (n, t) => .inl (E.2.2.2.2.2, n, .inr (.inr (.inr (.inr (fun i => if i < n then some (E.2.2.1 t i) else none)))))
      | none => .inr (0, [])
theorem gent_obj {E : En} {r : Nat → Int32} {g ci : Nat} {fs : List (Option Nat)} (h : gobj g = some (ci, fs)) : gent E r g = .inr (ci, fdsE E r fs) := by unfold gent; rw [h]
theorem gent_arr {E : En} {r : Nat → Int32} {g n : Nat} {z : Bool} (h : garr g = some (z, n)) : gent E r g = .inl (if z then E.2.2.2.2.1 else E.2.2.2.1, n, .inl r) := by unfold gent; rw [garr_no h]; dsimp only; rw [h]
theorem gent_ref {E : En} {r : Nat → Int32} {g n t : Nat} (h : gref g = some (n, t)) : gent E r g = .inl (E.2.2.2.2.2, n, .inr (.inr (.inr (.inr (fun i => if i < n then some (E.2.2.1 t i) else none))))) := by unfold gent; rw [(gref_no h).1, (gref_no h).2]; dsimp only; rw [h]
def ac : List (Nat × Nat) := (List.range 59).flatMap fun g => (List.range (gcnt g)).map fun j => (g, j)
theorem ac_mem {g j : Nat} (hg : g < 59) (hj : j < gcnt g) : (g, j) ∈ ac := List.mem_flatMap.mpr ⟨g, List.mem_range.mpr hg, List.mem_map.mpr ⟨j, List.mem_range.mpr hj, rfl⟩⟩
def wsE (E : En) (mem : Mem) : va_W := ac.map fun c => (E.2.2.1 c.1 c.2, gent E (mem c.1 c.2) c.1)
def rA (E : En) : Nat → Prop := fun q => ∃ c : Nat × Nat, c ∈ ac ∧ q = E.2.2.1 c.1 c.2
def Ej (E : En) : Prop := ∀ (i j : Nat) (c d : Nat × Nat), ac[i]? = some c → ac[j]? = some d → E.2.2.1 c.1 c.2 = E.2.2.1 d.1 d.2 → i = j
theorem wsE_at {E : En} {mem : Mem} {k : Nat} {q : Nat × va_E} (h : (wsE E mem)[k]? = some q) : ∃ c : Nat × Nat, ac[k]? = some c ∧ q = (E.2.2.1 c.1 c.2, gent E (mem c.1 c.2) c.1) := by
  unfold wsE at h
  rw [List.getElem?_map] at h
  cases hc : ac[k]? with
  | none => rw [hc] at h; cases h
  | some c => rw [hc] at h; exact ⟨c, rfl, (Option.some.inj h).symm⟩
theorem wsE_D {E : En} {mem : Mem} {A : Nat → Prop} (hj : Ej E) (hA : ∀ q, rA E q → A q) : va_D A (wsE E mem) := by
  refine ⟨fun i j p q hi hj' e => ?_, fun k q hk => ?_⟩
  · obtain ⟨c, h1, rfl⟩ := wsE_at hi
    obtain ⟨d, h2, rfl⟩ := wsE_at hj'
    exact hj i j c d h1 h2 e
  · obtain ⟨c, h1, rfl⟩ := wsE_at hk
    exact hA _ ⟨c, List.mem_of_getElem? h1, rfl⟩
theorem wsE_place (E : En) (mem : Mem) {g j : Nat} (hg : g < 59) (hj : j < gcnt g) : ∃ k : Nat, ac[k]? = some (g, j) ∧ (wsE E mem)[k]? = some (E.2.2.1 g j, gent E (mem g j) g) := by
  obtain ⟨k, hk⟩ := List.getElem?_of_mem (ac_mem hg hj)
  refine ⟨k, hk, ?_⟩
  unfold wsE
  rw [List.getElem?_map, hk]
  rfl
def mset (mem : Mem) (g j i : Nat) (v : Int32) : Mem := fun g' j' i' => if g' = g ∧ j' = j ∧ i' = i then v else mem g' j' i'
theorem mset_self (mem : Mem) (g j i : Nat) (v : Int32) : mset mem g j i v g j = upd (mem g j) i v := by
  funext k
  unfold mset upd
  by_cases h : k = i <;> simp [h]
theorem mset_ne (mem : Mem) {g j g' j' : Nat} (i : Nat) (v : Int32) (h : ¬ (g' = g ∧ j' = j)) : mset mem g j i v g' j' = mem g' j' := by
  funext k
  unfold mset
  rw [if_neg (fun q => h ⟨q.1, q.2.1⟩)]
theorem wsE_set {E : En} {mem : Mem} {k g j i : Nat} {v : Int32} {a : Nat} (hj : Ej E) (hk : ac[k]? = some (g, j)) (ha : a = E.2.2.1 g j) : (wsE E mem).set k (a, gent E (upd (mem g j) i v) g) = wsE E (mset mem g j i v) := by
  subst ha
  apply List.ext_getElem?
  intro n
  by_cases hn : n = k
  · subst hn
    have hl : n < (wsE E mem).length := by
      unfold wsE
      rw [List.length_map]
      exact (List.getElem?_eq_some_iff.mp hk).1
    rw [List.getElem?_set_self hl]
    unfold wsE
    rw [List.getElem?_map, hk]
    show _ = some (E.2.2.1 g j, gent E (mset mem g j i v g j) g)
    rw [mset_self]
  · rw [List.getElem?_set_ne (Ne.symm hn)]
    unfold wsE
    rw [List.getElem?_map, List.getElem?_map]
    cases hc : ac[n]? with
    | none => rfl
    | some c =>
      obtain ⟨g', j'⟩ := c
      have : ¬ (g' = g ∧ j' = j) := fun q => by
        obtain ⟨rfl, rfl⟩ := q
        exact hn (hj n k _ _ hc hk rfl)
      show some (_, gent E (mem g' j') g') = some (_, gent E (mset mem g j i v g' j') g')
      rw [mset_ne mem i v this]
theorem fds_at {E : En} {r : Nat → Int32} {fs : List (Option Nat)} {k : Nat} {f : Option Nat} (h : fs[k]? = some f) : (fdsE E r fs)[k]? = some (fvE E r k f) := by
  unfold fdsE
  rw [List.getElem?_mapIdx, h]
  rfl
theorem fds_set {E : En} {r : Nat → Int32} {fs : List (Option Nat)} {k : Nat} (v : Int32) (h : fs[k]? = some none) : (fdsE E r fs).set k (.int v) = fdsE E (upd r k v) fs := by
  have hl : k < fs.length := (List.getElem?_eq_some_iff.mp h).1
  apply List.ext_getElem?
  intro n
  by_cases hn : n = k
  · subst hn
    rw [List.getElem?_set_self (by unfold fdsE; rw [List.length_mapIdx]; exact hl), fds_at h]
    simp [fvE, upd]
  · rw [List.getElem?_set_ne (Ne.symm hn)]
    unfold fdsE
    rw [List.getElem?_mapIdx, List.getElem?_mapIdx]
    cases hc : fs[n]? with
    | none => rfl
    | some f => cases f with
      | some g => rfl
      | none => simp [fvE, upd, hn]
def cv (E : En) : PV → Value
  | .inl v => .int v
  | .inr c => .ref (E.2.2.1 c.1 c.2)
theorem cv_cat (E : En) (v : PV) : (cv E v).category = 1 := by cases v <;> rfl
def lvl (E : En) : Nat → List (Option PV) → List (Nat × Value)
  | _, [] => []
  | i, none :: t => lvl E (i + 1) t
  | i, some v :: t => (i, cv E v) :: lvl E (i + 1) t
theorem lvl_mem {E : En} {q : Nat × Value} : ∀ {L : List (Option PV)} {i : Nat}, q ∈ lvl E i L → ∃ (k : Nat) (v : PV), L[k]? = some (some v) ∧ q = (i + k, cv E v)
  | [], i, h => by cases h
  | none :: t, i, h => by
    obtain ⟨k, v, h1, h2⟩ := lvl_mem (L := t) (i := i + 1) h
    exact ⟨k + 1, v, h1, by rw [h2]; congr 1; omega⟩
  | some w :: t, i, h => by
    rcases List.mem_cons.mp h with rfl | h
    · exact ⟨0, w, rfl, rfl⟩
    · obtain ⟨k, v, h1, h2⟩ := lvl_mem (L := t) (i := i + 1) h
      exact ⟨k + 1, v, h1, by rw [h2]; congr 1; omega⟩
theorem lvl_in {E : En} {v : PV} : ∀ {L : List (Option PV)} {i k : Nat}, L[k]? = some (some v) → (i + k, cv E v) ∈ lvl E i L
  | [], i, k, h => by simp at h
  | none :: t, i, 0, h => by simp at h
  | none :: t, i, k + 1, h => by
    have := lvl_in (E := E) (L := t) (i := i + 1) (k := k) (by simpa using h)
    rw [show i + (k + 1) = i + 1 + k by omega]
    exact this
  | some w :: t, i, 0, h => by
    have : w = v := by simpa using h
    subst this
    exact List.mem_cons_self
  | some w :: t, i, k + 1, h => by
    have := lvl_in (E := E) (L := t) (i := i + 1) (k := k) (by simpa using h)
    rw [show i + (k + 1) = i + 1 + k by omega]
    exact List.mem_cons_of_mem _ this
theorem lvl_at {E : En} {ls : Array Slot} {n i : Nat} {L : List (Option PV)} {v : PV} (h : lv_has ls n (lvl E 0 L)) (hi : L[i]? = some (some v)) : ls[i]? = some (.val (cv E v)) := by
  have := h.2.2 _ (lvl_in (E := E) (i := 0) hi)
  simpa using this
theorem lvl_set {E : En} {ls : Array Slot} {n i : Nat} {L : List (Option PV)} {v : PV} (h : lv_has ls n ((i, cv E v) :: (lvl E 0 L).filter (fun q => !(q.1 == i) && !(q.1 + 1 == i && q.2.category == 2)))) : lv_has ls n (lvl E 0 (L.set i (some v))) := by
  refine ⟨h.1, h.2.1, fun q hq => ?_⟩
  obtain ⟨k, w, h1, rfl⟩ := lvl_mem hq
  by_cases hk : k = i
  · subst hk
    have hl : k < L.length := by
      have := (List.getElem?_eq_some_iff.mp h1).1
      rwa [List.length_set] at this
    rw [List.getElem?_set_self hl] at h1
    cases h1
    have := h.2.2 (k, cv E v) List.mem_cons_self
    simpa using this
  · rw [List.getElem?_set_ne (Ne.symm hk)] at h1
    refine h.2.2 _ (List.mem_cons_of_mem _ (List.mem_filter.mpr ⟨lvl_in h1, ?_⟩))
    simp [hk, cv_cat]
def okv : PV → Prop
  | .inl _ => True
  | .inr c => c.1 < 59 → c.2 < gcnt c.1
theorem okI (v : Int32) : okv (pI v) := trivial
theorem okR0 (g : Nat) : okv (pR g 0) := fun _ => gcnt_pos g
theorem ok_c {v : PV} {st : List PV} (h : okv v) (hs : ∀ v ∈ st, okv v) : ∀ w ∈ v :: st, okv w := by
  intro w hw
  rcases List.mem_cons.mp hw with rfl | hw
  · exact h
  · exact hs w hw
theorem ok_t {v : PV} {st : List PV} (h : ∀ w ∈ v :: st, okv w) : ∀ w ∈ st, okv w := fun w hw => h w (List.mem_cons_of_mem _ hw)
theorem ok_h {v : PV} {st : List PV} (h : ∀ w ∈ v :: st, okv w) : okv v := h v List.mem_cons_self
theorem ok_set {L : List (Option PV)} {i : Nat} {v : PV} (h : okv v) (hL : ∀ v, some v ∈ L → okv v) : ∀ w, some w ∈ L.set i (some v) → okv w := by
  intro w hw
  rcases List.mem_or_eq_of_mem_set hw with q | q
  · exact hL w q
  · cases q
    exact h
/-! the words that are no steady words -/
def NWS : List Cond := [.methodLinkNest RX0 30 yX8_within RX8, .methodLinkNest RX0 38 yX8_contains RX8, .methodLinkNest RX5 37 yX8_lowestOf RX8, .methodLinkNest RX6 96 yX8_lowestOf RX8, .methodLinkNest RX3 52 yX8_lowestOf RX8, .methodLinkNest RX3 71 yX8_contains RX8, .methodLinkNest RX3 79 yX8_oneIf RX8, .fieldLinkNest RX1 56 RX8 "NOTHING_MORE" "[I" RX8, .fieldLinkNest RX6 90 RX8 "NOTHING_MORE" "[I" RX8, .declares ⟨RX4, "walkAll", "()V"⟩, .declares ⟨RX4, "isHopeless", "(I)Z"⟩, .declares ⟨RX4, "meet", "()V"⟩]
theorem nws_same {u U : State} (h : u.vm = U.vm) (hZ : ∀ w ∈ NWS, va_Nw w u) : ∀ w ∈ NWS, va_Nw w U := by
  intro w hw
  have h1 := hZ w hw
  simp only [NWS, List.mem_cons, List.not_mem_nil, or_false] at hw
  rcases hw with rfl | rfl | rfl | rfl | rfl | rfl | rfl | rfl | rfl | rfl | rfl | rfl <;> exact va_Nw.same rfl h h1
theorem nws_warm {s U : State} (hW : s.WarmedH U.vm) (hZ : ∀ w ∈ NWS, va_Nw w s) : ∀ w ∈ NWS, va_Nw w U := by
  intro w hw
  have h1 := hZ w hw
  simp only [NWS, List.mem_cons, List.not_mem_nil, or_false] at hw
  rcases hw with rfl | rfl | rfl | rfl | rfl | rfl | rfl | rfl | rfl | rfl | rfl | rfl <;> first | exact va_Nw.warmM hW h1 | exact va_Nw.warmF hW h1 | exact va_Nw.warmD hW h1
def tysE (E : En) : List (ClassId × FieldType) := [(E.2.2.2.1, .int), (E.2.2.2.2.1, .boolean), (E.2.2.2.2.2, .array .int)]
/-- what the tables and the statics say at a state -/
def Kx (E : En) (A : Nat → Prop) (U : State) : Prop := va_K E.2.1 kcl (tysE E) U ∧ (∀ w ∈ NWS, va_Nw w U) ∧ va_Z RX8 "NOTHING_MORE" "[I" (.ref (E.2.2.1 99 0)) A U U.heap ∧ va_T .int (E.2.2.1 99 0) 10 (fun _ => .int 0) A U U.heap ∧ Ej E
theorem Kx.blind {E : En} {A : Nat → Prop} {U : State} {g : JFrame} {mk : MethodId} {a : Array Value} (h : Kx E A U) : Kx E A (U.calling g mk a) := by
  obtain ⟨h1, h2, h3, h4, h5⟩ := h
  exact ⟨va_K.moved (u := U) (U := U.calling g mk a) (Vm.Alike.refl U.vm) h1, nws_same (u := U) (U := U.calling g mk a) rfl h2, va_Z.moved (u := U) (U := U.calling g mk a) (Vm.Alike.refl U.vm) h3, va_T.moved (u := U) (U := U.calling g mk a) (Vm.Alike.refl U.vm) h4, h5⟩
theorem Kx.call {E : En} {A : Nat → Prop} {s U : State} {H : Heap} {locs : List Loc} (h : Kx E A s) (hS : va_S A s.heap H locs) (hA : ∀ q, rA E q → A q) (hU : U.heap = H) (hW : s.WarmedH U.vm) : Kx E (rA E) U := by
  obtain ⟨h1, h2, h3, h4, h5⟩ := h
  subst hU
  exact ⟨va_K.moved hW.alike h1, nws_warm hW h2, va_Z.narrow (va_Z.moved hW.alike (va_Z.kept h3 hS.2.1)) hA, va_T.narrow (va_T.moved hW.alike (va_T.kept h4 hS.2.1)) hA, h5⟩
/-! a method's context: room, cells, slots, region, end -/
abbrev Xt : Type := Room × Nat × Nat × (State → Nat → Prop) × (List Frame → Array Value → State → State → Prop)
def Cx (E : En) (X : Xt) (M : MI_) (p : Program) (s : State) (m : MethodId) (args : Array Value) (meth : Method) (c : Code) : Prop :=
  p.tables.exec = Jvm.exec ∧ c.code = M.2.2.1 ∧ meth.sig.returnType = M.2.2.2.2 ∧ c.maxLocals = M.2.2.2.1 ∧ s.vm.findClass M.1 = some m.cls ∧ (∀ w ∈ TB_, w.before args s = true) ∧ meth.locks = false ∧ Kx E (X.2.2.2.1 s) s ∧ (∀ q, rA E q → X.2.2.2.1 s q)
def Wp (E : En) (X : Xt) (M : MI_) (pc : Nat) (L : List (Option PV)) (st : List PV) (mem : Mem) : Prop :=
  ∀ (p : Program) (e : Env) (s : State) (m : MethodId) (args : Array Value) (below : List Frame) (meth : Method) (c : Code) (H : Heap) (locs : List Loc) (ls : Array Slot), Cx E X M p s m args meth c → va_P E.2.1 kcl (wsE E mem) H → va_S (X.2.2.2.1 s) s.heap H locs → lv_has ls M.2.2.2.1 (lvl E 0 L) → (∀ v ∈ st, okv v) → (∀ v, some v ∈ L → okv v) →
    W p E.1 e X.1 s m args below meth c H locs X.2.1 X.2.2.1 (X.2.2.2.2 below args s) (F0 m pc ls (st.map (cv E)))
section RW
variable {E : En} {X : Xt} {M : MI_} {pc q : Nat} {L : List (Option PV)} {st : List PV} {mem : Mem}

theorem r_iadd {x y : Int32} (hd : decode M.2.2.1 pc = .ok (.iadd, 1)) (hq : pc + 1 = q) (k : Wp E X M q L (pI (x + y) :: st) mem) : Wp E X M pc L (pI y :: pI x :: st) mem := by
  subst hq
  intro p e s m args below meth c H locs ls hC hP hS hl h1 h2
  exact lv_iadd hC.1 hC.2.1 hd (k p e s m args below meth c H locs ls hC hP hS hl (ok_c trivial (ok_t (ok_t h1))) (h2))
theorem r_isub {x y : Int32} (hd : decode M.2.2.1 pc = .ok (.isub, 1)) (hq : pc + 1 = q) (k : Wp E X M q L (pI (x - y) :: st) mem) : Wp E X M pc L (pI y :: pI x :: st) mem := by
  subst hq
  intro p e s m args below meth c H locs ls hC hP hS hl h1 h2
  exact lv_isub hC.1 hC.2.1 hd (k p e s m args below meth c H locs ls hC hP hS hl (ok_c trivial (ok_t (ok_t h1))) (h2))
theorem r_imul {x y : Int32} (hd : decode M.2.2.1 pc = .ok (.imul, 1)) (hq : pc + 1 = q) (k : Wp E X M q L (pI (x * y) :: st) mem) : Wp E X M pc L (pI y :: pI x :: st) mem := by
  subst hq
  intro p e s m args below meth c H locs ls hC hP hS hl h1 h2
  exact lv_imul hC.1 hC.2.1 hd (k p e s m args below meth c H locs ls hC hP hS hl (ok_c trivial (ok_t (ok_t h1))) (h2))
theorem r_iand {x y : Int32} (hd : decode M.2.2.1 pc = .ok (.iand, 1)) (hq : pc + 1 = q) (k : Wp E X M q L (pI (x &&& y) :: st) mem) : Wp E X M pc L (pI y :: pI x :: st) mem := by
  subst hq
  intro p e s m args below meth c H locs ls hC hP hS hl h1 h2
  exact lv_iand hC.1 hC.2.1 hd (k p e s m args below meth c H locs ls hC hP hS hl (ok_c trivial (ok_t (ok_t h1))) (h2))
theorem r_ior {x y : Int32} (hd : decode M.2.2.1 pc = .ok (.ior, 1)) (hq : pc + 1 = q) (k : Wp E X M q L (pI (x ||| y) :: st) mem) : Wp E X M pc L (pI y :: pI x :: st) mem := by
  subst hq
  intro p e s m args below meth c H locs ls hC hP hS hl h1 h2
  exact lv_ior hC.1 hC.2.1 hd (k p e s m args below meth c H locs ls hC hP hS hl (ok_c trivial (ok_t (ok_t h1))) (h2))
theorem r_ixor {x y : Int32} (hd : decode M.2.2.1 pc = .ok (.ixor, 1)) (hq : pc + 1 = q) (k : Wp E X M q L (pI (x ^^^ y) :: st) mem) : Wp E X M pc L (pI y :: pI x :: st) mem := by
  subst hq
  intro p e s m args below meth c H locs ls hC hP hS hl h1 h2
  exact lv_ixor hC.1 hC.2.1 hd (k p e s m args below meth c H locs ls hC hP hS hl (ok_c trivial (ok_t (ok_t h1))) (h2))
theorem r_ishl {x y : Int32} (hd : decode M.2.2.1 pc = .ok (.ishl, 1)) (hq : pc + 1 = q) (k : Wp E X M q L (pI (x <<< (y &&& 31)) :: st) mem) : Wp E X M pc L (pI y :: pI x :: st) mem := by
  subst hq
  intro p e s m args below meth c H locs ls hC hP hS hl h1 h2
  exact lv_ishl hC.1 hC.2.1 hd (k p e s m args below meth c H locs ls hC hP hS hl (ok_c trivial (ok_t (ok_t h1))) (h2))
theorem r_ishr {x y : Int32} (hd : decode M.2.2.1 pc = .ok (.ishr, 1)) (hq : pc + 1 = q) (k : Wp E X M q L (pI (x >>> (y &&& 31)) :: st) mem) : Wp E X M pc L (pI y :: pI x :: st) mem := by
  subst hq
  intro p e s m args below meth c H locs ls hC hP hS hl h1 h2
  exact lv_ishr hC.1 hC.2.1 hd (k p e s m args below meth c H locs ls hC hP hS hl (ok_c trivial (ok_t (ok_t h1))) (h2))
theorem r_iushr {x y : Int32} (hd : decode M.2.2.1 pc = .ok (.iushr, 1)) (hq : pc + 1 = q) (k : Wp E X M q L (pI ((x.toUInt32 >>> (y.toUInt32 &&& Int32.toUInt32 31)).toInt32) :: st) mem) : Wp E X M pc L (pI y :: pI x :: st) mem := by
  subst hq
  intro p e s m args below meth c H locs ls hC hP hS hl h1 h2
  exact lv_iushr hC.1 hC.2.1 hd rfl (k p e s m args below meth c H locs ls hC hP hS hl (ok_c trivial (ok_t (ok_t h1))) (h2))
theorem r_ineg {x v : Int32} (hv : 0 - x = v) (hd : decode M.2.2.1 pc = .ok (.ineg, 1)) (hq : pc + 1 = q) (k : Wp E X M q L (pI v :: st) mem) : Wp E X M pc L (pI x :: st) mem := by
  subst hq
  subst hv
  intro p e s m args below meth c H locs ls hC hP hS hl h1 h2
  exact lv_ineg hC.1 hC.2.1 hd (k p e s m args below meth c H locs ls hC hP hS hl (ok_c trivial (ok_t h1)) (h2))
theorem r_iconst {n : Int} (v : Int32) (hv : Int32.ofInt n = v) (hd : decode M.2.2.1 pc = .ok (.iconst n, 1)) (hq : pc + 1 = q) (k : Wp E X M q L (pI v :: st) mem) : Wp E X M pc L st mem := by
  subst hq
  intro p e s m args below meth c H locs ls hC hP hS hl h1 h2
  exact lv_iconst hC.1 hC.2.1 hd hv (k p e s m args below meth c H locs ls hC hP hS hl (ok_c trivial h1) (h2))
theorem r_bipush {n : Int} (v : Int32) (hv : (Int8.ofInt n).toInt32 = v) (hd : decode M.2.2.1 pc = .ok (.bipush n, 2)) (hq : pc + 2 = q) (k : Wp E X M q L (pI v :: st) mem) : Wp E X M pc L st mem := by
  subst hq
  intro p e s m args below meth c H locs ls hC hP hS hl h1 h2
  exact lv_bipush hC.1 hC.2.1 hd hv (k p e s m args below meth c H locs ls hC hP hS hl (ok_c trivial h1) (h2))
theorem r_sipush {n : Int} (v : Int32) (hv : (Int16.ofInt n).toInt32 = v) (hd : decode M.2.2.1 pc = .ok (.sipush n, 3)) (hq : pc + 3 = q) (k : Wp E X M q L (pI v :: st) mem) : Wp E X M pc L st mem := by
  subst hq
  intro p e s m args below meth c H locs ls hC hP hS hl h1 h2
  exact lv_sipush hC.1 hC.2.1 hd hv (k p e s m args below meth c H locs ls hC hP hS hl (ok_c trivial h1) (h2))
theorem r_ldc {n : Nat} {v : Int32} (hc : Cond.constant M.1 n v ∈ TB_) (hd : decode M.2.2.1 pc = .ok (.ldc n, 2)) (hq : pc + 2 = q) (k : Wp E X M q L (pI v :: st) mem) : Wp E X M pc L st mem := by
  subst hq
  intro p e s m args below meth c H locs ls hC hP hS hl h1 h2
  exact lv_ldc hC.1 hC.2.1 hC.2.2.2.2.1 (hC.2.2.2.2.2.1 _ hc) hd (k p e s m args below meth c H locs ls hC hP hS hl (ok_c trivial h1) (h2))
theorem r_ldcw {n : Nat} {v : Int32} (hc : Cond.constant M.1 n v ∈ TB_) (hd : decode M.2.2.1 pc = .ok (.ldc_w n, 3)) (hq : pc + 3 = q) (k : Wp E X M q L (pI v :: st) mem) : Wp E X M pc L st mem := by
  subst hq
  intro p e s m args below meth c H locs ls hC hP hS hl h1 h2
  exact lv_ldcw hC.1 hC.2.1 hC.2.2.2.2.1 (hC.2.2.2.2.2.1 _ hc) hd (k p e s m args below meth c H locs ls hC hP hS hl (ok_c trivial h1) (h2))
theorem r_dup {a : PV} (hd : decode M.2.2.1 pc = .ok (.dup, 1)) (hq : pc + 1 = q) (k : Wp E X M q L (a :: a :: st) mem) : Wp E X M pc L (a :: st) mem := by
  subst hq
  intro p e s m args below meth c H locs ls hC hP hS hl h1 h2
  exact lv_dup hC.1 hC.2.1 hd (cv_cat E a) (k p e s m args below meth c H locs ls hC hP hS hl (ok_c (ok_h h1) h1) (h2))
theorem r_dup2 {a b : PV} (hd : decode M.2.2.1 pc = .ok (.dup2, 1)) (hq : pc + 1 = q) (k : Wp E X M q L (a :: b :: a :: b :: st) mem) : Wp E X M pc L (a :: b :: st) mem := by
  subst hq
  intro p e s m args below meth c H locs ls hC hP hS hl h1 h2
  exact lv_dup2_11 hC.1 hC.2.1 hd (cv_cat E a) (cv_cat E b) (k p e s m args below meth c H locs ls hC hP hS hl (ok_c (ok_h h1) (ok_c (ok_h (ok_t h1)) h1)) (h2))
theorem r_icmp_eq {x y : Int32} {off : Int} (tgt : Nat) (hd : decode M.2.2.1 pc = .ok (.if_icmp .eq off, 3)) (ht : (pc : Int) + off = (tgt : Int)) (hq : pc + 3 = q) (kt : x = y → Wp E X M tgt L st mem) (kf : ¬ (x = y) → Wp E X M q L st mem) : Wp E X M pc L (pI y :: pI x :: st) mem := by
  subst hq
  intro p e s m args below meth c H locs ls hC hP hS hl h1 h2
  exact lv_icmp_eq hC.1 hC.2.1 hd ht (fun z => kt z p e s m args below meth c H locs ls hC hP hS hl (ok_t (ok_t h1)) h2) (fun z => kf z p e s m args below meth c H locs ls hC hP hS hl (ok_t (ok_t h1)) h2)
theorem r_icmp_ne {x y : Int32} {off : Int} (tgt : Nat) (hd : decode M.2.2.1 pc = .ok (.if_icmp .ne off, 3)) (ht : (pc : Int) + off = (tgt : Int)) (hq : pc + 3 = q) (kt : ¬ x = y → Wp E X M tgt L st mem) (kf : x = y → Wp E X M q L st mem) : Wp E X M pc L (pI y :: pI x :: st) mem := by
  subst hq
  intro p e s m args below meth c H locs ls hC hP hS hl h1 h2
  exact lv_icmp_ne hC.1 hC.2.1 hd ht (fun z => kt z p e s m args below meth c H locs ls hC hP hS hl (ok_t (ok_t h1)) h2) (fun z => kf z p e s m args below meth c H locs ls hC hP hS hl (ok_t (ok_t h1)) h2)
theorem r_icmp_lt {x y : Int32} {off : Int} (tgt : Nat) (hd : decode M.2.2.1 pc = .ok (.if_icmp .lt off, 3)) (ht : (pc : Int) + off = (tgt : Int)) (hq : pc + 3 = q) (kt : x < y → Wp E X M tgt L st mem) (kf : ¬ (x < y) → Wp E X M q L st mem) : Wp E X M pc L (pI y :: pI x :: st) mem := by
  subst hq
  intro p e s m args below meth c H locs ls hC hP hS hl h1 h2
  exact lv_icmp_lt hC.1 hC.2.1 hd ht (fun z => kt z p e s m args below meth c H locs ls hC hP hS hl (ok_t (ok_t h1)) h2) (fun z => kf z p e s m args below meth c H locs ls hC hP hS hl (ok_t (ok_t h1)) h2)
theorem r_icmp_ge {x y : Int32} {off : Int} (tgt : Nat) (hd : decode M.2.2.1 pc = .ok (.if_icmp .ge off, 3)) (ht : (pc : Int) + off = (tgt : Int)) (hq : pc + 3 = q) (kt : y ≤ x → Wp E X M tgt L st mem) (kf : ¬ (y ≤ x) → Wp E X M q L st mem) : Wp E X M pc L (pI y :: pI x :: st) mem := by
  subst hq
  intro p e s m args below meth c H locs ls hC hP hS hl h1 h2
  exact lv_icmp_ge hC.1 hC.2.1 hd ht (fun z => kt z p e s m args below meth c H locs ls hC hP hS hl (ok_t (ok_t h1)) h2) (fun z => kf z p e s m args below meth c H locs ls hC hP hS hl (ok_t (ok_t h1)) h2)
theorem r_icmp_gt {x y : Int32} {off : Int} (tgt : Nat) (hd : decode M.2.2.1 pc = .ok (.if_icmp .gt off, 3)) (ht : (pc : Int) + off = (tgt : Int)) (hq : pc + 3 = q) (kt : y < x → Wp E X M tgt L st mem) (kf : ¬ (y < x) → Wp E X M q L st mem) : Wp E X M pc L (pI y :: pI x :: st) mem := by
  subst hq
  intro p e s m args below meth c H locs ls hC hP hS hl h1 h2
  exact lv_icmp_gt hC.1 hC.2.1 hd ht (fun z => kt z p e s m args below meth c H locs ls hC hP hS hl (ok_t (ok_t h1)) h2) (fun z => kf z p e s m args below meth c H locs ls hC hP hS hl (ok_t (ok_t h1)) h2)
theorem r_icmp_le {x y : Int32} {off : Int} (tgt : Nat) (hd : decode M.2.2.1 pc = .ok (.if_icmp .le off, 3)) (ht : (pc : Int) + off = (tgt : Int)) (hq : pc + 3 = q) (kt : x ≤ y → Wp E X M tgt L st mem) (kf : ¬ (x ≤ y) → Wp E X M q L st mem) : Wp E X M pc L (pI y :: pI x :: st) mem := by
  subst hq
  intro p e s m args below meth c H locs ls hC hP hS hl h1 h2
  exact lv_icmp_le hC.1 hC.2.1 hd ht (fun z => kt z p e s m args below meth c H locs ls hC hP hS hl (ok_t (ok_t h1)) h2) (fun z => kf z p e s m args below meth c H locs ls hC hP hS hl (ok_t (ok_t h1)) h2)
theorem r_if_eq {x : Int32} {off : Int} (tgt : Nat) (hd : decode M.2.2.1 pc = .ok (.ifCond .eq off, 3)) (ht : (pc : Int) + off = (tgt : Int)) (hq : pc + 3 = q) (kt : x = 0 → Wp E X M tgt L st mem) (kf : ¬ (x = 0) → Wp E X M q L st mem) : Wp E X M pc L (pI x :: st) mem := by
  subst hq
  intro p e s m args below meth c H locs ls hC hP hS hl h1 h2
  exact lv_if_eq hC.1 hC.2.1 hd ht (fun z => kt z p e s m args below meth c H locs ls hC hP hS hl (ok_t h1) h2) (fun z => kf z p e s m args below meth c H locs ls hC hP hS hl (ok_t h1) h2)
theorem r_if_ne {x : Int32} {off : Int} (tgt : Nat) (hd : decode M.2.2.1 pc = .ok (.ifCond .ne off, 3)) (ht : (pc : Int) + off = (tgt : Int)) (hq : pc + 3 = q) (kt : ¬ x = 0 → Wp E X M tgt L st mem) (kf : x = 0 → Wp E X M q L st mem) : Wp E X M pc L (pI x :: st) mem := by
  subst hq
  intro p e s m args below meth c H locs ls hC hP hS hl h1 h2
  exact lv_if_ne hC.1 hC.2.1 hd ht (fun z => kt z p e s m args below meth c H locs ls hC hP hS hl (ok_t h1) h2) (fun z => kf z p e s m args below meth c H locs ls hC hP hS hl (ok_t h1) h2)
theorem r_if_lt {x : Int32} {off : Int} (tgt : Nat) (hd : decode M.2.2.1 pc = .ok (.ifCond .lt off, 3)) (ht : (pc : Int) + off = (tgt : Int)) (hq : pc + 3 = q) (kt : x < 0 → Wp E X M tgt L st mem) (kf : ¬ (x < 0) → Wp E X M q L st mem) : Wp E X M pc L (pI x :: st) mem := by
  subst hq
  intro p e s m args below meth c H locs ls hC hP hS hl h1 h2
  exact lv_if_lt hC.1 hC.2.1 hd ht (fun z => kt z p e s m args below meth c H locs ls hC hP hS hl (ok_t h1) h2) (fun z => kf z p e s m args below meth c H locs ls hC hP hS hl (ok_t h1) h2)
theorem r_if_ge {x : Int32} {off : Int} (tgt : Nat) (hd : decode M.2.2.1 pc = .ok (.ifCond .ge off, 3)) (ht : (pc : Int) + off = (tgt : Int)) (hq : pc + 3 = q) (kt : 0 ≤ x → Wp E X M tgt L st mem) (kf : ¬ (0 ≤ x) → Wp E X M q L st mem) : Wp E X M pc L (pI x :: st) mem := by
  subst hq
  intro p e s m args below meth c H locs ls hC hP hS hl h1 h2
  exact lv_if_ge hC.1 hC.2.1 hd ht (fun z => kt z p e s m args below meth c H locs ls hC hP hS hl (ok_t h1) h2) (fun z => kf z p e s m args below meth c H locs ls hC hP hS hl (ok_t h1) h2)
theorem r_if_gt {x : Int32} {off : Int} (tgt : Nat) (hd : decode M.2.2.1 pc = .ok (.ifCond .gt off, 3)) (ht : (pc : Int) + off = (tgt : Int)) (hq : pc + 3 = q) (kt : 0 < x → Wp E X M tgt L st mem) (kf : ¬ (0 < x) → Wp E X M q L st mem) : Wp E X M pc L (pI x :: st) mem := by
  subst hq
  intro p e s m args below meth c H locs ls hC hP hS hl h1 h2
  exact lv_if_gt hC.1 hC.2.1 hd ht (fun z => kt z p e s m args below meth c H locs ls hC hP hS hl (ok_t h1) h2) (fun z => kf z p e s m args below meth c H locs ls hC hP hS hl (ok_t h1) h2)
theorem r_if_le {x : Int32} {off : Int} (tgt : Nat) (hd : decode M.2.2.1 pc = .ok (.ifCond .le off, 3)) (ht : (pc : Int) + off = (tgt : Int)) (hq : pc + 3 = q) (kt : x ≤ 0 → Wp E X M tgt L st mem) (kf : ¬ (x ≤ 0) → Wp E X M q L st mem) : Wp E X M pc L (pI x :: st) mem := by
  subst hq
  intro p e s m args below meth c H locs ls hC hP hS hl h1 h2
  exact lv_if_le hC.1 hC.2.1 hd ht (fun z => kt z p e s m args below meth c H locs ls hC hP hS hl (ok_t h1) h2) (fun z => kf z p e s m args below meth c H locs ls hC hP hS hl (ok_t h1) h2)
theorem r_goto {off : Int} (tgt : Nat) (hd : decode M.2.2.1 pc = .ok (.goto off, 3)) (ht : (pc : Int) + off = (tgt : Int)) (k : Wp E X M tgt L st mem) : Wp E X M pc L st mem := by
  intro p e s m args below meth c H locs ls hC hP hS hl h1 h2
  exact lv_goto hC.1 hC.2.1 hd ht (k p e s m args below meth c H locs ls hC hP hS hl (h1) (h2))
theorem r_tabO {x : Int32} {df lo hi : Int} {offs : Array Int} {len : Nat} (tgt : Nat) (hd : decode M.2.2.1 pc = .ok (.tableswitch df lo hi offs, len)) (h : x.toInt < lo ∨ hi < x.toInt) (ht : (pc : Int) + df = (tgt : Int)) (k : Wp E X M tgt L st mem) : Wp E X M pc L (pI x :: st) mem := by
  intro p e s m args below meth c H locs ls hC hP hS hl h1 h2
  exact lv_tableOut hC.1 hC.2.1 hd h ht (k p e s m args below meth c H locs ls hC hP hS hl (ok_t h1) (h2))
theorem r_tabI {x : Int32} {df lo hi : Int} {offs : Array Int} {len : Nat} {off : Int} (tgt : Nat) (hd : decode M.2.2.1 pc = .ok (.tableswitch df lo hi offs, len)) (ha : ¬ x.toInt < lo) (hb : ¬ hi < x.toInt) (ho : offs[(x.toInt - lo).toNat]? = some off) (ht : (pc : Int) + off = (tgt : Int)) (k : Wp E X M tgt L st mem) : Wp E X M pc L (pI x :: st) mem := by
  intro p e s m args below meth c H locs ls hC hP hS hl h1 h2
  exact lv_tableIn hC.1 hC.2.1 hd ha hb ho ht (k p e s m args below meth c H locs ls hC hP hS hl (ok_t h1) (h2))
theorem ok_L {i : Nat} {v : PV} (h2 : ∀ v, some v ∈ L → okv v) (hL : L[i]? = some (some v)) : okv v := h2 v (List.mem_of_getElem? hL)
theorem g_iload_n {k : Fin 4} {i : Nat} {v : Int32} (hL : L[i]? = some (some (pI v))) (hi : (k : Nat) = i) (hd : decode M.2.2.1 pc = .ok (.iload_n k, 1)) (hq : pc + 1 = q) (k : Wp E X M q L (pI v :: st) mem) : Wp E X M pc L st mem := by
  subst hq
  intro p e s m args below meth c H locs ls hC hP hS hl h1 h2
  exact lv_iload_n hC.1 hC.2.1 hd hi (lvl_at hl hL) (k p e s m args below meth c H locs ls hC hP hS hl (ok_c (ok_L h2 hL) h1) (h2))
theorem g_iload {i : Nat} {v : Int32} (hL : L[i]? = some (some (pI v))) (hd : decode M.2.2.1 pc = .ok (.iload i, 2)) (hq : pc + 2 = q) (k : Wp E X M q L (pI v :: st) mem) : Wp E X M pc L st mem := by
  subst hq
  intro p e s m args below meth c H locs ls hC hP hS hl h1 h2
  exact lv_iload hC.1 hC.2.1 hd (lvl_at hl hL) (k p e s m args below meth c H locs ls hC hP hS hl (ok_c (ok_L h2 hL) h1) (h2))
theorem g_aload_n {k : Fin 4} {i : Nat} {a b : Nat} (hL : L[i]? = some (some (pR a b))) (hi : (k : Nat) = i) (hd : decode M.2.2.1 pc = .ok (.aload_n k, 1)) (hq : pc + 1 = q) (k : Wp E X M q L (pR a b :: st) mem) : Wp E X M pc L st mem := by
  subst hq
  intro p e s m args below meth c H locs ls hC hP hS hl h1 h2
  exact lv_aload_n hC.1 hC.2.1 hd hi (lvl_at hl hL) (k p e s m args below meth c H locs ls hC hP hS hl (ok_c (ok_L h2 hL) h1) (h2))
theorem g_aload {i : Nat} {a b : Nat} (hL : L[i]? = some (some (pR a b))) (hd : decode M.2.2.1 pc = .ok (.aload i, 2)) (hq : pc + 2 = q) (k : Wp E X M q L (pR a b :: st) mem) : Wp E X M pc L st mem := by
  subst hq
  intro p e s m args below meth c H locs ls hC hP hS hl h1 h2
  exact lv_aload hC.1 hC.2.1 hd (lvl_at hl hL) (k p e s m args below meth c H locs ls hC hP hS hl (ok_c (ok_L h2 hL) h1) (h2))
theorem g_istore_n {k : Fin 4} {i : Nat} {v : Int32} (hn : i < M.2.2.2.1) (hi : (k : Nat) = i) (hd : decode M.2.2.1 pc = .ok (.istore_n k, 1)) (hq : pc + 1 = q) (k : Wp E X M q (L.set i (some (pI v))) st mem) : Wp E X M pc L (pI v :: st) mem := by
  subst hq
  intro p e s m args below meth c H locs ls hC hP hS hl h1 h2
  exact lv_istore_n hC.1 hC.2.1 hd hi hl hn rfl (fun ls hl => k p e s m args below meth c H locs ls hC hP hS (lvl_set hl) (ok_t h1) (ok_set (ok_h h1) h2))
theorem g_istore {i : Nat} {v : Int32} (hn : i < M.2.2.2.1) (hd : decode M.2.2.1 pc = .ok (.istore i, 2)) (hq : pc + 2 = q) (k : Wp E X M q (L.set i (some (pI v))) st mem) : Wp E X M pc L (pI v :: st) mem := by
  subst hq
  intro p e s m args below meth c H locs ls hC hP hS hl h1 h2
  exact lv_istore hC.1 hC.2.1 hd hl hn rfl (fun ls hl => k p e s m args below meth c H locs ls hC hP hS (lvl_set hl) (ok_t h1) (ok_set (ok_h h1) h2))
theorem g_astore_n {k : Fin 4} {i : Nat} {a b : Nat} (hn : i < M.2.2.2.1) (hi : (k : Nat) = i) (hd : decode M.2.2.1 pc = .ok (.astore_n k, 1)) (hq : pc + 1 = q) (k : Wp E X M q (L.set i (some (pR a b))) st mem) : Wp E X M pc L (pR a b :: st) mem := by
  subst hq
  intro p e s m args below meth c H locs ls hC hP hS hl h1 h2
  exact lv_astore_n hC.1 hC.2.1 hd hi hl hn rfl (fun ls hl => k p e s m args below meth c H locs ls hC hP hS (lvl_set hl) (ok_t h1) (ok_set (ok_h h1) h2))
theorem g_astore {i : Nat} {a b : Nat} (hn : i < M.2.2.2.1) (hd : decode M.2.2.1 pc = .ok (.astore i, 2)) (hq : pc + 2 = q) (k : Wp E X M q (L.set i (some (pR a b))) st mem) : Wp E X M pc L (pR a b :: st) mem := by
  subst hq
  intro p e s m args below meth c H locs ls hC hP hS hl h1 h2
  exact lv_astore hC.1 hC.2.1 hd hl hn rfl (fun ls hl => k p e s m args below meth c H locs ls hC hP hS (lvl_set hl) (ok_t h1) (ok_set (ok_h h1) h2))
theorem g_iinc {i : Nat} {n : Int} {v : Int32} (z : Int32) (hz : v + Int32.ofInt n = z) (hn : i < M.2.2.2.1) (hL : L[i]? = some (some (pI v))) (hd : decode M.2.2.1 pc = .ok (.iinc i n, 3)) (hq : pc + 3 = q) (k : Wp E X M q (L.set i (some (pI z))) st mem) : Wp E X M pc L st mem := by
  subst hq
  intro p e s m args below meth c H locs ls hC hP hS hl h1 h2
  obtain ⟨kk, hkk⟩ := List.getElem?_of_mem (lvl_in (E := E) (i := 0) hL)
  rw [Nat.zero_add] at hkk
  exact lv_iinc hC.1 hC.2.1 hd hl hkk hz hn rfl (fun ls hl => k p e s m args below meth c H locs ls hC hP hS (lvl_set hl) (h1) (ok_set trivial h2))
end RW
section RP
variable {E : En} {X : Xt} {M : MI_} {pc q : Nat} {st : List PV} {mem : Mem} {tl : List (Option PV)}
theorem r_iload_0 {v : Int32} (hd : decode M.2.2.1 pc = .ok (.iload_n 0, 1)) (hq : pc + 1 = q) (k : Wp E X M q (some (pI v) :: tl) (pI v :: st) mem) : Wp E X M pc (some (pI v) :: tl) st mem := g_iload_n (i := 0) rfl rfl hd hq k
theorem r_aload_0 {a b : Nat} (hd : decode M.2.2.1 pc = .ok (.aload_n 0, 1)) (hq : pc + 1 = q) (k : Wp E X M q (some (pR a b) :: tl) (pR a b :: st) mem) : Wp E X M pc (some (pR a b) :: tl) st mem := g_aload_n (i := 0) rfl rfl hd hq k
theorem r_istore_0 {o : Option PV} {v : Int32} (hn : 0 < M.2.2.2.1) (hd : decode M.2.2.1 pc = .ok (.istore_n 0, 1)) (hq : pc + 1 = q) (k : Wp E X M q (some (pI v) :: tl) st mem) : Wp E X M pc (o :: tl) (pI v :: st) mem := g_istore_n (i := 0) hn rfl hd hq k
theorem r_astore_0 {o : Option PV} {a b : Nat} (hn : 0 < M.2.2.2.1) (hd : decode M.2.2.1 pc = .ok (.astore_n 0, 1)) (hq : pc + 1 = q) (k : Wp E X M q (some (pR a b) :: tl) st mem) : Wp E X M pc (o :: tl) (pR a b :: st) mem := g_astore_n (i := 0) hn rfl hd hq k
theorem r_iinc_0 {n : Int} {v : Int32} (z : Int32) (hz : v + Int32.ofInt n = z) (hn : 0 < M.2.2.2.1) (hd : decode M.2.2.1 pc = .ok (.iinc 0 n, 3)) (hq : pc + 3 = q) (k : Wp E X M q (some (pI z) :: tl) st mem) : Wp E X M pc (some (pI v) :: tl) st mem := g_iinc (i := 0) z hz hn rfl hd hq k
theorem r_iload_1 {l0 : Option PV} {v : Int32} (hd : decode M.2.2.1 pc = .ok (.iload_n 1, 1)) (hq : pc + 1 = q) (k : Wp E X M q (l0 :: some (pI v) :: tl) (pI v :: st) mem) : Wp E X M pc (l0 :: some (pI v) :: tl) st mem := g_iload_n (i := 1) rfl rfl hd hq k
theorem r_aload_1 {l0 : Option PV} {a b : Nat} (hd : decode M.2.2.1 pc = .ok (.aload_n 1, 1)) (hq : pc + 1 = q) (k : Wp E X M q (l0 :: some (pR a b) :: tl) (pR a b :: st) mem) : Wp E X M pc (l0 :: some (pR a b) :: tl) st mem := g_aload_n (i := 1) rfl rfl hd hq k
theorem r_istore_1 {l0 : Option PV} {o : Option PV} {v : Int32} (hn : 1 < M.2.2.2.1) (hd : decode M.2.2.1 pc = .ok (.istore_n 1, 1)) (hq : pc + 1 = q) (k : Wp E X M q (l0 :: some (pI v) :: tl) st mem) : Wp E X M pc (l0 :: o :: tl) (pI v :: st) mem := g_istore_n (i := 1) hn rfl hd hq k
theorem r_astore_1 {l0 : Option PV} {o : Option PV} {a b : Nat} (hn : 1 < M.2.2.2.1) (hd : decode M.2.2.1 pc = .ok (.astore_n 1, 1)) (hq : pc + 1 = q) (k : Wp E X M q (l0 :: some (pR a b) :: tl) st mem) : Wp E X M pc (l0 :: o :: tl) (pR a b :: st) mem := g_astore_n (i := 1) hn rfl hd hq k
theorem r_iinc_1 {l0 : Option PV} {n : Int} {v : Int32} (z : Int32) (hz : v + Int32.ofInt n = z) (hn : 1 < M.2.2.2.1) (hd : decode M.2.2.1 pc = .ok (.iinc 1 n, 3)) (hq : pc + 3 = q) (k : Wp E X M q (l0 :: some (pI z) :: tl) st mem) : Wp E X M pc (l0 :: some (pI v) :: tl) st mem := g_iinc (i := 1) z hz hn rfl hd hq k
theorem r_iload_2 {l0 l1 : Option PV} {v : Int32} (hd : decode M.2.2.1 pc = .ok (.iload_n 2, 1)) (hq : pc + 1 = q) (k : Wp E X M q (l0 :: l1 :: some (pI v) :: tl) (pI v :: st) mem) : Wp E X M pc (l0 :: l1 :: some (pI v) :: tl) st mem := g_iload_n (i := 2) rfl rfl hd hq k
theorem r_aload_2 {l0 l1 : Option PV} {a b : Nat} (hd : decode M.2.2.1 pc = .ok (.aload_n 2, 1)) (hq : pc + 1 = q) (k : Wp E X M q (l0 :: l1 :: some (pR a b) :: tl) (pR a b :: st) mem) : Wp E X M pc (l0 :: l1 :: some (pR a b) :: tl) st mem := g_aload_n (i := 2) rfl rfl hd hq k
theorem r_istore_2 {l0 l1 : Option PV} {o : Option PV} {v : Int32} (hn : 2 < M.2.2.2.1) (hd : decode M.2.2.1 pc = .ok (.istore_n 2, 1)) (hq : pc + 1 = q) (k : Wp E X M q (l0 :: l1 :: some (pI v) :: tl) st mem) : Wp E X M pc (l0 :: l1 :: o :: tl) (pI v :: st) mem := g_istore_n (i := 2) hn rfl hd hq k
theorem r_astore_2 {l0 l1 : Option PV} {o : Option PV} {a b : Nat} (hn : 2 < M.2.2.2.1) (hd : decode M.2.2.1 pc = .ok (.astore_n 2, 1)) (hq : pc + 1 = q) (k : Wp E X M q (l0 :: l1 :: some (pR a b) :: tl) st mem) : Wp E X M pc (l0 :: l1 :: o :: tl) (pR a b :: st) mem := g_astore_n (i := 2) hn rfl hd hq k
theorem r_iinc_2 {l0 l1 : Option PV} {n : Int} {v : Int32} (z : Int32) (hz : v + Int32.ofInt n = z) (hn : 2 < M.2.2.2.1) (hd : decode M.2.2.1 pc = .ok (.iinc 2 n, 3)) (hq : pc + 3 = q) (k : Wp E X M q (l0 :: l1 :: some (pI z) :: tl) st mem) : Wp E X M pc (l0 :: l1 :: some (pI v) :: tl) st mem := g_iinc (i := 2) z hz hn rfl hd hq k
theorem r_iload_3 {l0 l1 l2 : Option PV} {v : Int32} (hd : decode M.2.2.1 pc = .ok (.iload_n 3, 1)) (hq : pc + 1 = q) (k : Wp E X M q (l0 :: l1 :: l2 :: some (pI v) :: tl) (pI v :: st) mem) : Wp E X M pc (l0 :: l1 :: l2 :: some (pI v) :: tl) st mem := g_iload_n (i := 3) rfl rfl hd hq k
theorem r_aload_3 {l0 l1 l2 : Option PV} {a b : Nat} (hd : decode M.2.2.1 pc = .ok (.aload_n 3, 1)) (hq : pc + 1 = q) (k : Wp E X M q (l0 :: l1 :: l2 :: some (pR a b) :: tl) (pR a b :: st) mem) : Wp E X M pc (l0 :: l1 :: l2 :: some (pR a b) :: tl) st mem := g_aload_n (i := 3) rfl rfl hd hq k
theorem r_istore_3 {l0 l1 l2 : Option PV} {o : Option PV} {v : Int32} (hn : 3 < M.2.2.2.1) (hd : decode M.2.2.1 pc = .ok (.istore_n 3, 1)) (hq : pc + 1 = q) (k : Wp E X M q (l0 :: l1 :: l2 :: some (pI v) :: tl) st mem) : Wp E X M pc (l0 :: l1 :: l2 :: o :: tl) (pI v :: st) mem := g_istore_n (i := 3) hn rfl hd hq k
theorem r_astore_3 {l0 l1 l2 : Option PV} {o : Option PV} {a b : Nat} (hn : 3 < M.2.2.2.1) (hd : decode M.2.2.1 pc = .ok (.astore_n 3, 1)) (hq : pc + 1 = q) (k : Wp E X M q (l0 :: l1 :: l2 :: some (pR a b) :: tl) st mem) : Wp E X M pc (l0 :: l1 :: l2 :: o :: tl) (pR a b :: st) mem := g_astore_n (i := 3) hn rfl hd hq k
theorem r_iinc_3 {l0 l1 l2 : Option PV} {n : Int} {v : Int32} (z : Int32) (hz : v + Int32.ofInt n = z) (hn : 3 < M.2.2.2.1) (hd : decode M.2.2.1 pc = .ok (.iinc 3 n, 3)) (hq : pc + 3 = q) (k : Wp E X M q (l0 :: l1 :: l2 :: some (pI z) :: tl) st mem) : Wp E X M pc (l0 :: l1 :: l2 :: some (pI v) :: tl) st mem := g_iinc (i := 3) z hz hn rfl hd hq k
theorem r_iload_4 {l0 l1 l2 l3 : Option PV} {v : Int32} (hd : decode M.2.2.1 pc = .ok (.iload 4, 2)) (hq : pc + 2 = q) (k : Wp E X M q (l0 :: l1 :: l2 :: l3 :: some (pI v) :: tl) (pI v :: st) mem) : Wp E X M pc (l0 :: l1 :: l2 :: l3 :: some (pI v) :: tl) st mem := g_iload (i := 4) rfl hd hq k
theorem r_aload_4 {l0 l1 l2 l3 : Option PV} {a b : Nat} (hd : decode M.2.2.1 pc = .ok (.aload 4, 2)) (hq : pc + 2 = q) (k : Wp E X M q (l0 :: l1 :: l2 :: l3 :: some (pR a b) :: tl) (pR a b :: st) mem) : Wp E X M pc (l0 :: l1 :: l2 :: l3 :: some (pR a b) :: tl) st mem := g_aload (i := 4) rfl hd hq k
theorem r_istore_4 {l0 l1 l2 l3 : Option PV} {o : Option PV} {v : Int32} (hn : 4 < M.2.2.2.1) (hd : decode M.2.2.1 pc = .ok (.istore 4, 2)) (hq : pc + 2 = q) (k : Wp E X M q (l0 :: l1 :: l2 :: l3 :: some (pI v) :: tl) st mem) : Wp E X M pc (l0 :: l1 :: l2 :: l3 :: o :: tl) (pI v :: st) mem := g_istore (i := 4) hn hd hq k
theorem r_astore_4 {l0 l1 l2 l3 : Option PV} {o : Option PV} {a b : Nat} (hn : 4 < M.2.2.2.1) (hd : decode M.2.2.1 pc = .ok (.astore 4, 2)) (hq : pc + 2 = q) (k : Wp E X M q (l0 :: l1 :: l2 :: l3 :: some (pR a b) :: tl) st mem) : Wp E X M pc (l0 :: l1 :: l2 :: l3 :: o :: tl) (pR a b :: st) mem := g_astore (i := 4) hn hd hq k
theorem r_iinc_4 {l0 l1 l2 l3 : Option PV} {n : Int} {v : Int32} (z : Int32) (hz : v + Int32.ofInt n = z) (hn : 4 < M.2.2.2.1) (hd : decode M.2.2.1 pc = .ok (.iinc 4 n, 3)) (hq : pc + 3 = q) (k : Wp E X M q (l0 :: l1 :: l2 :: l3 :: some (pI z) :: tl) st mem) : Wp E X M pc (l0 :: l1 :: l2 :: l3 :: some (pI v) :: tl) st mem := g_iinc (i := 4) z hz hn rfl hd hq k
theorem r_iload_5 {l0 l1 l2 l3 l4 : Option PV} {v : Int32} (hd : decode M.2.2.1 pc = .ok (.iload 5, 2)) (hq : pc + 2 = q) (k : Wp E X M q (l0 :: l1 :: l2 :: l3 :: l4 :: some (pI v) :: tl) (pI v :: st) mem) : Wp E X M pc (l0 :: l1 :: l2 :: l3 :: l4 :: some (pI v) :: tl) st mem := g_iload (i := 5) rfl hd hq k
theorem r_aload_5 {l0 l1 l2 l3 l4 : Option PV} {a b : Nat} (hd : decode M.2.2.1 pc = .ok (.aload 5, 2)) (hq : pc + 2 = q) (k : Wp E X M q (l0 :: l1 :: l2 :: l3 :: l4 :: some (pR a b) :: tl) (pR a b :: st) mem) : Wp E X M pc (l0 :: l1 :: l2 :: l3 :: l4 :: some (pR a b) :: tl) st mem := g_aload (i := 5) rfl hd hq k
theorem r_istore_5 {l0 l1 l2 l3 l4 : Option PV} {o : Option PV} {v : Int32} (hn : 5 < M.2.2.2.1) (hd : decode M.2.2.1 pc = .ok (.istore 5, 2)) (hq : pc + 2 = q) (k : Wp E X M q (l0 :: l1 :: l2 :: l3 :: l4 :: some (pI v) :: tl) st mem) : Wp E X M pc (l0 :: l1 :: l2 :: l3 :: l4 :: o :: tl) (pI v :: st) mem := g_istore (i := 5) hn hd hq k
theorem r_astore_5 {l0 l1 l2 l3 l4 : Option PV} {o : Option PV} {a b : Nat} (hn : 5 < M.2.2.2.1) (hd : decode M.2.2.1 pc = .ok (.astore 5, 2)) (hq : pc + 2 = q) (k : Wp E X M q (l0 :: l1 :: l2 :: l3 :: l4 :: some (pR a b) :: tl) st mem) : Wp E X M pc (l0 :: l1 :: l2 :: l3 :: l4 :: o :: tl) (pR a b :: st) mem := g_astore (i := 5) hn hd hq k
theorem r_iinc_5 {l0 l1 l2 l3 l4 : Option PV} {n : Int} {v : Int32} (z : Int32) (hz : v + Int32.ofInt n = z) (hn : 5 < M.2.2.2.1) (hd : decode M.2.2.1 pc = .ok (.iinc 5 n, 3)) (hq : pc + 3 = q) (k : Wp E X M q (l0 :: l1 :: l2 :: l3 :: l4 :: some (pI z) :: tl) st mem) : Wp E X M pc (l0 :: l1 :: l2 :: l3 :: l4 :: some (pI v) :: tl) st mem := g_iinc (i := 5) z hz hn rfl hd hq k
theorem r_iload_6 {l0 l1 l2 l3 l4 l5 : Option PV} {v : Int32} (hd : decode M.2.2.1 pc = .ok (.iload 6, 2)) (hq : pc + 2 = q) (k : Wp E X M q (l0 :: l1 :: l2 :: l3 :: l4 :: l5 :: some (pI v) :: tl) (pI v :: st) mem) : Wp E X M pc (l0 :: l1 :: l2 :: l3 :: l4 :: l5 :: some (pI v) :: tl) st mem := g_iload (i := 6) rfl hd hq k
theorem r_aload_6 {l0 l1 l2 l3 l4 l5 : Option PV} {a b : Nat} (hd : decode M.2.2.1 pc = .ok (.aload 6, 2)) (hq : pc + 2 = q) (k : Wp E X M q (l0 :: l1 :: l2 :: l3 :: l4 :: l5 :: some (pR a b) :: tl) (pR a b :: st) mem) : Wp E X M pc (l0 :: l1 :: l2 :: l3 :: l4 :: l5 :: some (pR a b) :: tl) st mem := g_aload (i := 6) rfl hd hq k
theorem r_istore_6 {l0 l1 l2 l3 l4 l5 : Option PV} {o : Option PV} {v : Int32} (hn : 6 < M.2.2.2.1) (hd : decode M.2.2.1 pc = .ok (.istore 6, 2)) (hq : pc + 2 = q) (k : Wp E X M q (l0 :: l1 :: l2 :: l3 :: l4 :: l5 :: some (pI v) :: tl) st mem) : Wp E X M pc (l0 :: l1 :: l2 :: l3 :: l4 :: l5 :: o :: tl) (pI v :: st) mem := g_istore (i := 6) hn hd hq k
theorem r_astore_6 {l0 l1 l2 l3 l4 l5 : Option PV} {o : Option PV} {a b : Nat} (hn : 6 < M.2.2.2.1) (hd : decode M.2.2.1 pc = .ok (.astore 6, 2)) (hq : pc + 2 = q) (k : Wp E X M q (l0 :: l1 :: l2 :: l3 :: l4 :: l5 :: some (pR a b) :: tl) st mem) : Wp E X M pc (l0 :: l1 :: l2 :: l3 :: l4 :: l5 :: o :: tl) (pR a b :: st) mem := g_astore (i := 6) hn hd hq k
theorem r_iinc_6 {l0 l1 l2 l3 l4 l5 : Option PV} {n : Int} {v : Int32} (z : Int32) (hz : v + Int32.ofInt n = z) (hn : 6 < M.2.2.2.1) (hd : decode M.2.2.1 pc = .ok (.iinc 6 n, 3)) (hq : pc + 3 = q) (k : Wp E X M q (l0 :: l1 :: l2 :: l3 :: l4 :: l5 :: some (pI z) :: tl) st mem) : Wp E X M pc (l0 :: l1 :: l2 :: l3 :: l4 :: l5 :: some (pI v) :: tl) st mem := g_iinc (i := 6) z hz hn rfl hd hq k
theorem r_iload_7 {l0 l1 l2 l3 l4 l5 l6 : Option PV} {v : Int32} (hd : decode M.2.2.1 pc = .ok (.iload 7, 2)) (hq : pc + 2 = q) (k : Wp E X M q (l0 :: l1 :: l2 :: l3 :: l4 :: l5 :: l6 :: some (pI v) :: tl) (pI v :: st) mem) : Wp E X M pc (l0 :: l1 :: l2 :: l3 :: l4 :: l5 :: l6 :: some (pI v) :: tl) st mem := g_iload (i := 7) rfl hd hq k
theorem r_aload_7 {l0 l1 l2 l3 l4 l5 l6 : Option PV} {a b : Nat} (hd : decode M.2.2.1 pc = .ok (.aload 7, 2)) (hq : pc + 2 = q) (k : Wp E X M q (l0 :: l1 :: l2 :: l3 :: l4 :: l5 :: l6 :: some (pR a b) :: tl) (pR a b :: st) mem) : Wp E X M pc (l0 :: l1 :: l2 :: l3 :: l4 :: l5 :: l6 :: some (pR a b) :: tl) st mem := g_aload (i := 7) rfl hd hq k
theorem r_istore_7 {l0 l1 l2 l3 l4 l5 l6 : Option PV} {o : Option PV} {v : Int32} (hn : 7 < M.2.2.2.1) (hd : decode M.2.2.1 pc = .ok (.istore 7, 2)) (hq : pc + 2 = q) (k : Wp E X M q (l0 :: l1 :: l2 :: l3 :: l4 :: l5 :: l6 :: some (pI v) :: tl) st mem) : Wp E X M pc (l0 :: l1 :: l2 :: l3 :: l4 :: l5 :: l6 :: o :: tl) (pI v :: st) mem := g_istore (i := 7) hn hd hq k
theorem r_astore_7 {l0 l1 l2 l3 l4 l5 l6 : Option PV} {o : Option PV} {a b : Nat} (hn : 7 < M.2.2.2.1) (hd : decode M.2.2.1 pc = .ok (.astore 7, 2)) (hq : pc + 2 = q) (k : Wp E X M q (l0 :: l1 :: l2 :: l3 :: l4 :: l5 :: l6 :: some (pR a b) :: tl) st mem) : Wp E X M pc (l0 :: l1 :: l2 :: l3 :: l4 :: l5 :: l6 :: o :: tl) (pR a b :: st) mem := g_astore (i := 7) hn hd hq k
theorem r_iinc_7 {l0 l1 l2 l3 l4 l5 l6 : Option PV} {n : Int} {v : Int32} (z : Int32) (hz : v + Int32.ofInt n = z) (hn : 7 < M.2.2.2.1) (hd : decode M.2.2.1 pc = .ok (.iinc 7 n, 3)) (hq : pc + 3 = q) (k : Wp E X M q (l0 :: l1 :: l2 :: l3 :: l4 :: l5 :: l6 :: some (pI z) :: tl) st mem) : Wp E X M pc (l0 :: l1 :: l2 :: l3 :: l4 :: l5 :: l6 :: some (pI v) :: tl) st mem := g_iinc (i := 7) z hz hn rfl hd hq k
theorem r_iload_8 {l0 l1 l2 l3 l4 l5 l6 l7 : Option PV} {v : Int32} (hd : decode M.2.2.1 pc = .ok (.iload 8, 2)) (hq : pc + 2 = q) (k : Wp E X M q (l0 :: l1 :: l2 :: l3 :: l4 :: l5 :: l6 :: l7 :: some (pI v) :: tl) (pI v :: st) mem) : Wp E X M pc (l0 :: l1 :: l2 :: l3 :: l4 :: l5 :: l6 :: l7 :: some (pI v) :: tl) st mem := g_iload (i := 8) rfl hd hq k
theorem r_aload_8 {l0 l1 l2 l3 l4 l5 l6 l7 : Option PV} {a b : Nat} (hd : decode M.2.2.1 pc = .ok (.aload 8, 2)) (hq : pc + 2 = q) (k : Wp E X M q (l0 :: l1 :: l2 :: l3 :: l4 :: l5 :: l6 :: l7 :: some (pR a b) :: tl) (pR a b :: st) mem) : Wp E X M pc (l0 :: l1 :: l2 :: l3 :: l4 :: l5 :: l6 :: l7 :: some (pR a b) :: tl) st mem := g_aload (i := 8) rfl hd hq k
theorem r_istore_8 {l0 l1 l2 l3 l4 l5 l6 l7 : Option PV} {o : Option PV} {v : Int32} (hn : 8 < M.2.2.2.1) (hd : decode M.2.2.1 pc = .ok (.istore 8, 2)) (hq : pc + 2 = q) (k : Wp E X M q (l0 :: l1 :: l2 :: l3 :: l4 :: l5 :: l6 :: l7 :: some (pI v) :: tl) st mem) : Wp E X M pc (l0 :: l1 :: l2 :: l3 :: l4 :: l5 :: l6 :: l7 :: o :: tl) (pI v :: st) mem := g_istore (i := 8) hn hd hq k
theorem r_astore_8 {l0 l1 l2 l3 l4 l5 l6 l7 : Option PV} {o : Option PV} {a b : Nat} (hn : 8 < M.2.2.2.1) (hd : decode M.2.2.1 pc = .ok (.astore 8, 2)) (hq : pc + 2 = q) (k : Wp E X M q (l0 :: l1 :: l2 :: l3 :: l4 :: l5 :: l6 :: l7 :: some (pR a b) :: tl) st mem) : Wp E X M pc (l0 :: l1 :: l2 :: l3 :: l4 :: l5 :: l6 :: l7 :: o :: tl) (pR a b :: st) mem := g_astore (i := 8) hn hd hq k
theorem r_iinc_8 {l0 l1 l2 l3 l4 l5 l6 l7 : Option PV} {n : Int} {v : Int32} (z : Int32) (hz : v + Int32.ofInt n = z) (hn : 8 < M.2.2.2.1) (hd : decode M.2.2.1 pc = .ok (.iinc 8 n, 3)) (hq : pc + 3 = q) (k : Wp E X M q (l0 :: l1 :: l2 :: l3 :: l4 :: l5 :: l6 :: l7 :: some (pI z) :: tl) st mem) : Wp E X M pc (l0 :: l1 :: l2 :: l3 :: l4 :: l5 :: l6 :: l7 :: some (pI v) :: tl) st mem := g_iinc (i := 8) z hz hn rfl hd hq k
theorem r_iload_9 {l0 l1 l2 l3 l4 l5 l6 l7 l8 : Option PV} {v : Int32} (hd : decode M.2.2.1 pc = .ok (.iload 9, 2)) (hq : pc + 2 = q) (k : Wp E X M q (l0 :: l1 :: l2 :: l3 :: l4 :: l5 :: l6 :: l7 :: l8 :: some (pI v) :: tl) (pI v :: st) mem) : Wp E X M pc (l0 :: l1 :: l2 :: l3 :: l4 :: l5 :: l6 :: l7 :: l8 :: some (pI v) :: tl) st mem := g_iload (i := 9) rfl hd hq k
theorem r_aload_9 {l0 l1 l2 l3 l4 l5 l6 l7 l8 : Option PV} {a b : Nat} (hd : decode M.2.2.1 pc = .ok (.aload 9, 2)) (hq : pc + 2 = q) (k : Wp E X M q (l0 :: l1 :: l2 :: l3 :: l4 :: l5 :: l6 :: l7 :: l8 :: some (pR a b) :: tl) (pR a b :: st) mem) : Wp E X M pc (l0 :: l1 :: l2 :: l3 :: l4 :: l5 :: l6 :: l7 :: l8 :: some (pR a b) :: tl) st mem := g_aload (i := 9) rfl hd hq k
theorem r_istore_9 {l0 l1 l2 l3 l4 l5 l6 l7 l8 : Option PV} {o : Option PV} {v : Int32} (hn : 9 < M.2.2.2.1) (hd : decode M.2.2.1 pc = .ok (.istore 9, 2)) (hq : pc + 2 = q) (k : Wp E X M q (l0 :: l1 :: l2 :: l3 :: l4 :: l5 :: l6 :: l7 :: l8 :: some (pI v) :: tl) st mem) : Wp E X M pc (l0 :: l1 :: l2 :: l3 :: l4 :: l5 :: l6 :: l7 :: l8 :: o :: tl) (pI v :: st) mem := g_istore (i := 9) hn hd hq k
theorem r_astore_9 {l0 l1 l2 l3 l4 l5 l6 l7 l8 : Option PV} {o : Option PV} {a b : Nat} (hn : 9 < M.2.2.2.1) (hd : decode M.2.2.1 pc = .ok (.astore 9, 2)) (hq : pc + 2 = q) (k : Wp E X M q (l0 :: l1 :: l2 :: l3 :: l4 :: l5 :: l6 :: l7 :: l8 :: some (pR a b) :: tl) st mem) : Wp E X M pc (l0 :: l1 :: l2 :: l3 :: l4 :: l5 :: l6 :: l7 :: l8 :: o :: tl) (pR a b :: st) mem := g_astore (i := 9) hn hd hq k
theorem r_iinc_9 {l0 l1 l2 l3 l4 l5 l6 l7 l8 : Option PV} {n : Int} {v : Int32} (z : Int32) (hz : v + Int32.ofInt n = z) (hn : 9 < M.2.2.2.1) (hd : decode M.2.2.1 pc = .ok (.iinc 9 n, 3)) (hq : pc + 3 = q) (k : Wp E X M q (l0 :: l1 :: l2 :: l3 :: l4 :: l5 :: l6 :: l7 :: l8 :: some (pI z) :: tl) st mem) : Wp E X M pc (l0 :: l1 :: l2 :: l3 :: l4 :: l5 :: l6 :: l7 :: l8 :: some (pI v) :: tl) st mem := g_iinc (i := 9) z hz hn rfl hd hq k
theorem r_iload_10 {l0 l1 l2 l3 l4 l5 l6 l7 l8 l9 : Option PV} {v : Int32} (hd : decode M.2.2.1 pc = .ok (.iload 10, 2)) (hq : pc + 2 = q) (k : Wp E X M q (l0 :: l1 :: l2 :: l3 :: l4 :: l5 :: l6 :: l7 :: l8 :: l9 :: some (pI v) :: tl) (pI v :: st) mem) : Wp E X M pc (l0 :: l1 :: l2 :: l3 :: l4 :: l5 :: l6 :: l7 :: l8 :: l9 :: some (pI v) :: tl) st mem := g_iload (i := 10) rfl hd hq k
theorem r_aload_10 {l0 l1 l2 l3 l4 l5 l6 l7 l8 l9 : Option PV} {a b : Nat} (hd : decode M.2.2.1 pc = .ok (.aload 10, 2)) (hq : pc + 2 = q) (k : Wp E X M q (l0 :: l1 :: l2 :: l3 :: l4 :: l5 :: l6 :: l7 :: l8 :: l9 :: some (pR a b) :: tl) (pR a b :: st) mem) : Wp E X M pc (l0 :: l1 :: l2 :: l3 :: l4 :: l5 :: l6 :: l7 :: l8 :: l9 :: some (pR a b) :: tl) st mem := g_aload (i := 10) rfl hd hq k
theorem r_istore_10 {l0 l1 l2 l3 l4 l5 l6 l7 l8 l9 : Option PV} {o : Option PV} {v : Int32} (hn : 10 < M.2.2.2.1) (hd : decode M.2.2.1 pc = .ok (.istore 10, 2)) (hq : pc + 2 = q) (k : Wp E X M q (l0 :: l1 :: l2 :: l3 :: l4 :: l5 :: l6 :: l7 :: l8 :: l9 :: some (pI v) :: tl) st mem) : Wp E X M pc (l0 :: l1 :: l2 :: l3 :: l4 :: l5 :: l6 :: l7 :: l8 :: l9 :: o :: tl) (pI v :: st) mem := g_istore (i := 10) hn hd hq k
theorem r_astore_10 {l0 l1 l2 l3 l4 l5 l6 l7 l8 l9 : Option PV} {o : Option PV} {a b : Nat} (hn : 10 < M.2.2.2.1) (hd : decode M.2.2.1 pc = .ok (.astore 10, 2)) (hq : pc + 2 = q) (k : Wp E X M q (l0 :: l1 :: l2 :: l3 :: l4 :: l5 :: l6 :: l7 :: l8 :: l9 :: some (pR a b) :: tl) st mem) : Wp E X M pc (l0 :: l1 :: l2 :: l3 :: l4 :: l5 :: l6 :: l7 :: l8 :: l9 :: o :: tl) (pR a b :: st) mem := g_astore (i := 10) hn hd hq k
theorem r_iinc_10 {l0 l1 l2 l3 l4 l5 l6 l7 l8 l9 : Option PV} {n : Int} {v : Int32} (z : Int32) (hz : v + Int32.ofInt n = z) (hn : 10 < M.2.2.2.1) (hd : decode M.2.2.1 pc = .ok (.iinc 10 n, 3)) (hq : pc + 3 = q) (k : Wp E X M q (l0 :: l1 :: l2 :: l3 :: l4 :: l5 :: l6 :: l7 :: l8 :: l9 :: some (pI z) :: tl) st mem) : Wp E X M pc (l0 :: l1 :: l2 :: l3 :: l4 :: l5 :: l6 :: l7 :: l8 :: l9 :: some (pI v) :: tl) st mem := g_iinc (i := 10) z hz hn rfl hd hq k
theorem r_iload_11 {l0 l1 l2 l3 l4 l5 l6 l7 l8 l9 l10 : Option PV} {v : Int32} (hd : decode M.2.2.1 pc = .ok (.iload 11, 2)) (hq : pc + 2 = q) (k : Wp E X M q (l0 :: l1 :: l2 :: l3 :: l4 :: l5 :: l6 :: l7 :: l8 :: l9 :: l10 :: some (pI v) :: tl) (pI v :: st) mem) : Wp E X M pc (l0 :: l1 :: l2 :: l3 :: l4 :: l5 :: l6 :: l7 :: l8 :: l9 :: l10 :: some (pI v) :: tl) st mem := g_iload (i := 11) rfl hd hq k
theorem r_aload_11 {l0 l1 l2 l3 l4 l5 l6 l7 l8 l9 l10 : Option PV} {a b : Nat} (hd : decode M.2.2.1 pc = .ok (.aload 11, 2)) (hq : pc + 2 = q) (k : Wp E X M q (l0 :: l1 :: l2 :: l3 :: l4 :: l5 :: l6 :: l7 :: l8 :: l9 :: l10 :: some (pR a b) :: tl) (pR a b :: st) mem) : Wp E X M pc (l0 :: l1 :: l2 :: l3 :: l4 :: l5 :: l6 :: l7 :: l8 :: l9 :: l10 :: some (pR a b) :: tl) st mem := g_aload (i := 11) rfl hd hq k
theorem r_istore_11 {l0 l1 l2 l3 l4 l5 l6 l7 l8 l9 l10 : Option PV} {o : Option PV} {v : Int32} (hn : 11 < M.2.2.2.1) (hd : decode M.2.2.1 pc = .ok (.istore 11, 2)) (hq : pc + 2 = q) (k : Wp E X M q (l0 :: l1 :: l2 :: l3 :: l4 :: l5 :: l6 :: l7 :: l8 :: l9 :: l10 :: some (pI v) :: tl) st mem) : Wp E X M pc (l0 :: l1 :: l2 :: l3 :: l4 :: l5 :: l6 :: l7 :: l8 :: l9 :: l10 :: o :: tl) (pI v :: st) mem := g_istore (i := 11) hn hd hq k
theorem r_astore_11 {l0 l1 l2 l3 l4 l5 l6 l7 l8 l9 l10 : Option PV} {o : Option PV} {a b : Nat} (hn : 11 < M.2.2.2.1) (hd : decode M.2.2.1 pc = .ok (.astore 11, 2)) (hq : pc + 2 = q) (k : Wp E X M q (l0 :: l1 :: l2 :: l3 :: l4 :: l5 :: l6 :: l7 :: l8 :: l9 :: l10 :: some (pR a b) :: tl) st mem) : Wp E X M pc (l0 :: l1 :: l2 :: l3 :: l4 :: l5 :: l6 :: l7 :: l8 :: l9 :: l10 :: o :: tl) (pR a b :: st) mem := g_astore (i := 11) hn hd hq k
theorem r_iinc_11 {l0 l1 l2 l3 l4 l5 l6 l7 l8 l9 l10 : Option PV} {n : Int} {v : Int32} (z : Int32) (hz : v + Int32.ofInt n = z) (hn : 11 < M.2.2.2.1) (hd : decode M.2.2.1 pc = .ok (.iinc 11 n, 3)) (hq : pc + 3 = q) (k : Wp E X M q (l0 :: l1 :: l2 :: l3 :: l4 :: l5 :: l6 :: l7 :: l8 :: l9 :: l10 :: some (pI z) :: tl) st mem) : Wp E X M pc (l0 :: l1 :: l2 :: l3 :: l4 :: l5 :: l6 :: l7 :: l8 :: l9 :: l10 :: some (pI v) :: tl) st mem := g_iinc (i := 11) z hz hn rfl hd hq k
theorem nI_inc (q : Nat) : nI q + Int32.ofInt 1 = nI (q + 1) := nI_1 q
end RP
theorem garr_all : (List.range 59).all (fun g => match garr g with | some (_, n) => decide (n < 1000000) | none => true) = true := by decide +kernel
theorem gref_all : (List.range 59).all (fun g => match gref g with | some (n, _) => decide (n < 1000000) | none => true) = true := by decide +kernel
theorem garr_sz {g n : Nat} {z : Bool} (h : garr g = some (z, n)) : n < 1000000 := by
  have h1 := List.all_eq_true.mp garr_all g (List.mem_range.mpr (garr_lt h))
  rw [h] at h1
  simpa using h1
theorem gref_sz {g n t : Nat} (h : gref g = some (n, t)) : n < 1000000 := by
  have h1 := List.all_eq_true.mp gref_all g (List.mem_range.mpr (gref_lt h))
  rw [h] at h1
  simpa using h1
/-! fields -/
theorem kcl_ok : ∀ (ci : Nat) (r : vw_C), kcl[ci]? = some r → (∀ w ∈ u_ws r.1 r.2.1 r.2.2, w ∈ TB_) ∧ (∃ ty0 : Nat → FieldType, ∀ k, k < r.2.2 → parseFieldDescriptor (r.2.1 k).2.2.1 = some (ty0 k)) ∧ (∀ a, a < r.2.2 → ∀ b, b < r.2.2 → a ≠ b → (r.2.1 a).2.1 ≠ (r.2.1 b).2.1)
  | 0, _, h => by cases h; exact ⟨in_X0, ⟨tyX0, tyX0_ok⟩, nmX0⟩
  | 1, _, h => by cases h; exact ⟨in_X1, ⟨tyX1, tyX1_ok⟩, nmX1⟩
  | 2, _, h => by cases h; exact ⟨in_X2, ⟨tyX2, tyX2_ok⟩, nmX2⟩
  | 3, _, h => by cases h; exact ⟨in_X3, ⟨tyX3, tyX3_ok⟩, nmX3⟩
  | 4, _, h => by cases h; exact ⟨in_X5, ⟨tyX5, tyX5_ok⟩, nmX5⟩
  | 5, _, h => by cases h; exact ⟨in_X6, ⟨tyX6, tyX6_ok⟩, nmX6⟩
  | 6, _, h => by cases h; exact ⟨in_X7, ⟨tyX7, tyX7_ok⟩, nmX7⟩
  | 7, _, h => by cases h; exact ⟨in_X8, ⟨tyX8, tyX8_ok⟩, nmX8⟩
  | 8, _, h => by cases h; exact ⟨in_X9, ⟨tyX9, tyX9_ok⟩, nmX9⟩
  | n + 9, _, h => by simp [kcl] at h
/-- the link of a field instruction: it names field k of class ci -/
def FLK (own : String) (idx ci k : Nat) : Prop := ∃ (r : vw_C) (ref : String), kcl[ci]? = some r ∧ k < r.2.2 ∧ Cond.fieldLink own idx ref (r.2.1 k).2.1 (r.2.1 k).2.2.1 ∈ TB_ ∧ (ref = (r.2.1 k).1 ∨ Cond.sameField ref (r.2.1 k).1 (r.2.1 k).2.1 (r.2.1 k).2.2.1 ∈ TB_)
/-- and it may be written -/
def PFK (ci k : Nat) : Prop := ∃ r : vw_C, kcl[ci]? = some r ∧ (r.2.1 k).2.2.2 = false ∧ parseFieldDescriptor (r.2.1 k).2.2.1 = some .int
section RF
variable {E : En} {X : Xt} {M : MI_} {pc q : Nat} {L : List (Option PV)} {st : List PV} {mem : Mem}
theorem flk_same {s : State} {args : Array Value} {ref own name desc : String} (hts : ∀ w ∈ TB_, w.before args s = true) (h : ref = own ∨ Cond.sameField ref own name desc ∈ TB_) : ∀ x, s.fieldFound? own name desc = some x → s.fieldFound? ref name desc = some x := by
  intro x hx
  rcases h with rfl | h
  · exact hx
  · exact u_same (hts _ h) x hx
theorem g_get {idx g j k ci : Nat} {fs : List (Option Nat)} {f : Option Nat} {v : PV} (hf : FLK M.1 idx ci k) (hg : gobj g = some (ci, fs)) (hk : fs[k]? = some f) (hv : fvE E (mem g j) k f = cv E v) (ho : okv v) (hd : decode M.2.2.1 pc = .ok (.getfield idx, 3)) (hq : pc + 3 = q) (kk : Wp E X M q L (v :: st) mem) : Wp E X M pc L (pR g j :: st) mem := by
  subst hq
  intro p e s m args below meth c H locs ls hC hP hS hl h1 h2
  obtain ⟨k0, hk0, hw⟩ := wsE_place E mem (gobj_lt hg) (ok_h h1 (gobj_lt hg))
  rw [gent_obj hg] at hw
  obtain ⟨⟨C, T, N⟩, ref, hc, hkN, hlk, hsm⟩ := hf
  have hts := hC.2.2.2.2.2.1
  refine va_get hC.1 hC.2.1 hts (kcl_ok ci _ hc).1 hC.2.2.2.2.1 hC.2.2.2.2.2.2.2.1.1 hP k0 hw hc k hkN (hts _ hlk) (flk_same hts hsm) ((fds_at hk).trans (congrArg some hv)) hd ?_
  exact kk p e s m args below meth c H locs ls hC hP hS hl (ok_c ho (ok_t h1)) h2
theorem r_getI {idx g j k ci : Nat} {fs : List (Option Nat)} (hf : FLK M.1 idx ci k) (hg : gobj g = some (ci, fs)) (hk : fs[k]? = some none) (hd : decode M.2.2.1 pc = .ok (.getfield idx, 3)) (hq : pc + 3 = q) (kk : Wp E X M q L (pI (mem g j k) :: st) mem) : Wp E X M pc L (pR g j :: st) mem := g_get (v := pI (mem g j k)) hf hg hk rfl trivial hd hq kk
theorem r_getR {idx g j k ci g' : Nat} {fs : List (Option Nat)} (hf : FLK M.1 idx ci k) (hg : gobj g = some (ci, fs)) (hk : fs[k]? = some (some g')) (hd : decode M.2.2.1 pc = .ok (.getfield idx, 3)) (hq : pc + 3 = q) (kk : Wp E X M q L (pR g' 0 :: st) mem) : Wp E X M pc L (pR g j :: st) mem := g_get hf hg hk rfl (okR0 g') hd hq kk
theorem r_put {idx g j k ci : Nat} {fs : List (Option Nat)} {v : Int32} (hf : FLK M.1 idx ci k) (hpf : PFK ci k) (hg : gobj g = some (ci, fs)) (hk : fs[k]? = some none) (hd : decode M.2.2.1 pc = .ok (.putfield idx, 3)) (hq : pc + 3 = q) (kk : Wp E X M q L st (mset mem g j k v)) : Wp E X M pc L (pI v :: pR g j :: st) mem := by
  subst hq
  intro p e s m args below meth c H locs ls hC hP hS hl h1 h2
  obtain ⟨k0, hk0, hw⟩ := wsE_place E mem (gobj_lt hg) (ok_h (ok_t h1) (gobj_lt hg))
  rw [gent_obj hg] at hw
  obtain ⟨⟨C, T, N⟩, ref, hc, hkN, hlk, hsm⟩ := hf
  obtain ⟨r2, hc2, hfin, hty⟩ := hpf
  cases hc.symm.trans hc2
  obtain ⟨hin, ⟨ty0, hty0⟩, hnm⟩ := kcl_ok ci _ hc
  have hts := hC.2.2.2.2.2.1
  have hKx := hC.2.2.2.2.2.2.2.1
  have hj : Ej E := hKx.2.2.2.2
  refine va_put hC.1 hC.2.1 hts hin ty0 hty0 hnm hC.2.2.2.2.1 hKx.1 hP (wsE_D hj hC.2.2.2.2.2.2.2.2) hS k0 hw hc k hkN (hts _ hlk) (flk_same hts hsm) hfin hty rfl rfl (by unfold fdsE; rw [List.length_mapIdx]; exact (List.getElem?_eq_some_iff.mp hk).1) hd (fun H1 locs1 hP1 _ hS1 => ?_)
  have hP1 : va_P E.2.1 kcl ((wsE E mem).set k0 (E.2.2.1 g j, .inr (ci, (fdsE E (mem g j) fs).set k (.int v)))) H1 := hP1
  rw [fds_set v hk, ← gent_obj (E := E) (r := upd (mem g j) k v) hg, wsE_set hj hk0 rfl] at hP1
  exact kk p e s m args below meth c H1 locs1 ls hC hP1 hS1 hl (ok_t (ok_t h1)) h2
/-! arrays -/
theorem r_iald {g j n : Nat} {x : Int32} (i : Nat) (hx : x = nI i) (hg : garr g = some (false, n)) (hi : i < n) (hd : decode M.2.2.1 pc = .ok (.iaload, 1)) (hq : pc + 1 = q) (kk : Wp E X M q L (pI (mem g j i) :: st) mem) : Wp E X M pc L (pI x :: pR g j :: st) mem := by
  subst hq
  subst hx
  intro p e s m args below meth c H locs ls hC hP hS hl h1 h2
  obtain ⟨k0, hk0, hw⟩ := wsE_place E mem (garr_lt hg) (ok_h (ok_t h1) (garr_lt hg))
  rw [gent_arr hg] at hw
  have hn := garr_sz hg
  refine va_iald hC.1 hC.2.1 hC.2.2.2.2.2.2.2.1.1 hP k0 0 hw rfl (vp_in_nI hi (by omega)) hd ?_
  rw [nI_clamp (show i < 2 ^ 31 by omega)]
  exact kk p e s m args below meth c H locs ls hC hP hS hl (ok_c trivial (ok_t (ok_t h1))) h2
theorem r_zald {g j n : Nat} {x : Int32} (i : Nat) (hx : x = nI i) (hg : garr g = some (true, n)) (hi : i < n) (hd : decode M.2.2.1 pc = .ok (.baload, 1)) (hq : pc + 1 = q) (kk : Wp E X M q L (pI (mem g j i) :: st) mem) : Wp E X M pc L (pI x :: pR g j :: st) mem := by
  subst hq
  subst hx
  intro p e s m args below meth c H locs ls hC hP hS hl h1 h2
  obtain ⟨k0, hk0, hw⟩ := wsE_place E mem (garr_lt hg) (ok_h (ok_t h1) (garr_lt hg))
  rw [gent_arr hg] at hw
  have hn := garr_sz hg
  refine va_zald hC.1 hC.2.1 hC.2.2.2.2.2.2.2.1.1 hP k0 1 hw rfl (vp_in_nI hi (by omega)) hd ?_
  rw [nI_clamp (show i < 2 ^ 31 by omega)]
  exact kk p e s m args below meth c H locs ls hC hP hS hl (ok_c trivial (ok_t (ok_t h1))) h2
theorem r_iast {g j n : Nat} {x v : Int32} (i : Nat) (hx : x = nI i) (hg : garr g = some (false, n)) (hi : i < n) (hd : decode M.2.2.1 pc = .ok (.iastore, 1)) (hq : pc + 1 = q) (kk : Wp E X M q L st (mset mem g j i v)) : Wp E X M pc L (pI v :: pI x :: pR g j :: st) mem := by
  subst hq
  subst hx
  intro p e s m args below meth c H locs ls hC hP hS hl h1 h2
  obtain ⟨k0, hk0, hw⟩ := wsE_place E mem (garr_lt hg) (ok_h (ok_t (ok_t h1)) (garr_lt hg))
  rw [gent_arr hg] at hw
  have hn := garr_sz hg
  have hKx := hC.2.2.2.2.2.2.2.1
  have hj : Ej E := hKx.2.2.2.2
  refine va_iast hC.1 hC.2.1 hKx.1 hP (wsE_D hj hC.2.2.2.2.2.2.2.2) hS k0 0 hw rfl (vp_in_nI hi (by omega)) hd (fun H1 locs1 hP1 _ hS1 => ?_)
  rw [nI_clamp (show i < 2 ^ 31 by omega), ← gent_arr (E := E) (r := upd (mem g j) i v) hg, wsE_set hj hk0 rfl] at hP1
  exact kk p e s m args below meth c H1 locs1 ls hC hP1 hS1 hl (ok_t (ok_t (ok_t h1))) h2
theorem r_zast {g j n : Nat} {x v : Int32} (i : Nat) (hx : x = nI i) (hv : v = 0 ∨ v = 1) (hg : garr g = some (true, n)) (hi : i < n) (hd : decode M.2.2.1 pc = .ok (.bastore, 1)) (hq : pc + 1 = q) (kk : Wp E X M q L st (mset mem g j i v)) : Wp E X M pc L (pI v :: pI x :: pR g j :: st) mem := by
  subst hq
  subst hx
  intro p e s m args below meth c H locs ls hC hP hS hl h1 h2
  obtain ⟨k0, hk0, hw⟩ := wsE_place E mem (garr_lt hg) (ok_h (ok_t (ok_t h1)) (garr_lt hg))
  rw [gent_arr hg] at hw
  have hn := garr_sz hg
  have hKx := hC.2.2.2.2.2.2.2.1
  have hj : Ej E := hKx.2.2.2.2
  have hb : vp_nar .boolean v = v := by rcases hv with rfl | rfl <;> decide +kernel
  refine va_zast hC.1 hC.2.1 hKx.1 hP (wsE_D hj hC.2.2.2.2.2.2.2.2) hS k0 1 hw rfl (vp_in_nI hi (by omega)) hd (fun H1 locs1 hP1 _ hS1 => ?_)
  rw [nI_clamp (show i < 2 ^ 31 by omega), hb, ← gent_arr (E := E) (r := upd (mem g j) i v) hg, wsE_set hj hk0 rfl] at hP1
  exact kk p e s m args below meth c H1 locs1 ls hC hP1 hS1 hl (ok_t (ok_t (ok_t h1))) h2
theorem r_aald {g j n t : Nat} {x : Int32} (i : Nat) (hx : x = nI i) (hg : gref g = some (n, t)) (hi : i < n) (hd : decode M.2.2.1 pc = .ok (.aaload, 1)) (hq : pc + 1 = q) (kk : Wp E X M q L (pR t i :: st) mem) : Wp E X M pc L (pI x :: pR g j :: st) mem := by
  subst hq
  subst hx
  intro p e s m args below meth c H locs ls hC hP hS hl h1 h2
  obtain ⟨k0, hk0, hw⟩ := wsE_place E mem (gref_lt hg) (ok_h (ok_t h1) (gref_lt hg))
  rw [gent_ref hg] at hw
  have hn := gref_sz hg
  have hlt : i < 2 ^ 31 := by omega
  have hK := hC.2.2.2.2.2.2.2.1.1
  refine W.aald (v := .ref (E.2.2.1 t i)) (ty := .array .int) hC.1 hC.2.1 (hP k0 _ hw) ((hK.2 2 _ rfl).1 n (fun j => va_rf (if j < n then some (E.2.2.1 t j) else none))) rfl (fun q => by cases q) (by show ¬ (nI i < 0 ∨ (arrV _ _ _).slots.size ≤ _); rw [arrV_size]; exact vp_in_nI hi (show n < 2 ^ 31 by omega)) (by show (arrV _ _ _).slots[_]? = _; rw [nI_clamp hlt, arrV_read _ _ hi]; simp [hi, va_rf]) rfl rfl hd ?_
  refine kk p e s m args below meth c H locs ls hC hP hS hl (ok_c (fun _ => ?_) (ok_t (ok_t h1))) h2
  show i < gcnt t
  rw [gref_rows hg]
  exact hi
/-- a read of the static array of ten noughts -/
theorem r_nald {x : Int32} (i : Nat) (hx : x = nI i) (hi : i < 10) (hd : decode M.2.2.1 pc = .ok (.iaload, 1)) (hq : pc + 1 = q) (kk : Wp E X M q L (pI 0 :: st) mem) : Wp E X M pc L (pI x :: pR 99 0 :: st) mem := by
  subst hq
  subst hx
  intro p e s m args below meth c H locs ls hC hP hS hl h1 h2
  have hKx := hC.2.2.2.2.2.2.2.1
  exact va_ti hC.1 hC.2.1 hKx.2.2.2.1 hS (vp_in_nI hi (by omega)) rfl hd (kk p e s m args below meth c H locs ls hC hP hS hl (ok_c trivial (ok_t (ok_t h1))) h2)
theorem r_alen {g j n : Nat} {z : Bool} (hg : garr g = some (z, n)) (hd : decode M.2.2.1 pc = .ok (.arraylength, 1)) (hq : pc + 1 = q) (kk : Wp E X M q L (pI (nI n) :: st) mem) : Wp E X M pc L (pR g j :: st) mem := by
  subst hq
  intro p e s m args below meth c H locs ls hC hP hS hl h1 h2
  obtain ⟨k0, hk0, hw⟩ := wsE_place E mem (garr_lt hg) (ok_h h1 (garr_lt hg))
  rw [gent_arr hg] at hw
  cases z with
  | false => exact va_alen hC.1 hC.2.1 hC.2.2.2.2.2.2.2.1.1 hP k0 0 hw rfl rfl hd (kk p e s m args below meth c H locs ls hC hP hS hl (ok_c trivial (ok_t h1)) h2)
  | true => exact va_alen hC.1 hC.2.1 hC.2.2.2.2.2.2.2.1.1 hP k0 1 hw rfl rfl hd (kk p e s m args below meth c H locs ls hC hP hS hl (ok_c trivial (ok_t h1)) h2)
theorem r_gets {idx : Nat} (hw : Cond.fieldLink M.1 idx RX8 "NOTHING_MORE" "[I" ∈ TB_) (hd : decode M.2.2.1 pc = .ok (.getstatic idx, 3)) (hq : pc + 3 = q) (kk : Wp E X M q L (pR 99 0 :: st) mem) : Wp E X M pc L st mem := by
  subst hq
  intro p e s m args below meth c H locs ls hC hP hS hl h1 h2
  have hKx := hC.2.2.2.2.2.2.2.1
  exact va_gets hC.1 hC.2.1 hKx.2.2.1 hS hC.2.2.2.2.1 (hC.2.2.2.2.2.1 _ hw) (fun _ h => h) hd (kk p e s m args below meth c H locs ls hC hP hS hl (ok_c (okR0 99) h1) h2)
theorem r_getsN {idx : Nat} (hw : Cond.fieldLinkNest M.1 idx RX8 "NOTHING_MORE" "[I" RX8 ∈ NWS) (hd : decode M.2.2.1 pc = .ok (.getstatic idx, 3)) (hq : pc + 3 = q) (kk : Wp E X M q L (pR 99 0 :: st) mem) : Wp E X M pc L st mem := by
  subst hq
  intro p e s m args below meth c H locs ls hC hP hS hl h1 h2
  have hKx := hC.2.2.2.2.2.2.2.1
  exact va_getsN hC.1 hC.2.1 hKx.2.2.1 hS hC.2.2.2.2.1 (va_Nw.use rfl (hKx.2.1 _ hw)) (fun _ h => h) hd (kk p e s m args below meth c H locs ls hC hP hS hl (ok_c (okR0 99) h1) h2)
end RF
