/-! THE CONSTRUCTORS: a row an instruction -/
theorem ac_len : ac.length = 120 := by decide +kernel
theorem wsK_low {E : En} {D : va_G} {k : Nat} {mem : Mem} {H : Heap} (hE : EA E) (hk : k ≤ 120) (hP : va_P D kcl (wsK E k mem) H) : k = 0 ∨ bs E + k ≤ H.size := by
  cases k with
  | zero => exact Or.inl rfl
  | succ n =>
    right
    obtain ⟨c, hc⟩ : ∃ c, ac[n]? = some c := ⟨_, List.getElem?_eq_getElem (by rw [ac_len]; omega)⟩
    have := (hP n _ (wsK_in (Nat.lt_succ_self n) hc)).lt
    rw [show (E.2.2.1 c.1 c.2, gentK E (mem c.1 c.2) c.1).1 = E.2.2.1 c.1 c.2 from rfl, hE n c hc] at this
    omega
theorem W_sz {p : Program} {l : Launch} {e : Env} {R : Room} {s : State} {m : MethodId} {args : Array Value} {below : List Frame} {meth : Method} {c : Code} {H : Heap} {locs : List Loc} {cells slots : Nat} {Q : State → Prop} {g : JFrame} {n : Nat} (h1 : s.heap.size + cells ≤ n) (h2 : n ≤ H.size) (kk : H.size = n → W p l e R s m args below meth c H locs cells slots Q g) : W p l e R s m args below meth c H locs cells slots Q g := fun T hT X => kk (by
  have := X.heapSize
  rw [hT] at this
  omega) T hT X
section RK
variable {E : En} {X : Xk} {M M' : MI_} {k pc q : Nat} {L : List (Option PV)} {st : List PV} {mem : Mem}
theorem c_iconst {n : Int} (v : Int32) (hv : Int32.ofInt n = v) (hd : decode M.2.2.1 pc = .ok (.iconst n, 1)) (hq : pc + 1 = q) (kk : Wc E X M k q L (pI v :: st) mem) : Wc E X M k pc L (st) mem := by
  subst hq
  intro p e s m args below meth c H locs ls hC hs0 hZ hsz hP hS hl
  exact lv_iconst hC.1 hC.2.1 hd hv (kk p e s m args below meth c H locs ls hC hs0 hZ hsz hP hS hl)
theorem c_bipush {n : Int} (v : Int32) (hv : (Int8.ofInt n).toInt32 = v) (hd : decode M.2.2.1 pc = .ok (.bipush n, 2)) (hq : pc + 2 = q) (kk : Wc E X M k q L (pI v :: st) mem) : Wc E X M k pc L (st) mem := by
  subst hq
  intro p e s m args below meth c H locs ls hC hs0 hZ hsz hP hS hl
  exact lv_bipush hC.1 hC.2.1 hd hv (kk p e s m args below meth c H locs ls hC hs0 hZ hsz hP hS hl)
theorem c_sipush {n : Int} (v : Int32) (hv : (Int16.ofInt n).toInt32 = v) (hd : decode M.2.2.1 pc = .ok (.sipush n, 3)) (hq : pc + 3 = q) (kk : Wc E X M k q L (pI v :: st) mem) : Wc E X M k pc L (st) mem := by
  subst hq
  intro p e s m args below meth c H locs ls hC hs0 hZ hsz hP hS hl
  exact lv_sipush hC.1 hC.2.1 hd hv (kk p e s m args below meth c H locs ls hC hs0 hZ hsz hP hS hl)
theorem c_ldc {n : Nat} {v : Int32} (hc : Cond.constant M.1 n v ∈ TB_) (hd : decode M.2.2.1 pc = .ok (.ldc n, 2)) (hq : pc + 2 = q) (kk : Wc E X M k q L (pI v :: st) mem) : Wc E X M k pc L (st) mem := by
  subst hq
  intro p e s m args below meth c H locs ls hC hs0 hZ hsz hP hS hl
  exact lv_ldc hC.1 hC.2.1 hC.2.2.2.2.1 (hC.2.2.2.2.2.1 _ hc) hd (kk p e s m args below meth c H locs ls hC hs0 hZ hsz hP hS hl)
theorem c_dup {a : PV} (hd : decode M.2.2.1 pc = .ok (.dup, 1)) (hq : pc + 1 = q) (kk : Wc E X M k q L (a :: a :: st) mem) : Wc E X M k pc L (a :: st) mem := by
  subst hq
  intro p e s m args below meth c H locs ls hC hs0 hZ hsz hP hS hl
  exact lv_dup hC.1 hC.2.1 hd (cv_cat E a) (kk p e s m args below meth c H locs ls hC hs0 hZ hsz hP hS hl)
theorem c_aload_n {i : Fin 4} {a b : Nat} (hL : L[(i : Nat)]? = some (some (pR a b))) (hd : decode M.2.2.1 pc = .ok (.aload_n i, 1)) (hq : pc + 1 = q) (kk : Wc E X M k q L (pR a b :: st) mem) : Wc E X M k pc L (st) mem := by
  subst hq
  intro p e s m args below meth c H locs ls hC hs0 hZ hsz hP hS hl
  exact lv_aload_n hC.1 hC.2.1 hd rfl (lvl_at hl hL) (kk p e s m args below meth c H locs ls hC hs0 hZ hsz hP hS hl)
theorem c_iload_n {i : Fin 4} {v : Int32} (hL : L[(i : Nat)]? = some (some (pI v))) (hd : decode M.2.2.1 pc = .ok (.iload_n i, 1)) (hq : pc + 1 = q) (kk : Wc E X M k q L (pI v :: st) mem) : Wc E X M k pc L (st) mem := by
  subst hq
  intro p e s m args below meth c H locs ls hC hs0 hZ hsz hP hS hl
  exact lv_iload_n hC.1 hC.2.1 hd rfl (lvl_at hl hL) (kk p e s m args below meth c H locs ls hC hs0 hZ hsz hP hS hl)
theorem c_istore_n {i : Fin 4} {v : Int32} (hn : (i : Nat) < M.2.2.2.1) (hd : decode M.2.2.1 pc = .ok (.istore_n i, 1)) (hq : pc + 1 = q) (kk : Wc E X M k q (L.set i (some (pI v))) st mem) : Wc E X M k pc L (pI v :: st) mem := by
  subst hq
  intro p e s m args below meth c H locs ls hC hs0 hZ hsz hP hS hl
  exact lv_istore_n hC.1 hC.2.1 hd rfl hl hn rfl (fun ls hl => kk p e s m args below meth c H locs ls hC hs0 hZ hsz hP hS (lvl_set hl))
theorem c_astore_n {i : Fin 4} {a b : Nat} (hn : (i : Nat) < M.2.2.2.1) (hd : decode M.2.2.1 pc = .ok (.astore_n i, 1)) (hq : pc + 1 = q) (kk : Wc E X M k q (L.set i (some (pR a b))) st mem) : Wc E X M k pc L (pR a b :: st) mem := by
  subst hq
  intro p e s m args below meth c H locs ls hC hs0 hZ hsz hP hS hl
  exact lv_astore_n hC.1 hC.2.1 hd rfl hl hn rfl (fun ls hl => kk p e s m args below meth c H locs ls hC hs0 hZ hsz hP hS (lvl_set hl))
theorem c_iinc {i : Nat} {n : Int} {v : Int32} (z : Int32) (hz : v + Int32.ofInt n = z) (hn : i < M.2.2.2.1) (hL : L[i]? = some (some (pI v))) (hd : decode M.2.2.1 pc = .ok (.iinc i n, 3)) (hq : pc + 3 = q) (kk : Wc E X M k q (L.set i (some (pI z))) st mem) : Wc E X M k pc L st mem := by
  subst hq
  intro p e s m args below meth c H locs ls hC hs0 hZ hsz hP hS hl
  obtain ⟨k9, hkk⟩ := List.getElem?_of_mem (lvl_in (E := E) (i := 0) hL)
  rw [Nat.zero_add] at hkk
  exact lv_iinc hC.1 hC.2.1 hd hl hkk hz hn rfl (fun ls hl => kk p e s m args below meth c H locs ls hC hs0 hZ hsz hP hS (lvl_set hl))
theorem c_icmp_ge {x y : Int32} {off : Int} (tgt : Nat) (hd : decode M.2.2.1 pc = .ok (.if_icmp .ge off, 3)) (ht : (pc : Int) + off = (tgt : Int)) (hq : pc + 3 = q) (kt : y ≤ x → Wc E X M k tgt L st mem) (kf : ¬ (y ≤ x) → Wc E X M k q L st mem) : Wc E X M k pc L (pI y :: pI x :: st) mem := by
  subst hq
  intro p e s m args below meth c H locs ls hC hs0 hZ hsz hP hS hl
  exact lv_icmp_ge hC.1 hC.2.1 hd ht (fun z => kt z p e s m args below meth c H locs ls hC hs0 hZ hsz hP hS hl) (fun z => kf z p e s m args below meth c H locs ls hC hs0 hZ hsz hP hS hl)
theorem c_goto {off : Int} (tgt : Nat) (hd : decode M.2.2.1 pc = .ok (.goto off, 3)) (ht : (pc : Int) + off = (tgt : Int)) (kk : Wc E X M k tgt L st mem) : Wc E X M k pc L st mem := by
  intro p e s m args below meth c H locs ls hC hs0 hZ hsz hP hS hl
  exact lv_goto hC.1 hC.2.1 hd ht (kk p e s m args below meth c H locs ls hC hs0 hZ hsz hP hS hl)
theorem c_obj {idx a b : Nat} (hlk : Cond.methodLink M.1 idx Lib.objectInit ∈ TB_) (hin : Cond.instanceMethod Lib.objectInit ∈ TB_) (hco : Cond.code Lib.objectInit ⟨#[0xb1]⟩ 1 none ∈ TB_) (hf : 1 ≤ X.1.frames) (hlo : 12 ≤ X.1.locals) (hd : decode M.2.2.1 pc = .ok (.invokespecial idx, 3)) (hq : pc + 3 = q) (kk : Wc E X M k q L [] mem) : Wc E X M k pc L [pR a b] mem := by
  subst hq
  intro p e s m args below meth c H locs ls hC hs0 hZ hsz hP hS hl
  have hts := hC.2.2.2.2.2.1
  exact W.objInit hC.1 hC.2.1 hC.2.2.2.2.1 (hts _ hlk) (hts _ hin) (hts _ hco) rfl (by rw [hC.2.2.2.1]; exact hl.1) rfl hd hf (by show 2 * 0 + 0 + 12 ≤ _; omega) (kk p e s m args below meth c H locs ls hC hs0 hZ hsz hP hS hl)
/-- a reference into a final field of the class that is being made -/
def PFR (own : String) (ci k : Nat) : Prop := ∃ (r : vw_C) (ty : FieldType), kcl[ci]? = some r ∧ (r.2.1 k).2.2.2 = true ∧ (r.2.1 k).1 = own ∧ parseFieldDescriptor (r.2.1 k).2.2.1 = some ty ∧ (∀ a, narrow ty (.ref a) = .ref a) ∧ ∀ a, fits ty (.ref a) = true
theorem c_putR {idx g g' f ci i : Nat} {fs : List (Option Nat)} (hf : FLK M.1 idx ci f) (hpf : PFR M.1 ci f) (hnm : M.2.1.name = "<init>") (hg : gobj g = some (ci, fs)) (hk : fs[f]? = some (some g')) (hi : i < k) (hac : ac[i]? = some (g, 0)) (h0 : X.2.1 ≤ k) (h120 : k ≤ 120) (hd : decode M.2.2.1 pc = .ok (.putfield idx, 3)) (hq : pc + 3 = q) (kk : Wc E X M k q L st (mset mem g 0 f 1)) : Wc E X M k pc L (pR g' 0 :: pR g 0 :: st) mem := by
  subst hq
  intro p e s m args below meth c H locs ls hC hs0 hZ hsz hP hS hl
  obtain ⟨⟨C, T, N⟩, ref, hc, hkN, hlk, hsm⟩ := hf
  obtain ⟨r2, ty, hc2, hfin, hdecl, hty, hn, hft⟩ := hpf
  cases hc.symm.trans hc2
  obtain ⟨hin, ⟨ty0, hty0⟩, hnm2⟩ := kcl_ok ci _ hc
  have hts := hC.2.2.2.2.2.1
  have hKx := hC.2.2.2.2.2.2.2.1
  have hw := wsK_in (E := E) (mem := mem) hi hac
  rw [gentK_obj hg] at hw
  refine va_putF hC.1 hC.2.1 hts hin ty0 hty0 hnm2 hC.2.2.2.2.1 hKx.1.1 hP (wsK_D hKx.2.2.2) hS i hw hc f hkN (hts _ hlk) (flk_same hts hsm) hfin (hC.2.2.2.2.2.2.2.2 hnm) hdecl hty (hn _) (hft _) (by unfold fdsK; rw [List.length_mapIdx]; exact (List.getElem?_eq_some_iff.mp hk).1) hd (fun H1 locs1 hP1 _ hS1 => ?_)
  have e9 : fvK E (upd (mem g 0) f 1) f (some g') = cv E (pR g' 0) := by
    show (if upd (mem g 0) f 1 f = 1 then Value.ref (E.2.2.1 g' 0) else Value.null) = _
    rw [if_pos (by unfold upd; rw [if_pos rfl])]
    rfl
  have hP1 : va_P E.2.1 kcl ((wsK E k mem).set i (E.2.2.1 g 0, .inr (ci, (fdsK E (mem g 0) fs).set f (cv E (pR g' 0))))) H1 := hP1
  rw [fdsK_set (E := E) (r := mem g 0) 1 hk e9, ← gentK_obj (E := E) (r := upd (mem g 0) f 1) hg, wsK_set hKx.2.2.2 hi hac rfl] at hP1
  have hsz1 : Wc E X M k (pc + 3) L st (mset mem g 0 f 1) → W p E.1 e X.1 s m args below meth c H1 locs1 (k - X.2.1) (SLn k - SLn X.2.1) (X.2.2 below args s) (F0 m (pc + 3) ls (st.map (cv E))) := fun kk => by
    have hlow := wsK_low hKx.2.2.2 h120 hP1
    refine W_sz (n := bs E + k) (by omega) (by omega) (fun hz1 => ?_)
    exact kk p e s m args below meth c H1 locs1 ls hC hs0 (hZ.mset hKx.2.2.2 hi hac) hz1 hP1 hS1 hl
  exact hsz1 kk
theorem c_putI {idx g f ci i : Nat} {v : Int32} {fs : List (Option Nat)} (hf : FLK M.1 idx ci f) (hpf : PFK ci f) (hg : gobj g = some (ci, fs)) (hk : fs[f]? = some none) (hi : i < k) (hac : ac[i]? = some (g, 0)) (h0 : X.2.1 ≤ k) (h120 : k ≤ 120) (hd : decode M.2.2.1 pc = .ok (.putfield idx, 3)) (hq : pc + 3 = q) (kk : Wc E X M k q L st (mset mem g 0 f v)) : Wc E X M k pc L (pI v :: pR g 0 :: st) mem := by
  subst hq
  intro p e s m args below meth c H locs ls hC hs0 hZ hsz hP hS hl
  obtain ⟨⟨C, T, N⟩, ref, hc, hkN, hlk, hsm⟩ := hf
  obtain ⟨r2, hc2, hfin, hty⟩ := hpf
  cases hc.symm.trans hc2
  obtain ⟨hin, ⟨ty0, hty0⟩, hnm2⟩ := kcl_ok ci _ hc
  have hts := hC.2.2.2.2.2.1
  have hKx := hC.2.2.2.2.2.2.2.1
  have hw := wsK_in (E := E) (mem := mem) hi hac
  rw [gentK_obj hg] at hw
  refine va_put hC.1 hC.2.1 hts hin ty0 hty0 hnm2 hC.2.2.2.2.1 hKx.1.1 hP (wsK_D hKx.2.2.2) hS i hw hc f hkN (hts _ hlk) (flk_same hts hsm) hfin hty rfl rfl (by unfold fdsK; rw [List.length_mapIdx]; exact (List.getElem?_eq_some_iff.mp hk).1) hd (fun H1 locs1 hP1 _ hS1 => ?_)
  have hP1 : va_P E.2.1 kcl ((wsK E k mem).set i (E.2.2.1 g 0, .inr (ci, (fdsK E (mem g 0) fs).set f (.int v)))) H1 := hP1
  rw [fdsK_set (E := E) (r := mem g 0) v hk (show fvK E (upd (mem g 0) f v) f none = .int v from by show Value.int (upd (mem g 0) f v f) = _; unfold upd; rw [if_pos rfl]), ← gentK_obj (E := E) (r := upd (mem g 0) f v) hg, wsK_set hKx.2.2.2 hi hac rfl] at hP1
  have hsz1 : Wc E X M k (pc + 3) L st (mset mem g 0 f v) → W p E.1 e X.1 s m args below meth c H1 locs1 (k - X.2.1) (SLn k - SLn X.2.1) (X.2.2 below args s) (F0 m (pc + 3) ls (st.map (cv E))) := fun kk => by
    have hlow := wsK_low hKx.2.2.2 h120 hP1
    refine W_sz (n := bs E + k) (by omega) (by omega) (fun hz1 => ?_)
    exact kk p e s m args below meth c H1 locs1 ls hC hs0 (hZ.mset hKx.2.2.2 hi hac) hz1 hP1 hS1 hl
  exact hsz1 kk
theorem c_getR {idx g g' f ci i : Nat} {fs : List (Option Nat)} (hf : FLK M.1 idx ci f) (hg : gobj g = some (ci, fs)) (hk : fs[f]? = some (some g')) (h1 : mem g 0 f = 1) (hi : i < k) (hac : ac[i]? = some (g, 0)) (hd : decode M.2.2.1 pc = .ok (.getfield idx, 3)) (hq : pc + 3 = q) (kk : Wc E X M k q L (pR g' 0 :: st) mem) : Wc E X M k pc L (pR g 0 :: st) mem := by
  subst hq
  intro p e s m args below meth c H locs ls hC hs0 hZ hsz hP hS hl
  obtain ⟨⟨C, T, N⟩, ref, hc, hkN, hlk, hsm⟩ := hf
  have hts := hC.2.2.2.2.2.1
  have hKx := hC.2.2.2.2.2.2.2.1
  have hw := wsK_in (E := E) (mem := mem) hi hac
  rw [gentK_obj hg] at hw
  refine va_get hC.1 hC.2.1 hts (kcl_ok ci _ hc).1 hC.2.2.2.2.1 hKx.1.1 hP i hw hc f hkN (hts _ hlk) (flk_same hts hsm) ((fdsK_at hk).trans (congrArg some (show fvK E (mem g 0) f (some g') = cv E (pR g' 0) from by show (if mem g 0 f = 1 then Value.ref (E.2.2.1 g' 0) else Value.null) = _; rw [if_pos h1]; rfl))) hd ?_
  exact kk p e s m args below meth c H locs ls hC hs0 hZ hsz hP hS hl
theorem c_alen {g i n : Nat} (hg : garr g = some (false, n)) (hi : i < k) (hac : ac[i]? = some (g, 0)) (hd : decode M.2.2.1 pc = .ok (.arraylength, 1)) (hq : pc + 1 = q) (kk : Wc E X M k q L (pI (nI n) :: st) mem) : Wc E X M k pc L (pR g 0 :: st) mem := by
  subst hq
  intro p e s m args below meth c H locs ls hC hs0 hZ hsz hP hS hl
  have hKx := hC.2.2.2.2.2.2.2.1
  have hw := wsK_in (E := E) (mem := mem) hi hac
  rw [gentK_no (garr_no hg), gent_arr hg] at hw
  exact va_alen hC.1 hC.2.1 hKx.1.1 hP i 0 hw rfl rfl hd (kk p e s m args below meth c H locs ls hC hs0 hZ hsz hP hS hl)
theorem c_iast {g i n x : Nat} {v : Int32} (hg : garr g = some (false, n)) (hx : x < n) (hi : i < k) (hac : ac[i]? = some (g, 0)) (h0 : X.2.1 ≤ k) (h120 : k ≤ 120) (hd : decode M.2.2.1 pc = .ok (.iastore, 1)) (hq : pc + 1 = q) (kk : Wc E X M k q L st (mset mem g 0 x v)) : Wc E X M k pc L (pI v :: pI (nI x) :: pR g 0 :: st) mem := by
  subst hq
  intro p e s m args below meth c H locs ls hC hs0 hZ hsz hP hS hl
  have hKx := hC.2.2.2.2.2.2.2.1
  have hn := garr_sz hg
  have hw := wsK_in (E := E) (mem := mem) hi hac
  rw [gentK_no (garr_no hg), gent_arr hg] at hw
  refine va_iast hC.1 hC.2.1 hKx.1.1 hP (wsK_D hKx.2.2.2) hS i 0 hw rfl (vp_in_nI hx (by omega)) hd (fun H1 locs1 hP1 _ hS1 => ?_)
  rw [nI_clamp (show x < 2 ^ 31 by omega)] at hP1
  have hP1 : va_P E.2.1 kcl ((wsK E k mem).set i (E.2.2.1 g 0, .inl (if false = true then E.2.2.2.2.1 else E.2.2.2.1, n, .inl (upd (mem g 0) x v)))) H1 := hP1
  rw [← gent_arr (E := E) (r := upd (mem g 0) x v) hg, ← gentK_no (E := E) (r := upd (mem g 0) x v) (garr_no hg), wsK_set hKx.2.2.2 hi hac rfl] at hP1
  have hlow := wsK_low hKx.2.2.2 h120 hP1
  refine W_sz (n := bs E + k) (by omega) (by omega) (fun hz1 => ?_)
  exact kk p e s m args below meth c H1 locs1 ls hC hs0 (hZ.mset hKx.2.2.2 hi hac) hz1 hP1 hS1 hl
/-- an object comes -/
theorem c_new {idx g ci N : Nat} {C : String} {T : u_T} {fs : List (Option Nat)} (ty : Nat → FieldType) (hty : ∀ k, k < N → parseFieldDescriptor (T k).2.2.1 = some (ty k)) (hg : gobj g = some (ci, fs)) (hc : kcl[ci]? = some (C, T, N)) (hac : ac[k]? = some (g, 0)) (hcl : Cond.classLink M.1 idx C ∈ TB_) (hi : Cond.instantiable C N ∈ TB_) (hini : Cond.initialized C ∈ TB_) (hfs : ∀ j, j < N → defaultValue (ty j) = vp_V (fs.map zv) j) (h0 : X.2.1 ≤ k) (hcells : k - X.2.1 + 1 ≤ X.1.cells) (hslots : SLn k - SLn X.2.1 + N ≤ X.1.slots) (hsl : SLn k - SLn X.2.1 + N ≤ SLn (k + 1) - SLn X.2.1) (hd : decode M.2.2.1 pc = .ok (.new idx, 3)) (hq : pc + 3 = q) (kk : Wc E X M (k + 1) q L (pR g 0 :: st) mem) : Wc E X M k pc L st mem := by
  subst hq
  intro p e s m args below meth c H locs ls hC hs0 hZ hsz hP hS hl
  have hts := hC.2.2.2.2.2.1
  have hKx := hC.2.2.2.2.2.2.2.1
  have hKn := hKx.1.1.1 ci _ hc
  have ha : E.2.2.1 g 0 = H.size := by rw [hKx.2.2.2 k _ hac, hsz]
  refine W.newcK hC.1 hC.2.1 hC.2.2.2.2.1 (hts _ hcl) (hts _ hi) (hts _ hini) rfl hd hcells hslots hKn.2.1 rfl fun H1 kC hkC e1 z1 o1 => ?_
  refine W.widen (k := k + 1 - X.2.1) (n := SLn (k + 1) - SLn X.2.1) (by omega) hsl ?_
  have hb := (u_born ty hts (kcl_ok ci _ hc).1 hKn hkC e1 hty).to hfs
  have := kk p e s m args below meth c H1 locs ls hC hs0 (hZ.more (Nat.le_succ k)) (by rw [z1, hsz]; omega) (wsK_ext hP o1 (fun i c h1 h2 h3 => by
    have hik : i = k := by omega
    subst hik
    cases hac.symm.trans h3
    rw [hZ i _ (Nat.le_refl _) hac, gentK_obj hg, fdsK_zero]
    show va_at _ _ (E.2.2.1 g 0, _) _
    rw [ha]
    exact ⟨_, hc, hb⟩)) ⟨Nat.le_trans hS.1 (by rw [z1]; omega), fun x h1 h2 => (o1 x (Nat.lt_of_lt_of_le h1 hS.1)).trans (hS.2.1 x h1 h2), hS.2.2⟩ hl
  rw [List.map_cons, show cv E (pR g 0) = .ref H.size from by show Value.ref (E.2.2.1 g 0) = _; rw [ha]] at this
  exact this
/-- an array of numbers comes -/
theorem c_newa {g n : Nat} {x : Int32} {z : Bool} (at9 : ArrayType) (hat : newarray.typeOf at9 = if z then .boolean else .int) (hw9 : Cond.arrayClass (newarray.typeOf at9) ∈ TB_) (hg : garr g = some (z, n)) (hac : ac[k]? = some (g, 0)) (hx : x = nI n) (h0 : X.2.1 ≤ k) (hcells : k - X.2.1 + 1 ≤ X.1.cells) (hslots : SLn k - SLn X.2.1 + n ≤ X.1.slots) (hsl : SLn k - SLn X.2.1 + n ≤ SLn (k + 1) - SLn X.2.1) (hd : decode M.2.2.1 pc = .ok (.newarray at9, 2)) (hq : pc + 2 = q) (kk : Wc E X M (k + 1) q L (pR g 0 :: st) mem) : Wc E X M k pc L (pI x :: st) mem := by
  subst hq
  subst hx
  intro p e s m args below meth c H locs ls hC hs0 hZ hsz hP hS hl
  have hts := hC.2.2.2.2.2.1
  have hKx := hC.2.2.2.2.2.2.2.1
  have hn := garr_sz hg
  have ha : E.2.2.1 g 0 = H.size := by rw [hKx.2.2.2 k _ hac, hsz]
  have hcb : componentBytes (newarray.typeOf at9) ≤ 4 := by rw [hat]; cases z <;> decide
  refine va_newaK hC.1 hC.2.1 (hts _ hw9) rfl hd rfl (fun h => absurd (nI_pos' (show n < 2 ^ 31 by omega)) (Int32.not_le.mpr h)) (nI_clamp (by omega)) (Nat.le_trans (Nat.mul_le_mul_left n hcb) (by omega)) hcells hslots rfl fun H1 cA e1 z1 o1 hAr hNm => ?_
  refine W.widen (k := k + 1 - X.2.1) (n := SLn (k + 1) - SLn X.2.1) (by omega) hsl ?_
  have hcA : cA = (if z then E.2.2.2.2.1 else E.2.2.2.1) := by
    cases z with
    | false =>
      rw [hat] at hNm
      have := (hKx.1.1.2 0 _ rfl).2
      exact Option.some.inj (hNm.symm.trans this)
    | true =>
      rw [hat] at hNm
      have := (hKx.1.1.2 1 _ rfl).2
      exact Option.some.inj (hNm.symm.trans this)
  have := kk p e s m args below meth c H1 locs ls hC hs0 (hZ.more (Nat.le_succ k)) (by rw [z1, hsz]; omega) (wsK_ext hP o1 (fun i c h1 h2 h3 => by
    have hik : i = k := by omega
    subst hik
    cases hac.symm.trans h3
    rw [hZ i _ (Nat.le_refl _) hac, gentK_no (garr_no hg), gent_arr hg, ← hcA]
    show va_at _ _ (E.2.2.1 g 0, _) _
    rw [ha]
    show H1[H.size]? = some (vp_cell cA (n, .inl zr))
    rw [e1, hat]
    cases z <;> rfl)) ⟨Nat.le_trans hS.1 (by rw [z1]; omega), fun x h1 h2 => (o1 x (Nat.lt_of_lt_of_le h1 hS.1)).trans (hS.2.1 x h1 h2), hS.2.2⟩ hl
  rw [List.map_cons, show cv E (pR g 0) = .ref H.size from by show Value.ref (E.2.2.1 g 0) = _; rw [ha]] at this
  exact this
end RK
