/-! THE CONSTRUCTORS: arrays of arrays, calls, the end -/
theorem outer_arr (c : ClassId) (N h0 : Nat) : ∀ i : Nat, Jvm.Free.Multi.outerC c N h0 i = arrV c N (fun j => va_rf (if j < i then some (h0 + 1 + j) else none))
  | 0 => by
    show ({ cls := c, slots := Array.replicate N .null, vm := .none } : Cell) = _
    rw [arrV_new]
    exact congrArg (arrV c N) (funext fun j => by simp [va_rf])
  | i + 1 => by
    show (Jvm.Free.Multi.outerC c N h0 i).setSlot i (.ref (h0 + 1 + i)) = _
    rw [outer_arr c N h0 i, arrV_store]
    refine congrArg (arrV c N) (funext fun j => ?_)
    by_cases e : j = i
    · subst e; simp [updV, va_rf]
    · by_cases h : j < i
      · simp [updV, e, h, Nat.lt_succ_of_lt h]
      · simp [updV, e, h, show ¬ j < i + 1 by omega]
theorem PcK_blind (E : En) (args : List PV) (k : Nat) (mem : Mem) : FrameBlind (PcK E args k mem) := by
  intro a U g mk h
  obtain ⟨h1, h2, h3, h4, h5⟩ := h
  exact ⟨h1, h2, h3, h4, h5.blind⟩
section CGK
variable {p : Program} {e : Env} {R : Room} {s : State} {m : MethodId} {args : Array Value} {below : List Frame} {meth : Method} {c : Code} {H : Heap} {locs : List Loc} {ce sl mc ms : Nat} {Qe : State → Prop} {pc : Nat} {ls : Array Slot} {rest st0 : List Value} {aa : Array Value}
theorem call_goK {E : En} {k1 : Nat} {Q' : Mem → Prop} (hr : va_Run p E.1 e R s m args below meth c H locs ce sl mc ms (F0 m pc ls st0) rest (QcK E k1 Q' aa) (bA E)) (hS : va_S (bA E) s.heap H locs)
    (kk : ∀ (mem' : Mem) (H1 : Heap) (locs1 : List Loc), Q' mem' → Zr k1 mem' → H1.size = bs E + k1 → va_P E.2.1 kcl (wsK E k1 mem') H1 → va_S (bA E) s.heap H1 locs1 → W p E.1 e R s m args below meth c H1 locs1 (ce + mc) (sl + ms) Qe (F0 m (pc + 3) ls rest)) : W p E.1 e R s m args below meth c H locs ce sl Qe (F0 m pc ls st0) := by
  intro T hT X
  obtain ⟨v, st₀, t, T', L, h0, X', hL, e1, e2, ⟨⟨u, hv, hp, hz1, hsz, hb⟩, hz, hk⟩, st⟩ := hr T hT X
  have hv : v = none := by injection hv
  subst hv
  rw [h0] at hz hk
  obtain ⟨t2, a1, b1⟩ := kk u T'.heap (locs ++ L) hp hz1 (by rw [e1]; exact hsz) (by rw [e1]; exact hb)
    ⟨Nat.le_trans hS.1 (by rw [e1]; exact hz), fun q h1 h2 => by rw [e1, hk q (Nat.lt_of_lt_of_le h1 hS.1) h2]; exact hS.2.1 q h1 h2, fun q hq => by
      rcases List.mem_append.mp hq with h | h
      · exact hS.2.2 q h
      · exact hL q h⟩ T' rfl X'
  exact ⟨t2, st t2 a1, b1⟩
end CGK
section RK3
variable {E : En} {X : Xk} {M M' : MI_} {d k k1 pc q n idx : Nat} {L : List (Option PV)} {st : List PV} {mem : Mem}
/-- the room that a constructor leaves to one that it calls -/
def RmK (d k k1 : Nat) (X : Xk) : Prop := d + 1 ≤ X.1.frames ∧ 64 * d + 64 ≤ X.1.locals ∧ X.2.1 ≤ k ∧ k ≤ k1 ∧ k - X.2.1 + (k1 - k) ≤ X.1.cells ∧ SLn k - SLn X.2.1 + (SLn k1 - SLn k) ≤ X.1.slots ∧ SLn k - SLn X.2.1 + (SLn k1 - SLn k) ≤ SLn k1 - SLn X.2.1
theorem rmK_hR (hM : MOK M' n) (hR : RmK d k k1 X) : (rmK d k k1).frames + 1 ≤ X.1.frames ∧ 8 + (M'.2.2.2.1 + 11) + (rmK d k k1).locals ≤ X.1.locals := by
  refine ⟨hR.1, ?_⟩
  have h1 := hM.2.2.2.2.2.2
  have h2 := hR.2.1
  show 8 + (M'.2.2.2.1 + 11) + 64 * d ≤ _
  omega
theorem c_call {g : Nat} {As : List PV} (hM : MOK M' n) (hret : M'.2.2.2.2 = none) (hinit : M'.2.1.name = "<init>") (hI : Cond.instanceMethod M'.2.1 ∈ TB_) (hlk : Cond.methodLink M.1 idx M'.2.1 ∈ TB_) (hn : As.length = n) (hst : st.length ≤ 8) (hR : RmK d k k1 X) (hd : decode M.2.2.1 pc = .ok (.invokespecial idx, 3)) (hq : pc + 3 = q)
    (hk : CallK E d M' (pR g 0 :: As) k k1 mem (fun mem' => Wc E X M k1 q L st mem')) : Wc E X M k pc L (As.reverse ++ pR g 0 :: st) mem := by
  subst hq
  intro p e s m args below meth c H locs ls hC hs0 hZ hsz hP hS hl
  have hts := hC.2.2.2.2.2.1
  have hKx := hC.2.2.2.2.2.2.2.1
  rw [map_rev]
  refine call_goK (va_runI (mc := k1 - k) (ms := SLn k1 - SLn k) (As := As.map (cv E)) (rest := st.map (cv E)) ⟨hC.1, hC.2.1, hC.2.2.2.1, hC.2.2.2.2.1, hts⟩ hk (cwI n hts (tb_good (wsM_in hM)) (by unfold wsM; rw [hret]) rfl rfl (hts _ hM.2.2.2.1) (hts _ hlk) (hts _ hI) hinit ⟨hM.2.2.2.2.1.1, hM.2.2.2.2.1.2, hM.2.2.2.2.2.1⟩ (rmK_hR hM hR)) ⟨PcK_blind E _ k mem, fun U hU hW => ⟨rfl, hZ, by rw [hU]; exact hsz, by rw [hU]; exact hP, hKx.call hS hU hW⟩⟩ rfl (by rw [List.length_map]; exact hn) hl.1 rfl (lv_room (by rw [cat_sum]; exact hst)) hd ⟨hR.2.2.2.2.1, hR.2.2.2.2.2.1⟩) hS (fun mem' H1 locs1 hQ hZ1 hz1 hP1 hS1 => ?_)
  have h3 := hR.2.2.1
  have h4 := hR.2.2.2.1
  refine W.widen (k := k1 - X.2.1) (n := SLn k1 - SLn X.2.1) (by omega) hR.2.2.2.2.2.2 ?_
  exact hQ p e s m args below meth c H1 locs1 ls hC hs0 hZ1 hz1 hP1 hS1 hl
theorem c_callN {g : Nat} {As : List PV} (hM : MOK M' n) (hret : M'.2.2.2.2 = none) (hinit : M'.2.1.name = "<init>") (hI : Cond.instanceMethod M'.2.1 ∈ TB_) (hlk : Cond.methodLinkNest M.1 idx M'.2.1 RX8 ∈ NWC) (hn : As.length = n) (hst : st.length ≤ 8) (hR : RmK d k k1 X) (hd : decode M.2.2.1 pc = .ok (.invokespecial idx, 3)) (hq : pc + 3 = q)
    (hk : CallK E d M' (pR g 0 :: As) k k1 mem (fun mem' => Wc E X M k1 q L st mem')) : Wc E X M k pc L (As.reverse ++ pR g 0 :: st) mem := by
  subst hq
  intro p e s m args below meth c H locs ls hC hs0 hZ hsz hP hS hl
  have hts := hC.2.2.2.2.2.1
  have hKx := hC.2.2.2.2.2.2.2.1
  rw [map_rev]
  refine call_goK (va_runIN (mc := k1 - k) (ms := SLn k1 - SLn k) (As := As.map (cv E)) (rest := st.map (cv E)) ⟨hC.1, hC.2.1, hC.2.2.2.1, hC.2.2.2.2.1, hts⟩ hk ⟨va_cnB n hts (tb_good (wsM_in hM)) (by unfold wsM; rw [hret]) rfl rfl (hKx.2.1 _ hlk) (hts _ hM.2.2.2.1) ⟨hM.2.2.2.2.1.1, hM.2.2.2.2.1.2, hM.2.2.2.2.2.1⟩ (rmK_hR hM hR), hinit, hts _ hI⟩ ⟨PcK_blind E _ k mem, fun U hU hW => ⟨rfl, hZ, by rw [hU]; exact hsz, by rw [hU]; exact hP, hKx.call hS hU hW⟩⟩ rfl (by rw [List.length_map]; exact hn) hl.1 rfl (lv_room (by rw [cat_sum]; exact hst)) hd ⟨hR.2.2.2.2.1, hR.2.2.2.2.2.1⟩) hS (fun mem' H1 locs1 hQ hZ1 hz1 hP1 hS1 => ?_)
  have h3 := hR.2.2.1
  have h4 := hR.2.2.2.1
  refine W.widen (k := k1 - X.2.1) (n := SLn k1 - SLn X.2.1) (by omega) hR.2.2.2.2.2.2 ?_
  exact hQ p e s m args below meth c H1 locs1 ls hC hs0 hZ1 hz1 hP1 hS1 hl
theorem c_callS {As : List PV} (hM : MOK M' n) (hret : M'.2.2.2.2 = none) (hI : Cond.static M'.2.1 ∈ TB_) (hlk : Cond.methodLink M.1 idx M'.2.1 ∈ TB_) (hn : As.length = n) (hst : st.length ≤ 8) (hR : RmK d k k1 X) (hd : decode M.2.2.1 pc = .ok (.invokestatic idx, 3)) (hq : pc + 3 = q)
    (hk : CallK E d M' As k k1 mem (fun mem' => Wc E X M k1 q L st mem')) : Wc E X M k pc L (As.reverse ++ st) mem := by
  subst hq
  intro p e s m args below meth c H locs ls hC hs0 hZ hsz hP hS hl
  have hts := hC.2.2.2.2.2.1
  have hKx := hC.2.2.2.2.2.2.2.1
  have hG : GoodIn TB_ (va_wsS M.1 idx M'.2.1 (wsM M')) := tb_good (fun w hw => by
    unfold va_wsS at hw
    rcases List.mem_append.mp hw with h | h
    · simp only [List.mem_cons, List.not_mem_nil, or_false] at h
      rcases h with rfl | rfl | rfl
      · exact hlk
      · exact hI
      · exact hM.2.2.2.1
    · exact wsM_in hM w h)
  rw [map_rev0]
  refine call_goK (va_runS (mc := k1 - k) (ms := SLn k1 - SLn k) (As := As.map (cv E)) (rest := st.map (cv E)) ⟨hC.1, hC.2.1, hC.2.2.2.1, hC.2.2.2.2.1, hts⟩ hk (va_cwS n hts hG rfl rfl rfl ⟨hM.2.2.2.2.1.1, hM.2.2.2.2.1.2, hM.2.2.2.2.2.1⟩ (rmK_hR hM hR)) ⟨PcK_blind E _ k mem, fun U hU hW => ⟨rfl, hZ, by rw [hU]; exact hsz, by rw [hU]; exact hP, hKx.call hS hU hW⟩⟩ rfl (by rw [List.length_map]; exact hn) hl.1 rfl (lv_room (by rw [cat_sum]; exact hst)) hd ⟨hR.2.2.2.2.1, hR.2.2.2.2.2.1⟩) hS (fun mem' H1 locs1 hQ hZ1 hz1 hP1 hS1 => ?_)
  have h3 := hR.2.2.1
  have h4 := hR.2.2.2.1
  refine W.widen (k := k1 - X.2.1) (n := SLn k1 - SLn X.2.1) (by omega) hR.2.2.2.2.2.2 ?_
  exact hQ p e s m args below meth c H1 locs1 ls hC hs0 hZ1 hz1 hP1 hS1 hl
theorem c_ret {k0 : Nat} {Q : Mem → Prop} (hr : M.2.2.2.2 = none) (hd : decode M.2.2.1 pc = .ok (.return_, 1)) (h : Q mem) : Wc E (xk E d k0 k1 Q) M k1 pc L [] mem := by
  intro p e s m args below meth c H locs ls hC hs0 hZ hsz hP hS hl
  have hlk := hC.2.2.2.2.2.2.1
  exact W.vret hC.1 hC.2.1 (hC.2.2.1.trans hr) (fun t ht _ => ⟨⟨mem, rfl, h, hZ, by rw [ht]; exact hsz, by rw [ht]; exact hP⟩, hS.F ht⟩) hS.2.2 hd hlk
/-- an array of arrays of numbers comes, and its rows behind it -/
theorem c_mna {g t w : Nat} (hg : gref g = some (n, t)) (ht : garr t = some (false, w)) (hac : ac[k]? = some (g, 0)) (hrows : ∀ i, i < n → ac[k + 1 + i]? = some (t, i)) (hcl : Cond.classLink M.1 idx "[[I" ∈ TB_) (harr : Cond.arrayClass .int ∈ TB_) (h0 : X.2.1 ≤ k) (hcells : k - X.2.1 + (1 + n) ≤ X.1.cells) (hslots : SLn k - SLn X.2.1 + (n + n * w) ≤ X.1.slots) (hsl : SLn k - SLn X.2.1 + n + n * w ≤ SLn (k + 1 + n) - SLn X.2.1) (hd : decode M.2.2.1 pc = .ok (.multianewarray idx 2, 4)) (hq : pc + 4 = q) (kk : Wc E X M (k + 1 + n) q L (pR g 0 :: st) mem) : Wc E X M k pc L (pI (nI w) :: pI (nI n) :: st) mem := by
  subst hq
  intro p e s m args below meth c H locs ls hC hs0 hZ hsz hP hS hl
  have hts := hC.2.2.2.2.2.1
  have hKx := hC.2.2.2.2.2.2.2.1
  have hn := gref_sz hg
  have hw := garr_sz ht
  have cn : (nI n).toNatClampNeg = n := nI_clamp (by omega)
  have cw : (nI w).toNatClampNeg = w := nI_clamp (by omega)
  have ha : E.2.2.1 g 0 = H.size := by rw [hKx.2.2.2 k _ hac, hsz]
  have har : ∀ i, i < n → E.2.2.1 t i = H.size + 1 + i := fun i hi => by rw [hKx.2.2.2 _ _ (hrows i hi), hsz]; omega
  have hover : (Cond.arrayOver (.array .int)).before args s = true := arrayOver_alikeB (s := s) (U := s) (Vm.Alike.refl s.vm) hKx.2.2.1
  refine W.widen (k := k - X.2.1) (n := SLn k - SLn X.2.1) (Nat.le_refl _) (Nat.le_refl _) ?_
  intro T hT Xs
  obtain ⟨vm₁, cA, comp, -, fA, fC, -, -, X', step⟩ := Xs.multianewarray2F hC.1 (own := M.1) (ty := .int) hC.2.2.2.2.1 (hts _ hcl) hover (hts _ harr) (g := F0 m pc ls (.int (nI w) :: .int (nI n) :: st.map (cv E))) rfl (by rw [hC.2.1]; exact hd) rfl (fun h => absurd (nI_pos' (show n < 2 ^ 31 by omega)) (Int32.not_le.mpr h)) (fun h => absurd (nI_pos' (show w < 2 ^ 31 by omega)) (Int32.not_le.mpr h)) (by rw [cn]; omega) (by rw [cw]; show w * 4 ≤ _; omega) (by rw [cw]; omega) rfl rfl (by rw [cn]; exact hcells) (by rw [cn, cw]; exact hslots)
  rw [cn, cw] at X' step
  have hTh : (T.setVm vm₁).heap = H := hT
  have ecA : cA = E.2.2.2.2.2 := Option.some.inj (fA.symm.trans (hKx.1.1.2 2 _ rfl).2)
  have ecI : comp = E.2.2.2.1 := Option.some.inj (fC.symm.trans (hKx.1.1.2 0 _ rfl).2)
  obtain ⟨f1, f2, -, -⟩ := Jvm.Free.Multi.fill_facts (T.setVm vm₁) cA comp n w (defaultValue .int) n
  have hold : ∀ x : Nat, x < H.size → (Jvm.Free.Multi.fill (T.setVm vm₁) cA comp n w (defaultValue .int) n).heap[x]? = H[x]? := fun x hx => by
    have := Jvm.Free.Multi.fill_old (T.setVm vm₁) cA comp n w (defaultValue .int) (a := x) (by rw [hTh]; exact hx) n
    rw [hTh] at this
    exact this
  have hrow : ∀ j : Nat, j < n → (Jvm.Free.Multi.fill (T.setVm vm₁) cA comp n w (defaultValue .int) n).heap[H.size + 1 + j]? = some (Jvm.Free.Multi.innerC comp w (defaultValue .int)) := fun j hj => by
    have := Jvm.Free.Multi.fill_inner (T.setVm vm₁) cA comp n w (defaultValue .int) n j hj
    rw [hTh] at this
    exact this
  rw [hTh] at f1 f2
  rw [outer_arr] at f2
  generalize Jvm.Free.Multi.fill (T.setVm vm₁) cA comp n w (defaultValue .int) n = F at X' step f1 f2 hold hrow
  have hPF : va_P E.2.1 kcl (wsK E (k + 1 + n) mem) F.heap := wsK_ext hP hold (fun i c h1 h2 h3 => by
    by_cases e : i = k
    · subst e
      cases hac.symm.trans h3
      rw [gentK_no (gref_no hg).1, gent_ref hg]
      show F.heap[E.2.2.1 g 0]? = some (vp_cell _ _)
      rw [ha, f2, vp_cell_q, ecA]
      refine congrArg some (congrArg (arrV _ n) (funext fun j => ?_))
      by_cases hj : j < n
      · rw [if_pos hj, if_pos hj, har j hj]
      · rw [if_neg hj, if_neg hj]
    · obtain ⟨j, rfl⟩ : ∃ j, i = k + 1 + j := ⟨i - (k + 1), by omega⟩
      have hj : j < n := by omega
      cases (hrows j hj).symm.trans h3
      rw [hZ _ _ (by omega) h3, gentK_no (garr_no ht), gent_arr ht]
      show F.heap[E.2.2.1 t j]? = some (vp_cell _ _)
      rw [har j hj, hrow j hj, ecI]
      show some ({ cls := E.2.2.2.1, slots := Array.replicate w (.int 0), vm := .none } : Cell) = _
      rw [arrV_new]
      rfl)
  have K := kk p e s m args below meth c F.heap locs ls hC hs0 (hZ.more (by omega)) (by rw [f1, hsz]; omega) hPF ⟨by rw [f1]; have := hS.1; omega, fun x h1 h2 => (hold x (Nat.lt_of_lt_of_le h1 hS.1)).trans (hS.2.1 x h1 h2), hS.2.2⟩ hl
  have K2 := W.widen (k := k + 1 + n - X.2.1) (n := SLn (k + 1 + n) - SLn X.2.1) (cells := k - X.2.1 + 1 + n) (slots := SLn k - SLn X.2.1 + n + n * w) (by omega) hsl K
  obtain ⟨t9, a1, b1⟩ := K2 F rfl X'
  refine ⟨t9, step t9 ?_, b1⟩
  have e1 : T.heap.size = H.size := by rw [hT]
  rw [List.map_cons, show cv E (pR g 0) = .ref H.size from by show Value.ref (E.2.2.1 g 0) = _; rw [ha]] at a1
  rw [e1]
  exact a1
end RK3
/-- Arrays.fill over the first cells -/
theorem fill_okK {E : En} {d k g i n : Nat} {v : Int32} {mem : Mem} {Q : Mem → Prop} (hg : garr g = some (false, n)) (hi : i < k) (hac : ac[i]? = some (g, 0)) (h120 : k ≤ 120) (hQ : Q (mrow mem g 0 (fun i => if i < n then v else mem g 0 i))) : CallK E d mJ7_fill_53178 [pR g 0, pI v] k k mem Q := by
  refine CallK.of [some (pR g 0), some (pI v), none, none] mk_J7_fill_53178 rfl (Nat.le_of_ble_eq_true rfl) ?_
  have hn := garr_sz hg
  refine c_iconst (q := 1) 0 (by decide) dJ7_fill_53178_0 rfl ?_
  refine c_istore_n (q := 2) (by decide) dJ7_fill_53178_1 rfl ?_
  refine c_aload_n (q := 3) rfl dJ7_fill_53178_2 rfl ?_
  refine c_alen (q := 4) hg hi hac dJ7_fill_53178_3 rfl ?_
  refine c_istore_n (q := 5) (by decide) dJ7_fill_53178_4 rfl ?_
  suffices H : ∀ k9 x, n - x < k9 → x ≤ n → Wc E (xk E d k k Q) mJ7_fill_53178 k 5 [some (pR g 0), some (pI v), some (pI (nI x)), some (pI (nI n))] [] (mrow mem g 0 (fun i' => if i' < x then v else mem g 0 i')) from by
    have := H (n + 1) 0 (by omega) (by omega)
    rw [show (fun i' => if i' < 0 then v else mem g 0 i') = mem g 0 from funext fun i' => if_neg (by omega), mrow_id] at this
    exact this
  intro k9
  induction k9 with
  | zero => intro q h; omega
  | succ k9 ih =>
    intro x h1 h2
    refine c_iload_n (q := 6) rfl dJ7_fill_53178_5 rfl ?_
    refine c_iload_n (q := 7) rfl dJ7_fill_53178_6 rfl ?_
    refine c_icmp_ge (q := 10) 20 dJ7_fill_53178_7 (by decide) rfl (fun h7 => ?_) (fun h7 => ?_)
    · have hb := nI_ge_of (by omega) (by omega) h7
      have hb : x = n := by omega
      subst hb
      exact c_ret rfl dJ7_fill_53178_20 hQ
    · have hx : x < n := nI_lt_of (by omega) h7
      refine c_aload_n (q := 11) rfl dJ7_fill_53178_10 rfl ?_
      refine c_iload_n (q := 12) rfl dJ7_fill_53178_11 rfl ?_
      refine c_iload_n (q := 13) rfl dJ7_fill_53178_12 rfl ?_
      refine c_iast (q := 14) hg hx hi hac (Nat.le_refl k) h120 dJ7_fill_53178_13 rfl ?_
      rw [mset_mrow, show upd (fun i' => if i' < x then v else mem g 0 i') x v = fun i' => if i' < x + 1 then v else mem g 0 i' from funext fun i' => by
        unfold upd
        by_cases e : i' = x
        · subst e; simp
        · rw [if_neg e]
          by_cases e2 : i' < x
          · rw [if_pos (show i' < x + 1 by omega)]; exact if_pos e2
          · rw [if_neg (show ¬ i' < x + 1 by omega)]; exact if_neg e2]
      refine c_iinc (q := 17) _ (nI_inc _) (by decide) rfl dJ7_fill_53178_14 rfl ?_
      refine c_goto 5 dJ7_fill_53178_17 (by decide) ?_
      exact ih (x + 1) (by omega) (by omega)
