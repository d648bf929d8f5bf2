/-! THE REFERENCE: works, the rows of sets -/
theorem TbT.fr {B : BD} {L : LD} {t : Nat} {gs : List Nat} {a b : Mem} (h : TbT B L t a) (hF : Fr gs a b) (h0 : 49 ∉ gs) (h1 : 50 ∉ gs) (h2 : 51 ∉ gs) : TbT B L t b := by
  unfold TbT
  rw [hF 49 h0, hF 50 h1, hF 51 h2]
  exact h
theorem CwT.fr {B : BD} {t : Nat} {gs : List Nat} {a b : Mem} (h : CwT B t a) (hF : Fr gs a b) (h0 : 52 ∉ gs) (h1 : 53 ∉ gs) : CwT B t b := by
  unfold CwT
  rw [hF 52 h0, hF 53 h1]
  exact h
def brkP (B : BD) (L : LD) (s : Nat) : Nat → Bool := fun b => decide (L.2.1 b < sumN B s b ∨ sumN B s b + noMo b < L.1 b)
theorem brkP_lies {B : BD} {L : LD} (hW : WFB B) (hWL : WFL L) (s b : Nat) : decide (nI (L.1 b) ≤ nI (sumN B s b) ∧ nI (sumN B s b) ≤ nI (L.2.1 b)) = !brkP B L s b := by
  have hw := hWL b
  have hsm := sumN_le hW s b
  unfold brkP
  rw [Bool.eq_iff_iff, decide_eq_true_iff, nI_leI (by omega) (by omega), nI_leI (by omega) (by omega), Bool.not_eq_true', decide_eq_false_iff_not]
  show _ ↔ ¬ (_ ∨ sumN B s b + 0 < _)
  omega
theorem xor_off_lt {t i : Nat} (h : t.testBit i = true) : t ^^^ 2 ^ i < t := by
  have e : t ^^^ 2 ^ i = andn t (2 ^ i) := by
    apply tb_ext
    intro j
    rw [andn_tb, Nat.testBit_xor, tb_pow]
    by_cases z : i = j
    · subst z; simp [h]
    · simp [z]
  rw [e]
  exact andn_lt_self h
section WL
variable {E : En} {d : Nat} {mem : Mem} {Q : Int32 → Mem → Prop} {B : BD} {L : LD}
theorem wk_low (hh : handB B ≤ 16) {t : Nat} (ht : t < 2 ^ handB B) {o3 o4 o5 : Option PV} (hA : Wa B L mem) (K : ∀ i, (i = handB B ∧ t = 0) ∨ (i < handB B ∧ t.testBit i = true) → Wp E (wkX E d Q) mX9_works 236 [some (pR 36 0), some (pI (nI t)), some (pI (nI i)), o3, o4, o5] [] mem) : ∀ (j i : Nat), handB B - i < j → i ≤ handB B → (∀ k, k < i → t.testBit k = false) → Wp E (wkX E d Q) mX9_works 214 [some (pR 36 0), some (pI (nI t)), some (pI (nI i)), o3, o4, o5] [] mem := by
  have ht31 : t < 2 ^ 31 := Nat.lt_of_lt_of_le ht (Nat.pow_le_pow_right (by decide) (by omega))
  intro j
  induction j with
  | zero => intro k h; omega
  | succ j ih =>
    intro i h1 h2 h3
    refine r_iload_2 (q := 215) dX9_works_214 rfl ?_
    refine r_aload_0 (q := 216) dX9_works_215 rfl ?_
    refine r_getI (k := 14) (q := 219) f_RX9_131_8 rfl rfl dX9_works_216 rfl ?_
    rw [hA.2.2.1]
    refine r_icmp_ge (q := 222) 236 dX9_works_219 (by decide) rfl (fun h219 => ?_) (fun h219 => ?_)
    · have hk := nI_ge_of (by omega) (by omega) h219
      have hk : i = handB B := by omega
      refine K i (Or.inl ⟨hk, tb_ext (fun k => ?_)⟩)
      rw [Nat.zero_testBit]
      by_cases z : k < i
      · exact h3 k z
      · exact tb_hi ht (by omega)
    · have hk : i < handB B := nI_lt_of (by omega) h219
      refine r_iload_1 (q := 223) dX9_works_222 rfl ?_
      refine r_iload_2 (q := 224) dX9_works_223 rfl ?_
      refine r_callS2i (M' := mX9_has) (q := 227) mk_X9_has ms_X9_has k_746 rfl (Nat.le_of_ble_eq_true rfl) rm_xm dX9_works_224 rfl (mhas_ok ht31 (by omega) ?_)
      refine r_if_ne (q := 230) 236 dX9_works_227 (by decide) rfl (fun h227 => ?_) (fun h227 => ?_)
      · exact K i (Or.inr ⟨hk, b2_ne0.mp h227⟩)
      · have h227 := b2_eq0.mp h227
        refine r_iinc_2 (q := 233) _ (nI_inc _) (by decide) dX9_works_230 rfl ?_
        refine r_goto 214 dX9_works_233 (by decide) ?_
        refine ih (i + 1) (by omega) (by omega) (fun k hk' => ?_)
        by_cases z : k = i
        · subst z; exact h227
        · exact h3 k (by omega)
theorem wk_b (hW : WFB B) (hWL : WFL L) (hh : handB B ≤ 16) {t i w : Nat} (ht : t < 2 ^ handB B) (hi : (i = handB B ∧ t = 0) ∨ (i < handB B ∧ t.testBit i = true ∧ w = t ^^^ 2 ^ i)) (K : ∀ m o5, Fr [49, 51] mem m → TbT B L t m → (∀ b, b < 10 → m 49 0 (10 * t + b) = nI (sumN B (tolN B t) b)) → m 51 0 t = nI (brokenB L (sumN B (tolN B t)) noMo) → Wp E (wkX E d Q) mX9_works 369 [some (pR 36 0), some (pI (nI t)), some (pI (nI i)), some (pI (nI w)), some (pI (nI 10)), o5] [] m) : ∀ (j b : Nat) (m : Mem) (o5 : Option PV), 10 - b < j → b ≤ 10 → Fr [49, 51] mem m → Wa B L m → TbT B L t m → (∀ b', b' < b → m 49 0 (10 * t + b') = nI (sumN B (tolN B t) b')) → m 51 0 t = nI (bset (brkP B L (tolN B t)) b) → Wp E (wkX E d Q) mX9_works 264 [some (pR 36 0), some (pI (nI t)), some (pI (nI i)), some (pI (nI w)), some (pI (nI b)), o5] [] m := by
  have ht16 : t < 2 ^ 16 := Nat.lt_of_lt_of_le ht (Nat.pow_le_pow_right (by decide) hh)
  have h24 := hW.1
  intro j
  induction j with
  | zero => intro k m _ h; omega
  | succ j ih =>
    intro b m o5 h1 h2 hF hA hT e49 e51
    have hB := hA.1
    refine r_iload_4 (q := 266) dX9_works_264 rfl ?_
    refine r_bipush (q := 268) 10 (by decide) dX9_works_266 rfl ?_
    refine r_icmp_ge (q := 271) 369 dX9_works_268 (by decide) rfl (fun h268 => ?_) (fun h268 => ?_)
    · have hk := nI_ge_of (a := 10) (by decide) (by omega) h268
      have hk : b = 10 := by omega
      subst hk
      exact K m o5 hF hT e49 e51
    · have hb : b < 10 := nI_lt_of (a := 10) (by omega) h268
      have J : Wp E (wkX E d Q) mX9_works 308 [some (pR 36 0), some (pI (nI t)), some (pI (nI i)), some (pI (nI w)), some (pI (nI b)), o5] [pI (nI (sumN B (tolN B t) b))] m := by
        refine r_istore_5 (q := 310) (by decide) dX9_works_308 rfl ?_
        refine r_aload_0 (q := 311) dX9_works_310 rfl ?_
        refine r_getR (k := 16) (q := 314) f_RX9_51_8 rfl rfl dX9_works_311 rfl ?_
        refine r_bipush (q := 316) 10 (by decide) dX9_works_314 rfl ?_
        refine r_iload_1 (q := 317) dX9_works_316 rfl ?_
        refine r_imul (q := 318) dX9_works_317 rfl ?_
        rw [show (10 : Int32) * nI t = nI (10 * t) from pk_mul 10 t]
        refine r_iload_4 (q := 320) dX9_works_318 rfl ?_
        refine r_iadd (q := 321) dX9_works_320 rfl ?_
        rw [nI_add]
        refine r_iload_5 (q := 323) dX9_works_321 rfl ?_
        refine r_iast (q := 324) _ rfl rfl (by first | omega | assumption | decide) dX9_works_323 rfl ?_
        generalize hm1 : mset m 49 0 (10 * t + b) (nI (sumN B (tolN B t) b)) = m1
        have hF1 : Fr [49] m m1 := by rw [← hm1]; exact Fr.rf.mset (by simp)
        have hA1 := hA.fr hF1 (by simp)
        have g49 : ∀ x, ¬ x = 10 * t + b → m1 49 0 x = m 49 0 x := fun x hx => by
          rw [← hm1, mset_self]; unfold upd; rw [if_neg hx]
        have g49' : m1 49 0 (10 * t + b) = nI (sumN B (tolN B t) b) := by rw [← hm1, mset_at]
        have a51 : m1 51 0 t = nI (bset (brkP B L (tolN B t)) b) := by rw [hF1 51 (by decide)]; exact e51
        have hT1 : TbT B L t m1 := by
          intro s hs
          have hh2 := hT s hs
          rw [hF1 50 (by decide), hF1 51 (by decide)]
          exact ⟨fun b' hb' => by rw [g49 _ (by omega)]; exact hh2.1 b' hb', hh2.2⟩
        clear hm1
        have J2 : ∀ x : Nat, bset (brkP B L (tolN B t)) b ||| x = bset (brkP B L (tolN B t)) (b + 1) → Wp E (wkX E d Q) mX9_works 361 [some (pR 36 0), some (pI (nI t)), some (pI (nI i)), some (pI (nI w)), some (pI (nI b)), some (pI (nI (sumN B (tolN B t) b)))] [pI (nI x), pI (nI (bset (brkP B L (tolN B t)) b)), pI (nI t), pR 51 0] m1 := by
          intro x hx
          refine r_ior (q := 362) dX9_works_361 rfl ?_
          rw [nb_or, hx]
          refine r_iast (q := 363) _ rfl rfl (by first | omega | assumption | decide) dX9_works_362 rfl ?_
          refine r_iinc_4 (q := 366) _ (nI_inc _) (by decide) dX9_works_363 rfl ?_
          refine r_goto 264 dX9_works_366 (by decide) ?_
          refine ih (b + 1) _ _ (by omega) (by omega) ((hF.tr (hF1.mono (by simp))).mset (by simp)) (hA1.fr (Fr.rf.mset (gs := [51]) (by simp)) (by simp)) ?_ ?_ ?_
          · intro s hs
            have hh2 := hT1 s hs
            rw [mset_g _ _ _ _ (show (49 : Nat) ≠ 51 by decide), mset_g _ _ _ _ (show (50 : Nat) ≠ 51 by decide), mset_self]
            unfold upd
            rw [if_neg (by omega)]
            exact hh2
          · intro b' hb'
            rw [mset_g _ _ _ _ (show (49 : Nat) ≠ 51 by decide)]
            by_cases z : b' = b
            · subst z; exact g49'
            · rw [g49 _ (by omega)]; exact e49 b' (by omega)
          · rw [mset_at]
        refine r_aload_0 (q := 325) dX9_works_324 rfl ?_
        refine r_getR (k := 18) (q := 328) f_RX9_59_8 rfl rfl dX9_works_325 rfl ?_
        refine r_iload_1 (q := 329) dX9_works_328 rfl ?_
        refine r_dup2 (q := 330) dX9_works_329 rfl ?_
        refine r_iald (q := 331) _ rfl rfl (by first | omega | assumption | decide) dX9_works_330 rfl ?_
        rw [a51]
        refine r_iload_5 (q := 333) dX9_works_331 rfl ?_
        refine r_aload_0 (q := 334) dX9_works_333 rfl ?_
        refine r_getR (k := 11) (q := 337) f_RX9_38_8 rfl rfl dX9_works_334 rfl ?_
        refine r_iload_4 (q := 339) dX9_works_337 rfl ?_
        refine r_iald (q := 340) _ rfl rfl (by first | omega | assumption | decide) dX9_works_339 rfl ?_
        rw [(hA1.2.1 b).1]
        refine r_aload_0 (q := 341) dX9_works_340 rfl ?_
        refine r_getR (k := 12) (q := 344) f_RX9_41_8 rfl rfl dX9_works_341 rfl ?_
        refine r_iload_4 (q := 346) dX9_works_344 rfl ?_
        refine r_iald (q := 347) _ rfl rfl (by first | omega | assumption | decide) dX9_works_346 rfl ?_
        rw [(hA1.2.1 b).2.1]
        refine r_callS3i (M' := mX9_lies) (q := 350) mk_X9_lies ms_X9_lies k_731 rfl (Nat.le_of_ble_eq_true rfl) rm_xm dX9_works_347 rfl (lies_ok ?_)
        rw [brkP_lies hW hWL]
        refine r_if_eq (q := 353) 357 dX9_works_350 (by decide) rfl (fun h350 => ?_) (fun h350 => ?_)
        · have h350 := bnot_f (b2_eq0.mp h350)
          refine r_iconst (q := 358) 1 (by decide) dX9_works_357 rfl ?_
          refine r_iload_4 (q := 360) dX9_works_358 rfl ?_
          refine r_ishl (q := 361) dX9_works_360 rfl ?_
          rw [nb_shl1 b (by omega)]
          exact J2 _ (by rw [bset, if_pos h350])
        · have h350 : ¬ brkP B L (tolN B t) b = true := fun z => by
            have := b2_ne0.mp h350
            rw [z] at this
            cases this
          refine r_iconst (q := 354) 0 (by decide) dX9_works_353 rfl ?_
          refine r_goto 361 dX9_works_354 (by decide) ?_
          exact J2 0 (by rw [bset, if_neg h350, Nat.or_zero])
      refine r_iload_2 (q := 272) dX9_works_271 rfl ?_
      refine r_aload_0 (q := 273) dX9_works_272 rfl ?_
      refine r_getI (k := 14) (q := 276) f_RX9_131_8 rfl rfl dX9_works_273 rfl ?_
      rw [hA.2.2.1]
      refine r_icmp_ge (q := 279) 307 dX9_works_276 (by decide) rfl (fun h276 => ?_) (fun h276 => ?_)
      · have hk := nI_ge_of (by omega) (by omega) h276
        rcases hi with ⟨a1, a2⟩ | ⟨a1, a2, a3⟩
        · refine r_iconst (q := 308) 0 (by decide) dX9_works_307 rfl ?_
          have e0 : sumN B (tolN B t) b = 0 := by rw [a2, tol_zero, sumN_zero]
          rw [e0] at J
          exact J
        · omega
      · have hk : i < handB B := nI_lt_of (by omega) h276
        rcases hi with ⟨a1, a2⟩ | ⟨a1, a2, a3⟩
        · omega
        · have hw : w < t := by rw [a3]; exact xor_off_lt a2
          have hhi := hnd_in a1
          refine r_aload_0 (q := 280) dX9_works_279 rfl ?_
          refine r_getR (k := 16) (q := 283) f_RX9_51_8 rfl rfl dX9_works_280 rfl ?_
          refine r_bipush (q := 285) 10 (by decide) dX9_works_283 rfl ?_
          refine r_iload_3 (q := 286) dX9_works_285 rfl ?_
          refine r_imul (q := 287) dX9_works_286 rfl ?_
          rw [show (10 : Int32) * nI w = nI (10 * w) from pk_mul 10 w]
          refine r_iload_4 (q := 289) dX9_works_287 rfl ?_
          refine r_iadd (q := 290) dX9_works_289 rfl ?_
          rw [nI_add]
          refine r_iald (q := 291) _ rfl rfl (by first | omega | assumption | decide) dX9_works_290 rfl ?_
          rw [(hT w hw).1 b hb]
          refine r_aload_0 (q := 292) dX9_works_291 rfl ?_
          refine r_aload_0 (q := 293) dX9_works_292 rfl ?_
          refine r_getR (k := 15) (q := 296) f_RX9_47_8 rfl rfl dX9_works_293 rfl ?_
          refine r_iload_2 (q := 297) dX9_works_296 rfl ?_
          refine r_iald (q := 298) _ rfl rfl (by first | omega | assumption | decide) dX9_works_297 rfl ?_
          rw [hA.2.2.2 i a1]
          refine r_iload_4 (q := 300) dX9_works_298 rfl ?_
          refine r_callV2i (M' := mX9_adds) (q := 303) mk_X9_adds mi_X9_adds k_789 rfl rfl rfl rfl (Nat.le_of_ble_eq_true rfl) rm_xm dX9_works_300 rfl (madds_ok hB hW hhi.1 hb ?_)
          refine r_iadd (q := 304) dX9_works_303 rfl ?_
          rw [nI_add, a3, ← sumN_tol a1 a2]
          refine r_goto 308 dX9_works_304 (by decide) ?_
          rw [← a3]
          exact J
theorem wk_fit (hW : WFB B) (hh : handB B ≤ 16) {t : Nat} (ht : t < 2 ^ handB B) {o2 o3 o5 : Option PV} (K : ∀ m, Fr [50] mem m → m 50 0 t = b2 (fitM B t) → (∀ s, ¬ s = t → m 50 0 s = mem 50 0 s) → Wp E (wkX E d Q) mX9_works 436 [some (pR 36 0), some (pI (nI t)), o2, o3, some (pI (nI (handB B))), o5] [] m) : ∀ (j k : Nat) (m : Mem), handB B - k < j → k ≤ handB B → Fr [50] mem m → (∀ s, ¬ s = t → m 50 0 s = mem 50 0 s) → Wa B L m → CwT B (handB B) m → m 50 0 t = b2 (allb (fitK B t) k) → Wp E (wkX E d Q) mX9_works 379 [some (pR 36 0), some (pI (nI t)), o2, o3, some (pI (nI k)), o5] [] m := by
  have ht16 : t < 2 ^ 16 := Nat.lt_of_lt_of_le ht (Nat.pow_le_pow_right (by decide) hh)
  intro j
  induction j with
  | zero => intro k m h; omega
  | succ j ih =>
    intro k m h1 h2 hF hO hA hC e50
    refine r_iload_4 (q := 381) dX9_works_379 rfl ?_
    refine r_aload_0 (q := 382) dX9_works_381 rfl ?_
    refine r_getI (k := 14) (q := 385) f_RX9_131_8 rfl rfl dX9_works_382 rfl ?_
    rw [hA.2.2.1]
    refine r_icmp_ge (q := 388) 436 dX9_works_385 (by decide) rfl (fun h385 => ?_) (fun h385 => ?_)
    · have hk := nI_ge_of (by omega) (by omega) h385
      have hk : k = handB B := by omega
      subst hk
      exact K m hF e50 hO
    · have hk : k < handB B := nI_lt_of (by omega) h385
      have hcl := clM_lt hh k
      have hwl := whT_lt hh k (bN B)
      have nx : fitK B t k = true → Wp E (wkX E d Q) mX9_works 430 [some (pR 36 0), some (pI (nI t)), o2, o3, some (pI (nI k)), o5] [] m := by
        intro hf
        refine r_iinc_4 (q := 433) _ (nI_inc _) (by decide) dX9_works_430 rfl ?_
        refine r_goto 379 dX9_works_433 (by decide) ?_
        exact ih (k + 1) m (by omega) (by omega) hF hO hA hC (by rw [e50, allb, hf, Bool.and_true])
      have bad : fitK B t k = false → Wp E (wkX E d Q) mX9_works 423 [some (pR 36 0), some (pI (nI t)), o2, o3, some (pI (nI k)), o5] [] m := by
        intro hf
        refine r_aload_0 (q := 424) dX9_works_423 rfl ?_
        refine r_getR (k := 17) (q := 427) f_RX9_55_8 rfl rfl dX9_works_424 rfl ?_
        refine r_iload_1 (q := 428) dX9_works_427 rfl ?_
        refine r_iconst (q := 429) 0 (by decide) dX9_works_428 rfl ?_
        refine r_zast (q := 430) _ rfl (by first | exact Or.inl rfl | exact Or.inr rfl | assumption) rfl (by first | omega | assumption | decide) dX9_works_429 rfl ?_
        refine r_iinc_4 (q := 433) _ (nI_inc _) (by decide) dX9_works_430 rfl ?_
        refine r_goto 379 dX9_works_433 (by decide) ?_
        refine ih (k + 1) _ (by omega) (by omega) (hF.mset (by simp)) (fun s hs => ?_) (hA.fr (Fr.rf.mset (gs := [50]) (by simp)) (by simp)) (hC.fr (Fr.rf.mset (gs := [50]) (by simp)) (by simp) (by simp)) ?_
        · rw [mset_self]; unfold upd; rw [if_neg hs]; exact hO s hs
        · rw [mset_at, allb, hf, Bool.and_false]; rfl
      refine r_iload_1 (q := 389) dX9_works_388 rfl ?_
      refine r_iload_4 (q := 391) dX9_works_389 rfl ?_
      refine r_callS2i (M' := mX9_has) (q := 394) mk_X9_has ms_X9_has k_746 rfl (Nat.le_of_ble_eq_true rfl) rm_xm dX9_works_391 rfl (mhas_ok (Nat.lt_trans ht16 (by decide)) (by omega) ?_)
      refine r_if_eq (q := 397) 430 dX9_works_394 (by decide) rfl (fun h394 => ?_) (fun h394 => ?_)
      · exact nx (by unfold fitK; rw [b2_eq0.mp h394]; rfl)
      · have h394 := b2_ne0.mp h394
        refine r_aload_0 (q := 398) dX9_works_397 rfl ?_
        refine r_getR (k := 19) (q := 401) f_RX9_62_8 rfl rfl dX9_works_398 rfl ?_
        refine r_iload_4 (q := 403) dX9_works_401 rfl ?_
        refine r_iald (q := 404) _ rfl rfl (by first | omega | assumption | decide) dX9_works_403 rfl ?_
        rw [(hC k hk).1]
        refine r_iload_1 (q := 405) dX9_works_404 rfl ?_
        refine r_iand (q := 406) dX9_works_405 rfl ?_
        rw [nb_and]
        refine r_if_ne (q := 409) 423 dX9_works_406 (by decide) rfl (fun h406 => ?_) (fun h406 => ?_)
        · have h406 : ¬ clM B k &&& t = 0 := fun z => h406 (by rw [z]; rfl)
          exact bad (by unfold fitK; rw [h394, decide_eq_false h406]; rfl)
        · have h406 : clM B k &&& t = 0 := (nI_zero_iff (Nat.lt_trans (and_lt_l hcl) (by decide))).mp h406
          refine r_aload_0 (q := 410) dX9_works_409 rfl ?_
          refine r_getR (k := 20) (q := 413) f_RX9_65_8 rfl rfl dX9_works_410 rfl ?_
          refine r_iload_4 (q := 415) dX9_works_413 rfl ?_
          refine r_iald (q := 416) _ rfl rfl (by first | omega | assumption | decide) dX9_works_415 rfl ?_
          rw [(hC k hk).2]
          refine r_iload_1 (q := 417) dX9_works_416 rfl ?_
          refine r_iconst (q := 418) (-1) (by decide) dX9_works_417 rfl ?_
          refine r_ixor (q := 419) dX9_works_418 rfl ?_
          refine r_iand (q := 420) dX9_works_419 rfl ?_
          rw [nb_andn]
          refine r_if_eq (q := 423) 430 dX9_works_420 (by decide) rfl (fun h420 => ?_) (fun h420 => ?_)
          · have h420 : andn (whM B k) t = 0 := (nI_zero_iff (Nat.lt_trans (andn_lt (n := 17) hwl) (by decide))).mp h420
            exact nx (by unfold fitK; rw [h406, h420]; simp)
          · have h420 : ¬ andn (whM B k) t = 0 := fun z => h420 (by rw [z]; rfl)
            exact bad (by unfold fitK; rw [h394, decide_eq_false h420]; simp)
theorem wk_out2 (hW : WFB B) (hWL : WFL L) (hh : handB B ≤ 16) (K : ∀ m, Fr [49, 50, 51] mem m → TbT B L (2 ^ handB B) m → Q 0 m) : ∀ (j t : Nat) (m : Mem) (o2 o3 o4 o5 : Option PV), 2 ^ handB B - t < j → t ≤ 2 ^ handB B → Fr [49, 50, 51] mem m → Wa B L m → CwT B (handB B) m → TbT B L t m → Wp E (wkX E d Q) mX9_works 202 [some (pR 36 0), some (pI (nI t)), o2, o3, o4, o5] [] m := by
  have hp16 : 2 ^ handB B ≤ 2 ^ 16 := Nat.pow_le_pow_right (by decide) hh
  intro j
  induction j with
  | zero => intro k m _ _ _ _ h; omega
  | succ j ih =>
    intro t m o2 o3 o4 o5 h1 h2 hF hA hC hT
    refine r_iload_1 (q := 203) dX9_works_202 rfl ?_
    refine r_iconst (q := 204) 1 (by decide) dX9_works_203 rfl ?_
    refine r_aload_0 (q := 205) dX9_works_204 rfl ?_
    refine r_getI (k := 14) (q := 208) f_RX9_131_8 rfl rfl dX9_works_205 rfl ?_
    rw [hA.2.2.1]
    refine r_ishl (q := 209) dX9_works_208 rfl ?_
    rw [nb_shl1 _ (by omega)]
    refine r_icmp_ge (q := 212) 442 dX9_works_209 (by decide) rfl (fun h209 => ?_) (fun h209 => ?_)
    · have hk := nI_ge_of (by omega) (by omega) h209
      have hk : t = 2 ^ handB B := by omega
      subst hk
      refine r_vret rfl dX9_works_442 (?_)
      exact K m hF hT
    · have ht : t < 2 ^ handB B := nI_lt_of (by omega) h209
      refine r_iconst (q := 213) 0 (by decide) dX9_works_212 rfl ?_
      refine r_istore_2 (q := 214) (by decide) dX9_works_213 rfl ?_
      refine wk_low hh ht hA (fun i hi => ?_) (handB B + 1) 0 (by omega) (by omega) (fun k hk => by omega)
      have J : ∀ w : Nat, (i = handB B ∧ t = 0) ∨ (i < handB B ∧ t.testBit i = true ∧ w = t ^^^ 2 ^ i) → Wp E (wkX E d Q) mX9_works 253 [some (pR 36 0), some (pI (nI t)), some (pI (nI i)), o3, o4, o5] [pI (nI w)] m := by
        intro w hw
        refine r_istore_3 (q := 254) (by decide) dX9_works_253 rfl ?_
        refine r_aload_0 (q := 255) dX9_works_254 rfl ?_
        refine r_getR (k := 18) (q := 258) f_RX9_59_8 rfl rfl dX9_works_255 rfl ?_
        refine r_iload_1 (q := 259) dX9_works_258 rfl ?_
        refine r_iconst (q := 260) 0 (by decide) dX9_works_259 rfl ?_
        refine r_iast (q := 261) _ rfl rfl (by first | omega | assumption | decide) dX9_works_260 rfl ?_
        refine r_iconst (q := 262) 0 (by decide) dX9_works_261 rfl ?_
        refine r_istore_4 (q := 264) (by decide) dX9_works_262 rfl ?_
        have hF1 : Fr [51] m (mset m 51 0 t 0) := Fr.rf.mset (by simp)
        refine wk_b (mem := mset m 51 0 t 0) (L := L) hW hWL hh ht hw (fun m2 o5' hF2 hT2 e49 e51 => ?_) 11 0 _ o5 (by omega) (by omega) Fr.rf (hA.fr hF1 (by simp)) ?_ (fun b' hb' => by omega) ?_
        · have hF02 : Fr [49, 51] m m2 := (hF1.mono (by simp)).tr hF2
          have hA2 := hA.fr hF02 (by simp)
          refine r_aload_0 (q := 370) dX9_works_369 rfl ?_
          refine r_getR (k := 17) (q := 373) f_RX9_55_8 rfl rfl dX9_works_370 rfl ?_
          refine r_iload_1 (q := 374) dX9_works_373 rfl ?_
          refine r_iconst (q := 375) 1 (by decide) dX9_works_374 rfl ?_
          refine r_zast (q := 376) _ rfl (by first | exact Or.inl rfl | exact Or.inr rfl | assumption) rfl (by first | omega | assumption | decide) dX9_works_375 rfl ?_
          refine r_iconst (q := 377) 0 (by decide) dX9_works_376 rfl ?_
          refine r_istore_4 (q := 379) (by decide) dX9_works_377 rfl ?_
          have hF3 : Fr [50] m2 (mset m2 50 0 t 1) := Fr.rf.mset (by simp)
          refine wk_fit (mem := mset m2 50 0 t 1) (L := L) hW hh ht (fun m4 hF4 e50 hO4 => ?_) (handB B + 1) 0 _ (by omega) (by omega) Fr.rf (fun _ _ => rfl) (hA2.fr hF3 (by simp)) ((hC.fr hF02 (by simp) (by simp)).fr hF3 (by simp) (by simp)) (by rw [mset_at]; rfl)
          refine r_iinc_1 (q := 439) _ (nI_inc _) (by decide) dX9_works_436 rfl ?_
          refine r_goto 202 dX9_works_439 (by decide) ?_
          have hF24 : Fr [50] m2 m4 := hF3.tr hF4
          refine ih (t + 1) m4 _ _ _ _ (by omega) (by omega) ((hF.tr (hF02.mono (by simp))).tr (hF24.mono (by simp))) (hA2.fr hF24 (by simp)) ((hC.fr hF02 (by simp) (by simp)).fr hF24 (by simp) (by simp)) ?_
          intro s hs
          rw [hF24 49 (by decide), hF24 51 (by decide)]
          by_cases z : s = t
          · subst z
            exact ⟨e49, by rw [e50, fit_tol hh ht], e51⟩
          · have h' := hT2 s (by omega)
            refine ⟨h'.1, ?_, h'.2.2⟩
            rw [hO4 s z, mset_self]
            unfold upd
            rw [if_neg z]
            exact h'.2.1
        · intro s hs
          have hh2 := hT s hs
          rw [mset_g _ _ _ _ (show (49 : Nat) ≠ 51 by decide), mset_g _ _ _ _ (show (50 : Nat) ≠ 51 by decide), mset_self]
          unfold upd
          rw [if_neg (by omega)]
          exact hh2
        · rw [mset_at]; rfl
      refine r_iload_2 (q := 237) dX9_works_236 rfl ?_
      refine r_aload_0 (q := 238) dX9_works_237 rfl ?_
      refine r_getI (k := 14) (q := 241) f_RX9_131_8 rfl rfl dX9_works_238 rfl ?_
      rw [hA.2.2.1]
      have hile : i ≤ handB B := by rcases hi with ⟨a, -⟩ | ⟨a, -⟩ <;> omega
      refine r_icmp_ge (q := 244) 252 dX9_works_241 (by decide) rfl (fun h241 => ?_) (fun h241 => ?_)
      · have hk := nI_ge_of (by omega) (by omega) h241
        refine r_iconst (q := 253) 0 (by decide) dX9_works_252 rfl ?_
        refine J 0 (Or.inl ?_)
        rcases hi with a | ⟨a1, a2⟩
        · exact a
        · omega
      · have hk : i < handB B := nI_lt_of (by omega) h241
        have hti : t.testBit i = true := by
          rcases hi with ⟨a, -⟩ | ⟨a1, a2⟩
          · omega
          · exact a2
        refine r_iload_1 (q := 245) dX9_works_244 rfl ?_
        refine r_iconst (q := 246) 1 (by decide) dX9_works_245 rfl ?_
        refine r_iload_2 (q := 247) dX9_works_246 rfl ?_
        refine r_ishl (q := 248) dX9_works_247 rfl ?_
        rw [nb_shl1 i (by omega)]
        refine r_ixor (q := 249) dX9_works_248 rfl ?_
        rw [nb_xor]
        refine r_goto 253 dX9_works_249 (by decide) ?_
        exact J _ (Or.inr ⟨hk, hti, rfl⟩)
def FrW (mem mem' : Mem) : Prop := Fr [36, 48, 49, 50, 51, 52, 53] mem mem' ∧ ∀ i, ¬ i = 14 → mem' 36 0 i = mem 36 0 i
/-- the rows of work stand -/
def Wk (B : BD) (L : LD) (mem : Mem) : Prop := Wa B L mem ∧ TbT B L (2 ^ handB B) mem
theorem mworks_ok (hB : Bm B mem) (hL : Lm L mem) (hW : WFB B) (hWL : WFL L) (hh : handB B ≤ 16) (hQ : ∀ mem', FrW mem mem' → Wk B L mem' → Q 0 mem') : Call E (d + 2) mX9_works [pR 36 0] mem Q := by
  refine Call.of [some (pR 36 0), none, none, none, none, none] mk_X9_works rfl (Nat.le_of_ble_eq_true rfl) (fun _ => ?_)
  refine r_aload_0 (q := 1) dX9_works_0 rfl ?_
  refine r_aload_0 (q := 2) dX9_works_1 rfl ?_
  refine r_callV0i (M' := mX9_atHand) (q := 5) mk_X9_atHand mi_X9_atHand k_812 rfl rfl rfl rfl (Nat.le_of_ble_eq_true rfl) rm_xm dX9_works_2 rfl (mhand_ok hB hW (fun m1 hF1 hH1 => ?_))
  refine r_put (k := 14) (q := 8) f_RX9_131_8 pf_8_14 rfl rfl dX9_works_5 rfl ?_
  refine r_iconst (q := 9) 0 (by decide) dX9_works_8 rfl ?_
  refine r_istore_1 (q := 10) (by decide) dX9_works_9 rfl ?_
  generalize hm2 : mset m1 36 0 14 (nI (handB B)) = m2
  have hF2 : Fr [36, 48] mem m2 := by rw [← hm2]; exact (hF1.mono (by simp)).mset (by simp)
  have h36 : ∀ i, ¬ i = 14 → m2 36 0 i = mem 36 0 i := fun i hi => by
    rw [← hm2, mset_self]; unfold upd; rw [if_neg hi, hF1 36 (by decide)]
  have h14 : m2 36 0 14 = nI (handB B) := by rw [← hm2, mset_at]
  have h48 : m2 48 = m1 48 := by rw [← hm2]; exact mset_g _ _ _ _ (by decide)
  clear hm2
  have hA2 : Wa B L m2 := by
    refine ⟨hB.wk (fun g h1 h2 => hF2 g (by simp; omega)) (fun i h1 _ => h36 i h1), hL.wk (fun g h1 h2 => hF2 g (by simp; omega)), h14, fun i hi => ?_⟩
    rw [h48]
    exact hH1 i hi (by omega)
  refine wk_out1 (mem := m2) (L := L) hW hh (fun m3 o2 o3 o4 o5 hF3 hC3 => ?_) (handB B + 1) 0 m2 _ _ _ _ (by omega) (by omega) Fr.rf hA2 (fun j hj => by omega)
  have hA3 := hA2.fr hF3 (by simp)
  refine r_iconst (q := 201) 0 (by decide) dX9_works_200 rfl ?_
  refine r_istore_1 (q := 202) (by decide) dX9_works_201 rfl ?_
  refine wk_out2 (mem := m3) (L := L) hW hWL hh (fun m4 hF4 hT4 => ?_) (2 ^ handB B + 1) 0 m3 _ _ _ _ (Nat.lt_succ_self _) (Nat.zero_le _) Fr.rf hA3 hC3 (fun s hs => by omega)
  have hF24 : Fr [49, 50, 51, 52, 53] m2 m4 := (hF3.mono (by simp)).tr (hF4.mono (by simp))
  refine hQ m4 ⟨(hF2.mono (by simp)).tr (hF24.mono (by simp)), fun i hi => ?_⟩ ⟨hA3.fr hF4 (by simp), hT4⟩
  rw [hF24 36 (by decide)]
  exact h36 i hi
end WL
