/-! THE LAW: its rows, its eighteen cases, its loop -/
abbrev mL : MI_ := (RL, x, code, 4, ret)
/-- the script stands in front of the world -/
def PL (E : En) (b Ls : Nat) (xs : Nat → Int32) (s : State) : Prop := va_X b Ls xs s s.heap ∧ b < s.heap.size ∧ bs E = s.heap.size ∧ E.2.2.1 98 0 = b
abbrev XL (E : En) (b Ls : Nat) (xs : Nat → Int32) : Xt := (room_1, 120, SLn 120, fun s q => bs E ≤ q ∨ ¬ PL E b Ls xs s, fun below args s => lw_Z below args s)
theorem XL_P {E : En} {b Ls : Nat} {xs : Nat → Int32} {s : State} (h : Kx E ((XL E b Ls xs).2.2.2.1 s) s) : PL E b Ls xs s := Classical.byContradiction (fun z => h.2.2.2.1.out (Or.inr z))
theorem sl_all : SLn 120 = 795852 := by decide +kernel
theorem rmL {E : En} {b Ls : Nat} {xs : Nat → Int32} : RmOK 22 (XL E b Ls xs) := ⟨Nat.le_of_ble_eq_true rfl, Nat.le_of_ble_eq_true rfl, Nat.le_of_ble_eq_true rfl, by show SLn 120 ≤ 7302250; rw [sl_all]; omega⟩
section RL9
variable {E : En} {b Ls : Nat} {xs : Nat → Int32} {M : MI_} {pc q : Nat} {L : List (Option PV)} {st : List PV} {mem : Mem}
theorem r_slen (hd : decode M.2.2.1 pc = .ok (.arraylength, 1)) (hq : pc + 1 = q) (kk : Wp E (XL E b Ls xs) M q L (pI (nI Ls) :: st) mem) : Wp E (XL E b Ls xs) M pc L (pR 98 0 :: st) mem := by
  subst hq
  intro p e s m args below meth c H locs ls hC hP hS hl h1 h2
  have hPL := XL_P hC.2.2.2.2.2.2.2.1
  obtain ⟨hX, hbl, hbs, hb⟩ := id hPL
  have hbA : ¬ (bs E ≤ b ∨ ¬ PL E b Ls xs s) := by
    rintro (z | z)
    · omega
    · exact z hPL
  have K := kk p e s m args below meth c H locs ls hC hP hS hl (ok_c trivial (ok_t h1)) h2
  show W p E.1 e _ s m args below meth c H locs _ _ _ (F0 m pc ls (.ref (E.2.2.1 98 0) :: st.map (cv E)))
  rw [hb]
  exact va_slen hC.1 hC.2.1 hX hbl hbA hS hd K
theorem r_sld {z : Int32} (hL : Ls ≤ 3072) (j : Nat) (hz : z = nI j) (hj : j < Ls) (hd : decode M.2.2.1 pc = .ok (.iaload, 1)) (hq : pc + 1 = q) (kk : Wp E (XL E b Ls xs) M q L (pI (xs j) :: st) mem) : Wp E (XL E b Ls xs) M pc L (pI z :: pR 98 0 :: st) mem := by
  subst hq
  subst hz
  intro p e s m args below meth c H locs ls hC hP hS hl h1 h2
  have hPL := XL_P hC.2.2.2.2.2.2.2.1
  obtain ⟨hX, hbl, hbs, hb⟩ := id hPL
  have hbA : ¬ (bs E ≤ b ∨ ¬ PL E b Ls xs s) := by
    rintro (z | z)
    · omega
    · exact z hPL
  have K := kk p e s m args below meth c H locs ls hC hP hS hl (ok_c trivial (ok_t (ok_t h1))) h2
  show W p E.1 e _ s m args below meth c H locs _ _ _ (F0 m pc ls (.int (nI j) :: .ref (E.2.2.1 98 0) :: st.map (cv E)))
  rw [hb]
  refine va_sld hC.1 hC.2.1 hX hbl hbA hS (vp_in_nI hj (by omega)) hd ?_
  rw [nI_clamp (show j < 2 ^ 31 by omega)]
  exact K
/-- the law's end -/
theorem law_end {p : Program} {l : Launch} {e : Env} {s : State} {m : MethodId} {args : Array Value} {below : List Frame} {meth : Method} {c : Code} (hx : p.tables.exec = Jvm.exec) (hb : c.code = code) (hr : meth.sig.returnType = ret) (hlocks : meth.locks = false) {pc : Nat} {H : Heap} {ls : Array Slot} (hdg : decode code pc = .ok (.ireturn, 1)) : W p l e room_1 s m args below meth c H [] 600000 7302250 (lw_Z below args s) (F0 m pc ls [.int 1]) := by
  intro T hT X
  obtain ⟨fs, hret, hrun, hended, hW, hframe⟩ := X.leave (v := some (.int 1)) (hlocks := hlocks) (fun h => by rw [hr] at h; cases h)
  have hmeth' : T.vm.method? m = some meth := X.method'
  refine ⟨T.setFrames fs, ?_, .returned (some (.int 1)), hrun, hended, rfl, ⟨_, rfl⟩, hW, hframe⟩
  jvm_step X.here [X.here.top, hx, hb, hdg, hmeth', hr, ret, narrow_b1]
  (try refine ⟨rfl, ?_⟩); (try refine ⟨rfl, ?_⟩)
  first | (intro acts; rw [hret _ acts rfl rfl rfl]) | rw [hret _ _ rfl rfl rfl]
  exact Steps.refl _
theorem r_lret (hd : decode code pc = .ok (.ireturn, 1)) : Wp E (XL E b Ls xs) mL pc L [pI 1] mem := by
  intro p e s m args below meth c H locs ls hC hP hS hl h1 h2
  have hPL := XL_P hC.2.2.2.2.2.2.2.1
  refine va_forget (fun q hq => ?_) ?_
  · rcases hS.2.2 q hq with z | z
    · rw [← hPL.2.2.1]; exact z
    · exact absurd hPL z
  · refine W.widen (k := 600000) (n := 7302250) (Nat.le_of_ble_eq_true rfl) (by show SLn 120 ≤ 7302250; rw [sl_all]; omega) ?_
    exact law_end hC.1 hC.2.1 hC.2.2.1 hC.2.2.2.2.2.2.1 hd
end RL9
def LL (i : Nat) : List (Option PV) := [some (pR 98 0), some (pR 0 0), some (pR 36 0), some (pI (nI i))]
section CS
variable {E : En} {b Ls : Nat} {xs : Nat → Int32} {i : Nat} {S : AS} {mem : Mem}
theorem law_c0 (hL : Ls ≤ 3072) (hi : i + 6 ≤ Ls) (hC : Ck S mem) (hM : Mk S mem) (hWF : WFS S) (next : ∀ S' m', Ck S' m' → Mk S' m' → WFS S' → Wp E (XL E b Ls xs) mL 630 (LL i) [] m') : Wp E (XL E b Ls xs) mL 120 (LL i) [] mem := by
  unfold LL at *
  refine r_aload_1 (q := 121) dL_law_120 rfl ?_
  refine r_aload_0 (q := 122) dL_law_121 rfl ?_
  refine r_iload_3 (q := 123) dL_law_122 rfl ?_
  refine r_iconst (q := 124) 1 (by decide) dL_law_123 rfl ?_
  refine r_iadd (q := 125) dL_law_124 rfl ?_
  refine r_sld hL (q := 126) (i + 1) (nI_add i 1) (by omega) dL_law_125 rfl ?_
  refine r_aload_0 (q := 127) dL_law_126 rfl ?_
  refine r_iload_3 (q := 128) dL_law_127 rfl ?_
  refine r_iconst (q := 129) 2 (by decide) dL_law_128 rfl ?_
  refine r_iadd (q := 130) dL_law_129 rfl ?_
  refine r_sld hL (q := 131) (i + 2) (nI_add i 2) (by omega) dL_law_130 rfl ?_
  refine r_aload_0 (q := 132) dL_law_131 rfl ?_
  refine r_iload_3 (q := 133) dL_law_132 rfl ?_
  refine r_iconst (q := 134) 3 (by decide) dL_law_133 rfl ?_
  refine r_iadd (q := 135) dL_law_134 rfl ?_
  refine r_sld hL (q := 136) (i + 3) (nI_add i 3) (by omega) dL_law_135 rfl ?_
  refine r_aload_0 (q := 137) dL_law_136 rfl ?_
  refine r_iload_3 (q := 138) dL_law_137 rfl ?_
  refine r_iconst (q := 139) 4 (by decide) dL_law_138 rfl ?_
  refine r_iadd (q := 140) dL_law_139 rfl ?_
  refine r_sld hL (q := 141) (i + 4) (nI_add i 4) (by omega) dL_law_140 rfl ?_
  refine r_aload_0 (q := 142) dL_law_141 rfl ?_
  refine r_iload_3 (q := 143) dL_law_142 rfl ?_
  refine r_iconst (q := 144) 5 (by decide) dL_law_143 rfl ?_
  refine r_iadd (q := 145) dL_law_144 rfl ?_
  refine r_sld hL (q := 146) (i + 5) (nI_add i 5) (by omega) dL_law_145 rfl ?_
  refine r_callV5i (M' := mX8_question) (q := 149) mk_X8_question mi_X8_question k_325 rfl rfl rfl rfl (Nat.le_of_ble_eq_true rfl) rmL dL_law_146 rfl (question_ok (d := 21) hC hWF (fun m1 hF1 hC1 => ?_))
  refine r_aload_2 (q := 150) dL_law_149 rfl ?_
  refine r_aload_0 (q := 151) dL_law_150 rfl ?_
  refine r_iload_3 (q := 152) dL_law_151 rfl ?_
  refine r_iconst (q := 153) 1 (by decide) dL_law_152 rfl ?_
  refine r_iadd (q := 154) dL_law_153 rfl ?_
  refine r_sld hL (q := 155) (i + 1) (nI_add i 1) (by omega) dL_law_154 rfl ?_
  refine r_aload_0 (q := 156) dL_law_155 rfl ?_
  refine r_iload_3 (q := 157) dL_law_156 rfl ?_
  refine r_iconst (q := 158) 2 (by decide) dL_law_157 rfl ?_
  refine r_iadd (q := 159) dL_law_158 rfl ?_
  refine r_sld hL (q := 160) (i + 2) (nI_add i 2) (by omega) dL_law_159 rfl ?_
  refine r_aload_0 (q := 161) dL_law_160 rfl ?_
  refine r_iload_3 (q := 162) dL_law_161 rfl ?_
  refine r_iconst (q := 163) 3 (by decide) dL_law_162 rfl ?_
  refine r_iadd (q := 164) dL_law_163 rfl ?_
  refine r_sld hL (q := 165) (i + 3) (nI_add i 3) (by omega) dL_law_164 rfl ?_
  refine r_aload_0 (q := 166) dL_law_165 rfl ?_
  refine r_iload_3 (q := 167) dL_law_166 rfl ?_
  refine r_iconst (q := 168) 4 (by decide) dL_law_167 rfl ?_
  refine r_iadd (q := 169) dL_law_168 rfl ?_
  refine r_sld hL (q := 170) (i + 4) (nI_add i 4) (by omega) dL_law_169 rfl ?_
  refine r_aload_0 (q := 171) dL_law_170 rfl ?_
  refine r_iload_3 (q := 172) dL_law_171 rfl ?_
  refine r_iconst (q := 173) 5 (by decide) dL_law_172 rfl ?_
  refine r_iadd (q := 174) dL_law_173 rfl ?_
  refine r_sld hL (q := 175) (i + 5) (nI_add i 5) (by omega) dL_law_174 rfl ?_
  refine r_callV5i (M' := mX9_question) (q := 178) mk_X9_question mi_X9_question k_727 rfl rfl rfl rfl (Nat.le_of_ble_eq_true rfl) rmL dL_law_175 rfl (m_question_ok (d := 21) (hM.fc hF1) hWF (fun m2 hF2 hM2 => ?_))
  refine r_icmp_eq (q := 181) 630 dL_law_178 (by decide) rfl (fun hcmp => ?_) (fun hcmp => ?_)
  · exact next _ m2 (hC1.fm hF2) hM2 (wf_question hWF)
  · exact absurd rfl hcmp
theorem law_c1 (hL : Ls ≤ 3072) (hi : i + 6 ≤ Ls) (hC : Ck S mem) (hM : Mk S mem) (hWF : WFS S) (next : ∀ S' m', Ck S' m' → Mk S' m' → WFS S' → Wp E (XL E b Ls xs) mL 630 (LL i) [] m') : Wp E (XL E b Ls xs) mL 183 (LL i) [] mem := by
  unfold LL at *
  refine r_aload_1 (q := 184) dL_law_183 rfl ?_
  refine r_aload_0 (q := 185) dL_law_184 rfl ?_
  refine r_iload_3 (q := 186) dL_law_185 rfl ?_
  refine r_iconst (q := 187) 1 (by decide) dL_law_186 rfl ?_
  refine r_iadd (q := 188) dL_law_187 rfl ?_
  refine r_sld hL (q := 189) (i + 1) (nI_add i 1) (by omega) dL_law_188 rfl ?_
  refine r_aload_0 (q := 190) dL_law_189 rfl ?_
  refine r_iload_3 (q := 191) dL_law_190 rfl ?_
  refine r_iconst (q := 192) 2 (by decide) dL_law_191 rfl ?_
  refine r_iadd (q := 193) dL_law_192 rfl ?_
  refine r_sld hL (q := 194) (i + 2) (nI_add i 2) (by omega) dL_law_193 rfl ?_
  refine r_callV2i (M' := mX8_passage) (q := 197) mk_X8_passage mi_X8_passage k_332 rfl rfl rfl rfl (Nat.le_of_ble_eq_true rfl) rmL dL_law_194 rfl (passage_ok (d := 20) hC hWF (fun m1 hF1 hC1 => ?_))
  refine r_aload_2 (q := 198) dL_law_197 rfl ?_
  refine r_aload_0 (q := 199) dL_law_198 rfl ?_
  refine r_iload_3 (q := 200) dL_law_199 rfl ?_
  refine r_iconst (q := 201) 1 (by decide) dL_law_200 rfl ?_
  refine r_iadd (q := 202) dL_law_201 rfl ?_
  refine r_sld hL (q := 203) (i + 1) (nI_add i 1) (by omega) dL_law_202 rfl ?_
  refine r_aload_0 (q := 204) dL_law_203 rfl ?_
  refine r_iload_3 (q := 205) dL_law_204 rfl ?_
  refine r_iconst (q := 206) 2 (by decide) dL_law_205 rfl ?_
  refine r_iadd (q := 207) dL_law_206 rfl ?_
  refine r_sld hL (q := 208) (i + 2) (nI_add i 2) (by omega) dL_law_207 rfl ?_
  refine r_callV2i (M' := mX9_passage) (q := 211) mk_X9_passage mi_X9_passage k_734 rfl rfl rfl rfl (Nat.le_of_ble_eq_true rfl) rmL dL_law_208 rfl (m_passage_ok (d := 20) (hM.fc hF1) hWF (fun m2 hF2 hM2 => ?_))
  refine r_icmp_eq (q := 214) 630 dL_law_211 (by decide) rfl (fun hcmp => ?_) (fun hcmp => ?_)
  · exact next _ m2 (hC1.fm hF2) hM2 (wf_passage hWF)
  · exact absurd rfl hcmp
theorem law_c2 (hL : Ls ≤ 3072) (hi : i + 6 ≤ Ls) (hC : Ck S mem) (hM : Mk S mem) (hWF : WFS S) (next : ∀ S' m', Ck S' m' → Mk S' m' → WFS S' → Wp E (XL E b Ls xs) mL 630 (LL i) [] m') : Wp E (XL E b Ls xs) mL 216 (LL i) [] mem := by
  unfold LL at *
  refine r_aload_1 (q := 217) dL_law_216 rfl ?_
  refine r_aload_0 (q := 218) dL_law_217 rfl ?_
  refine r_iload_3 (q := 219) dL_law_218 rfl ?_
  refine r_iconst (q := 220) 1 (by decide) dL_law_219 rfl ?_
  refine r_iadd (q := 221) dL_law_220 rfl ?_
  refine r_sld hL (q := 222) (i + 1) (nI_add i 1) (by omega) dL_law_221 rfl ?_
  refine r_aload_0 (q := 223) dL_law_222 rfl ?_
  refine r_iload_3 (q := 224) dL_law_223 rfl ?_
  refine r_iconst (q := 225) 2 (by decide) dL_law_224 rfl ?_
  refine r_iadd (q := 226) dL_law_225 rfl ?_
  refine r_sld hL (q := 227) (i + 2) (nI_add i 2) (by omega) dL_law_226 rfl ?_
  refine r_aload_0 (q := 228) dL_law_227 rfl ?_
  refine r_iload_3 (q := 229) dL_law_228 rfl ?_
  refine r_iconst (q := 230) 3 (by decide) dL_law_229 rfl ?_
  refine r_iadd (q := 231) dL_law_230 rfl ?_
  refine r_sld hL (q := 232) (i + 3) (nI_add i 3) (by omega) dL_law_231 rfl ?_
  refine r_if_eq (q := 235) 239 dL_law_232 (by decide) rfl (fun h232 => ?_) (fun h232 => ?_)
  · refine r_iconst (q := 240) 0 (by decide) dL_law_239 rfl ?_
    refine r_callV3i (M' := mX8_gives) (q := 243) mk_X8_gives mi_X8_gives k_341 rfl rfl rfl rfl (Nat.le_of_ble_eq_true rfl) rmL dL_law_240 rfl (gives_ok (is := false) (d := 20) hC hWF (fun m1 hF1 hC1 => ?_))
    refine r_aload_2 (q := 244) dL_law_243 rfl ?_
    refine r_aload_0 (q := 245) dL_law_244 rfl ?_
    refine r_iload_3 (q := 246) dL_law_245 rfl ?_
    refine r_iconst (q := 247) 1 (by decide) dL_law_246 rfl ?_
    refine r_iadd (q := 248) dL_law_247 rfl ?_
    refine r_sld hL (q := 249) (i + 1) (nI_add i 1) (by omega) dL_law_248 rfl ?_
    refine r_aload_0 (q := 250) dL_law_249 rfl ?_
    refine r_iload_3 (q := 251) dL_law_250 rfl ?_
    refine r_iconst (q := 252) 2 (by decide) dL_law_251 rfl ?_
    refine r_iadd (q := 253) dL_law_252 rfl ?_
    refine r_sld hL (q := 254) (i + 2) (nI_add i 2) (by omega) dL_law_253 rfl ?_
    refine r_aload_0 (q := 255) dL_law_254 rfl ?_
    refine r_iload_3 (q := 256) dL_law_255 rfl ?_
    refine r_iconst (q := 257) 3 (by decide) dL_law_256 rfl ?_
    refine r_iadd (q := 258) dL_law_257 rfl ?_
    refine r_sld hL (q := 259) (i + 3) (nI_add i 3) (by omega) dL_law_258 rfl ?_
    refine r_if_eq (q := 262) 266 dL_law_259 (by decide) rfl (fun h259 => ?_) (fun h259 => ?_)
    · refine r_iconst (q := 267) 0 (by decide) dL_law_266 rfl ?_
      refine r_callV3i (M' := mX9_gives) (q := 270) mk_X9_gives mi_X9_gives k_742 rfl rfl rfl rfl (Nat.le_of_ble_eq_true rfl) rmL dL_law_267 rfl (m_gives_ok (is := false) (d := 20) (hM.fc hF1) hWF (fun m2 hF2 hM2 => ?_))
      refine r_icmp_eq (q := 273) 630 dL_law_270 (by decide) rfl (fun hcmp => ?_) (fun hcmp => ?_)
      · exact next _ m2 (hC1.fm hF2) hM2 (wf_gives hWF)
      · exact absurd rfl hcmp
    · exact absurd h232 h259
  · refine r_iconst (q := 236) 1 (by decide) dL_law_235 rfl ?_
    refine r_goto 240 dL_law_236 (by decide) ?_
    refine r_callV3i (M' := mX8_gives) (q := 243) mk_X8_gives mi_X8_gives k_341 rfl rfl rfl rfl (Nat.le_of_ble_eq_true rfl) rmL dL_law_240 rfl (gives_ok (is := true) (d := 20) hC hWF (fun m1 hF1 hC1 => ?_))
    refine r_aload_2 (q := 244) dL_law_243 rfl ?_
    refine r_aload_0 (q := 245) dL_law_244 rfl ?_
    refine r_iload_3 (q := 246) dL_law_245 rfl ?_
    refine r_iconst (q := 247) 1 (by decide) dL_law_246 rfl ?_
    refine r_iadd (q := 248) dL_law_247 rfl ?_
    refine r_sld hL (q := 249) (i + 1) (nI_add i 1) (by omega) dL_law_248 rfl ?_
    refine r_aload_0 (q := 250) dL_law_249 rfl ?_
    refine r_iload_3 (q := 251) dL_law_250 rfl ?_
    refine r_iconst (q := 252) 2 (by decide) dL_law_251 rfl ?_
    refine r_iadd (q := 253) dL_law_252 rfl ?_
    refine r_sld hL (q := 254) (i + 2) (nI_add i 2) (by omega) dL_law_253 rfl ?_
    refine r_aload_0 (q := 255) dL_law_254 rfl ?_
    refine r_iload_3 (q := 256) dL_law_255 rfl ?_
    refine r_iconst (q := 257) 3 (by decide) dL_law_256 rfl ?_
    refine r_iadd (q := 258) dL_law_257 rfl ?_
    refine r_sld hL (q := 259) (i + 3) (nI_add i 3) (by omega) dL_law_258 rfl ?_
    refine r_if_eq (q := 262) 266 dL_law_259 (by decide) rfl (fun h259 => ?_) (fun h259 => ?_)
    · exact absurd h259 h232
    · refine r_iconst (q := 263) 1 (by decide) dL_law_262 rfl ?_
      refine r_goto 267 dL_law_263 (by decide) ?_
      refine r_callV3i (M' := mX9_gives) (q := 270) mk_X9_gives mi_X9_gives k_742 rfl rfl rfl rfl (Nat.le_of_ble_eq_true rfl) rmL dL_law_267 rfl (m_gives_ok (is := true) (d := 20) (hM.fc hF1) hWF (fun m2 hF2 hM2 => ?_))
      refine r_icmp_eq (q := 273) 630 dL_law_270 (by decide) rfl (fun hcmp => ?_) (fun hcmp => ?_)
      · exact next _ m2 (hC1.fm hF2) hM2 (wf_gives hWF)
      · exact absurd rfl hcmp
theorem law_c3 (hL : Ls ≤ 3072) (hi : i + 6 ≤ Ls) (hC : Ck S mem) (hM : Mk S mem) (hWF : WFS S) (next : ∀ S' m', Ck S' m' → Mk S' m' → WFS S' → Wp E (XL E b Ls xs) mL 630 (LL i) [] m') : Wp E (XL E b Ls xs) mL 275 (LL i) [] mem := by
  unfold LL at *
  refine r_aload_1 (q := 276) dL_law_275 rfl ?_
  refine r_aload_0 (q := 277) dL_law_276 rfl ?_
  refine r_iload_3 (q := 278) dL_law_277 rfl ?_
  refine r_iconst (q := 279) 1 (by decide) dL_law_278 rfl ?_
  refine r_iadd (q := 280) dL_law_279 rfl ?_
  refine r_sld hL (q := 281) (i + 1) (nI_add i 1) (by omega) dL_law_280 rfl ?_
  refine r_aload_0 (q := 282) dL_law_281 rfl ?_
  refine r_iload_3 (q := 283) dL_law_282 rfl ?_
  refine r_iconst (q := 284) 2 (by decide) dL_law_283 rfl ?_
  refine r_iadd (q := 285) dL_law_284 rfl ?_
  refine r_sld hL (q := 286) (i + 2) (nI_add i 2) (by omega) dL_law_285 rfl ?_
  refine r_aload_0 (q := 287) dL_law_286 rfl ?_
  refine r_iload_3 (q := 288) dL_law_287 rfl ?_
  refine r_iconst (q := 289) 3 (by decide) dL_law_288 rfl ?_
  refine r_iadd (q := 290) dL_law_289 rfl ?_
  refine r_sld hL (q := 291) (i + 3) (nI_add i 3) (by omega) dL_law_290 rfl ?_
  refine r_callV3i (M' := mX8_bound) (q := 294) mk_X8_bound mi_X8_bound k_348 rfl rfl rfl rfl (Nat.le_of_ble_eq_true rfl) rmL dL_law_291 rfl (bound_ok (d := 21) hC (fun m1 hF1 hC1 => ?_))
  refine r_aload_2 (q := 295) dL_law_294 rfl ?_
  refine r_aload_0 (q := 296) dL_law_295 rfl ?_
  refine r_iload_3 (q := 297) dL_law_296 rfl ?_
  refine r_iconst (q := 298) 1 (by decide) dL_law_297 rfl ?_
  refine r_iadd (q := 299) dL_law_298 rfl ?_
  refine r_sld hL (q := 300) (i + 1) (nI_add i 1) (by omega) dL_law_299 rfl ?_
  refine r_aload_0 (q := 301) dL_law_300 rfl ?_
  refine r_iload_3 (q := 302) dL_law_301 rfl ?_
  refine r_iconst (q := 303) 2 (by decide) dL_law_302 rfl ?_
  refine r_iadd (q := 304) dL_law_303 rfl ?_
  refine r_sld hL (q := 305) (i + 2) (nI_add i 2) (by omega) dL_law_304 rfl ?_
  refine r_aload_0 (q := 306) dL_law_305 rfl ?_
  refine r_iload_3 (q := 307) dL_law_306 rfl ?_
  refine r_iconst (q := 308) 3 (by decide) dL_law_307 rfl ?_
  refine r_iadd (q := 309) dL_law_308 rfl ?_
  refine r_sld hL (q := 310) (i + 3) (nI_add i 3) (by omega) dL_law_309 rfl ?_
  refine r_callV3i (M' := mX9_bound) (q := 313) mk_X9_bound mi_X9_bound k_749 rfl rfl rfl rfl (Nat.le_of_ble_eq_true rfl) rmL dL_law_310 rfl (m_bound_ok (d := 21) (hM.fc hF1) (fun m2 hF2 hM2 => ?_))
  refine r_icmp_eq (q := 316) 630 dL_law_313 (by decide) rfl (fun hcmp => ?_) (fun hcmp => ?_)
  · exact next _ m2 (hC1.fm hF2) hM2 (wf_bound hWF)
  · exact absurd rfl hcmp
theorem law_c4 (hL : Ls ≤ 3072) (hi : i + 6 ≤ Ls) (hC : Ck S mem) (hM : Mk S mem) (hWF : WFS S) (next : ∀ S' m', Ck S' m' → Mk S' m' → WFS S' → Wp E (XL E b Ls xs) mL 630 (LL i) [] m') : Wp E (XL E b Ls xs) mL 318 (LL i) [] mem := by
  unfold LL at *
  refine r_aload_1 (q := 319) dL_law_318 rfl ?_
  refine r_aload_0 (q := 320) dL_law_319 rfl ?_
  refine r_iload_3 (q := 321) dL_law_320 rfl ?_
  refine r_iconst (q := 322) 1 (by decide) dL_law_321 rfl ?_
  refine r_iadd (q := 323) dL_law_322 rfl ?_
  refine r_sld hL (q := 324) (i + 1) (nI_add i 1) (by omega) dL_law_323 rfl ?_
  refine r_aload_0 (q := 325) dL_law_324 rfl ?_
  refine r_iload_3 (q := 326) dL_law_325 rfl ?_
  refine r_iconst (q := 327) 2 (by decide) dL_law_326 rfl ?_
  refine r_iadd (q := 328) dL_law_327 rfl ?_
  refine r_sld hL (q := 329) (i + 2) (nI_add i 2) (by omega) dL_law_328 rfl ?_
  refine r_callV2i (M' := mX8_profile) (q := 332) mk_X8_profile mi_X8_profile k_352 rfl rfl rfl rfl (Nat.le_of_ble_eq_true rfl) rmL dL_law_329 rfl (profile_ok (d := 21) hC (fun m1 hF1 hC1 => ?_))
  refine r_aload_2 (q := 333) dL_law_332 rfl ?_
  refine r_aload_0 (q := 334) dL_law_333 rfl ?_
  refine r_iload_3 (q := 335) dL_law_334 rfl ?_
  refine r_iconst (q := 336) 1 (by decide) dL_law_335 rfl ?_
  refine r_iadd (q := 337) dL_law_336 rfl ?_
  refine r_sld hL (q := 338) (i + 1) (nI_add i 1) (by omega) dL_law_337 rfl ?_
  refine r_aload_0 (q := 339) dL_law_338 rfl ?_
  refine r_iload_3 (q := 340) dL_law_339 rfl ?_
  refine r_iconst (q := 341) 2 (by decide) dL_law_340 rfl ?_
  refine r_iadd (q := 342) dL_law_341 rfl ?_
  refine r_sld hL (q := 343) (i + 2) (nI_add i 2) (by omega) dL_law_342 rfl ?_
  refine r_callV2i (M' := mX9_profile) (q := 346) mk_X9_profile mi_X9_profile k_753 rfl rfl rfl rfl (Nat.le_of_ble_eq_true rfl) rmL dL_law_343 rfl (m_profile_ok (d := 21) (hM.fc hF1) (fun m2 hF2 hM2 => ?_))
  refine r_icmp_eq (q := 349) 630 dL_law_346 (by decide) rfl (fun hcmp => ?_) (fun hcmp => ?_)
  · exact next _ m2 (hC1.fm hF2) hM2 (wf_profile hWF)
  · exact absurd rfl hcmp
theorem law_c5 (hL : Ls ≤ 3072) (hi : i + 6 ≤ Ls) (hC : Ck S mem) (hM : Mk S mem) (hWF : WFS S) (next : ∀ S' m', Ck S' m' → Mk S' m' → WFS S' → Wp E (XL E b Ls xs) mL 630 (LL i) [] m') : Wp E (XL E b Ls xs) mL 351 (LL i) [] mem := by
  unfold LL at *
  refine r_aload_1 (q := 352) dL_law_351 rfl ?_
  refine r_aload_0 (q := 353) dL_law_352 rfl ?_
  refine r_iload_3 (q := 354) dL_law_353 rfl ?_
  refine r_iconst (q := 355) 1 (by decide) dL_law_354 rfl ?_
  refine r_iadd (q := 356) dL_law_355 rfl ?_
  refine r_sld hL (q := 357) (i + 1) (nI_add i 1) (by omega) dL_law_356 rfl ?_
  refine r_callV1i (M' := mX8_rest) (q := 360) mk_X8_rest mi_X8_rest k_356 rfl rfl rfl rfl (Nat.le_of_ble_eq_true rfl) rmL dL_law_357 rfl (rest_ok (d := 21) hC (fun m1 hF1 hC1 => ?_))
  refine r_aload_2 (q := 361) dL_law_360 rfl ?_
  refine r_aload_0 (q := 362) dL_law_361 rfl ?_
  refine r_iload_3 (q := 363) dL_law_362 rfl ?_
  refine r_iconst (q := 364) 1 (by decide) dL_law_363 rfl ?_
  refine r_iadd (q := 365) dL_law_364 rfl ?_
  refine r_sld hL (q := 366) (i + 1) (nI_add i 1) (by omega) dL_law_365 rfl ?_
  refine r_callV1i (M' := mX9_rest) (q := 369) mk_X9_rest mi_X9_rest k_757 rfl rfl rfl rfl (Nat.le_of_ble_eq_true rfl) rmL dL_law_366 rfl (m_rest_ok (d := 21) (hM.fc hF1) (fun m2 hF2 hM2 => ?_))
  refine r_icmp_eq (q := 372) 630 dL_law_369 (by decide) rfl (fun hcmp => ?_) (fun hcmp => ?_)
  · exact next _ m2 (hC1.fm hF2) hM2 (wf_rest hWF)
  · exact absurd rfl hcmp
theorem law_c6 (hL : Ls ≤ 3072) (hi : i + 6 ≤ Ls) (hC : Ck S mem) (hM : Mk S mem) (hWF : WFS S) (next : ∀ S' m', Ck S' m' → Mk S' m' → WFS S' → Wp E (XL E b Ls xs) mL 630 (LL i) [] m') : Wp E (XL E b Ls xs) mL 374 (LL i) [] mem := by
  unfold LL at *
  refine r_aload_1 (q := 375) dL_law_374 rfl ?_
  refine r_callV0i (M' := mX8_term) (q := 378) mk_X8_term mi_X8_term k_360 rfl rfl rfl rfl (Nat.le_of_ble_eq_true rfl) rmL dL_law_375 rfl (term_ok (d := 22) hC hWF (fun m1 hF1 hC1 => ?_))
  refine r_aload_2 (q := 379) dL_law_378 rfl ?_
  refine r_callV0i (M' := mX9_term) (q := 382) mk_X9_term mi_X9_term k_761 rfl rfl rfl rfl (Nat.le_of_ble_eq_true rfl) rmL dL_law_379 rfl (m_term_ok (d := 22) (hM.fc hF1) hWF (fun m2 hF2 hM2 => ?_))
  refine r_icmp_eq (q := 385) 630 dL_law_382 (by decide) rfl (fun hcmp => ?_) (fun hcmp => ?_)
  · exact next _ m2 (hC1.fm hF2) hM2 (wf_term hWF)
  · exact absurd rfl hcmp
theorem law_c7 (hL : Ls ≤ 3072) (hi : i + 6 ≤ Ls) (hC : Ck S mem) (hM : Mk S mem) (hWF : WFS S) (next : ∀ S' m', Ck S' m' → Mk S' m' → WFS S' → Wp E (XL E b Ls xs) mL 630 (LL i) [] m') : Wp E (XL E b Ls xs) mL 387 (LL i) [] mem := by
  unfold LL at *
  refine r_aload_1 (q := 388) dL_law_387 rfl ?_
  refine r_aload_0 (q := 389) dL_law_388 rfl ?_
  refine r_iload_3 (q := 390) dL_law_389 rfl ?_
  refine r_iconst (q := 391) 1 (by decide) dL_law_390 rfl ?_
  refine r_iadd (q := 392) dL_law_391 rfl ?_
  refine r_sld hL (q := 393) (i + 1) (nI_add i 1) (by omega) dL_law_392 rfl ?_
  refine r_callV1i (M' := mX8_use) (q := 396) mk_X8_use mi_X8_use k_364 rfl rfl rfl rfl (Nat.le_of_ble_eq_true rfl) rmL dL_law_393 rfl (use_ok (d := 21) hC hWF (fun m1 hF1 hC1 => ?_))
  refine r_aload_2 (q := 397) dL_law_396 rfl ?_
  refine r_aload_0 (q := 398) dL_law_397 rfl ?_
  refine r_iload_3 (q := 399) dL_law_398 rfl ?_
  refine r_iconst (q := 400) 1 (by decide) dL_law_399 rfl ?_
  refine r_iadd (q := 401) dL_law_400 rfl ?_
  refine r_sld hL (q := 402) (i + 1) (nI_add i 1) (by omega) dL_law_401 rfl ?_
  refine r_callV1i (M' := mX9_use) (q := 405) mk_X9_use mi_X9_use k_765 rfl rfl rfl rfl (Nat.le_of_ble_eq_true rfl) rmL dL_law_402 rfl (m_use_ok (d := 20) (hM.fc hF1) hWF (fun m2 hF2 hM2 => ?_))
  refine r_icmp_eq (q := 408) 630 dL_law_405 (by decide) rfl (fun hcmp => ?_) (fun hcmp => ?_)
  · exact next _ m2 (hC1.fm hF2) hM2 (wf_use hWF)
  · exact absurd rfl hcmp
theorem law_c8 (hL : Ls ≤ 3072) (hi : i + 6 ≤ Ls) (hC : Ck S mem) (hM : Mk S mem) (hWF : WFS S) (next : ∀ S' m', Ck S' m' → Mk S' m' → WFS S' → Wp E (XL E b Ls xs) mL 630 (LL i) [] m') : Wp E (XL E b Ls xs) mL 410 (LL i) [] mem := by
  unfold LL at *
  refine r_aload_1 (q := 411) dL_law_410 rfl ?_
  refine r_aload_0 (q := 412) dL_law_411 rfl ?_
  refine r_iload_3 (q := 413) dL_law_412 rfl ?_
  refine r_iconst (q := 414) 1 (by decide) dL_law_413 rfl ?_
  refine r_iadd (q := 415) dL_law_414 rfl ?_
  refine r_sld hL (q := 416) (i + 1) (nI_add i 1) (by omega) dL_law_415 rfl ?_
  refine r_callV1i (M' := mX8_rests) (q := 419) mk_X8_rests mi_X8_rests k_372 rfl rfl rfl rfl (Nat.le_of_ble_eq_true rfl) rmL dL_law_416 rfl (rests_ok (d := 20) hC hWF ?_)
  refine r_aload_2 (q := 420) dL_law_419 rfl ?_
  refine r_aload_0 (q := 421) dL_law_420 rfl ?_
  refine r_iload_3 (q := 422) dL_law_421 rfl ?_
  refine r_iconst (q := 423) 1 (by decide) dL_law_422 rfl ?_
  refine r_iadd (q := 424) dL_law_423 rfl ?_
  refine r_sld hL (q := 425) (i + 1) (nI_add i 1) (by omega) dL_law_424 rfl ?_
  refine r_callV1i (M' := mX9_rests) (q := 428) mk_X9_rests mi_X9_rests k_773 rfl rfl rfl rfl (Nat.le_of_ble_eq_true rfl) rmL dL_law_425 rfl (m_rests_ok (d := 20) hM hWF ?_)
  refine r_icmp_eq (q := 431) 630 dL_law_428 (by decide) rfl (fun hcmp => ?_) (fun hcmp => ?_)
  · exact next S mem hC hM hWF
  · exact absurd rfl hcmp
theorem law_c9 (hL : Ls ≤ 3072) (hi : i + 6 ≤ Ls) (hC : Ck S mem) (hM : Mk S mem) (hWF : WFS S) (next : ∀ S' m', Ck S' m' → Mk S' m' → WFS S' → Wp E (XL E b Ls xs) mL 630 (LL i) [] m') : Wp E (XL E b Ls xs) mL 433 (LL i) [] mem := by
  unfold LL at *
  refine r_aload_1 (q := 434) dL_law_433 rfl ?_
  refine r_aload_0 (q := 435) dL_law_434 rfl ?_
  refine r_iload_3 (q := 436) dL_law_435 rfl ?_
  refine r_iconst (q := 437) 1 (by decide) dL_law_436 rfl ?_
  refine r_iadd (q := 438) dL_law_437 rfl ?_
  refine r_sld hL (q := 439) (i + 1) (nI_add i 1) (by omega) dL_law_438 rfl ?_
  refine r_aload_0 (q := 440) dL_law_439 rfl ?_
  refine r_iload_3 (q := 441) dL_law_440 rfl ?_
  refine r_iconst (q := 442) 2 (by decide) dL_law_441 rfl ?_
  refine r_iadd (q := 443) dL_law_442 rfl ?_
  refine r_sld hL (q := 444) (i + 2) (nI_add i 2) (by omega) dL_law_443 rfl ?_
  refine r_callV2i (M' := mX8_look) (q := 447) mk_X8_look mi_X8_look k_383 rfl rfl rfl rfl (Nat.le_of_ble_eq_true rfl) rmL dL_law_444 rfl (look_ok (d := 19) hC hWF (fun m1 hF1 hC1 => ?_))
  refine r_aload_2 (q := 448) dL_law_447 rfl ?_
  refine r_aload_0 (q := 449) dL_law_448 rfl ?_
  refine r_iload_3 (q := 450) dL_law_449 rfl ?_
  refine r_iconst (q := 451) 1 (by decide) dL_law_450 rfl ?_
  refine r_iadd (q := 452) dL_law_451 rfl ?_
  refine r_sld hL (q := 453) (i + 1) (nI_add i 1) (by omega) dL_law_452 rfl ?_
  refine r_aload_0 (q := 454) dL_law_453 rfl ?_
  refine r_iload_3 (q := 455) dL_law_454 rfl ?_
  refine r_iconst (q := 456) 2 (by decide) dL_law_455 rfl ?_
  refine r_iadd (q := 457) dL_law_456 rfl ?_
  refine r_sld hL (q := 458) (i + 2) (nI_add i 2) (by omega) dL_law_457 rfl ?_
  refine r_callV2i (M' := mX9_look) (q := 461) mk_X9_look mi_X9_look k_781 rfl rfl rfl rfl (Nat.le_of_ble_eq_true rfl) rmL dL_law_458 rfl (m_look_ok (d := 19) (hM.fc hF1) hWF ?_)
  refine r_icmp_eq (q := 464) 630 dL_law_461 (by decide) rfl (fun hcmp => ?_) (fun hcmp => ?_)
  · exact next S m1 hC1 (hM.fc hF1) hWF
  · exact absurd rfl hcmp
theorem law_c10 (hL : Ls ≤ 3072) (hi : i + 6 ≤ Ls) (hC : Ck S mem) (hM : Mk S mem) (hWF : WFS S) (next : ∀ S' m', Ck S' m' → Mk S' m' → WFS S' → Wp E (XL E b Ls xs) mL 630 (LL i) [] m') : Wp E (XL E b Ls xs) mL 466 (LL i) [] mem := by
  unfold LL at *
  refine r_aload_1 (q := 467) dL_law_466 rfl ?_
  refine r_callV0i (M' := mX8_best) (q := 470) mk_X8_best mi_X8_best k_422 rfl rfl rfl rfl (Nat.le_of_ble_eq_true rfl) rmL dL_law_467 rfl (best_ok (d := 0) hC hWF (fun m1 hF1 hC1 => ?_))
  refine r_aload_2 (q := 471) dL_law_470 rfl ?_
  refine r_callV0i (M' := mX9_best) (q := 474) mk_X9_best mi_X9_best k_808 rfl rfl rfl rfl (Nat.le_of_ble_eq_true rfl) rmL dL_law_471 rfl (m_best_ok (d := 19) (hM.fc hF1) hWF (fun m2 hF2 hM2 => ?_))
  rw [best_eq hWF.1 hWF.2.1]
  refine r_icmp_eq (q := 477) 630 dL_law_474 (by decide) rfl (fun hcmp => ?_) (fun hcmp => ?_)
  · exact next S m2 (hC1.fm hF2) hM2 hWF
  · exact absurd rfl hcmp
theorem law_c11 (hL : Ls ≤ 3072) (hi : i + 6 ≤ Ls) (hC : Ck S mem) (hM : Mk S mem) (hWF : WFS S) (next : ∀ S' m', Ck S' m' → Mk S' m' → WFS S' → Wp E (XL E b Ls xs) mL 630 (LL i) [] m') : Wp E (XL E b Ls xs) mL 479 (LL i) [] mem := by
  unfold LL at *
  refine r_aload_1 (q := 480) dL_law_479 rfl ?_
  refine r_callV0i (M' := mX8_why) (q := 483) mk_X8_why mi_X8_why k_505 rfl rfl rfl rfl (Nat.le_of_ble_eq_true rfl) rmL dL_law_480 rfl (why_ok (d := 0) hC hWF (fun m1 hF1 hC1 => ?_))
  refine r_aload_2 (q := 484) dL_law_483 rfl ?_
  refine r_callV0i (M' := mX9_why) (q := 487) mk_X9_why mi_X9_why k_839 rfl rfl rfl rfl (Nat.le_of_ble_eq_true rfl) rmL dL_law_484 rfl (m_why_ok (d := 19) (hM.fc hF1) hWF (fun m2 hF2 hM2 => ?_))
  rw [why_eq]
  refine r_icmp_eq (q := 490) 630 dL_law_487 (by decide) rfl (fun hcmp => ?_) (fun hcmp => ?_)
  · exact next S m2 (hC1.fm hF2) hM2 hWF
  · exact absurd rfl hcmp
theorem law_c12 (hL : Ls ≤ 3072) (hi : i + 6 ≤ Ls) (hC : Ck S mem) (hM : Mk S mem) (hWF : WFS S) (next : ∀ S' m', Ck S' m' → Mk S' m' → WFS S' → Wp E (XL E b Ls xs) mL 630 (LL i) [] m') : Wp E (XL E b Ls xs) mL 492 (LL i) [] mem := by
  unfold LL at *
  refine r_aload_1 (q := 493) dL_law_492 rfl ?_
  refine r_aload_0 (q := 494) dL_law_493 rfl ?_
  refine r_iload_3 (q := 495) dL_law_494 rfl ?_
  refine r_iconst (q := 496) 1 (by decide) dL_law_495 rfl ?_
  refine r_iadd (q := 497) dL_law_496 rfl ?_
  refine r_sld hL (q := 498) (i + 1) (nI_add i 1) (by omega) dL_law_497 rfl ?_
  refine r_callV1i (M' := mX8_versions) (q := 501) mk_X8_versions mi_X8_versions k_522 rfl rfl rfl rfl (Nat.le_of_ble_eq_true rfl) rmL dL_law_498 rfl (versions_ok (d := 0) hC hWF (fun m1 k0 hk0 hF1 hC1 => ?_))
  refine r_aload_2 (q := 502) dL_law_501 rfl ?_
  refine r_aload_0 (q := 503) dL_law_502 rfl ?_
  refine r_iload_3 (q := 504) dL_law_503 rfl ?_
  refine r_iconst (q := 505) 1 (by decide) dL_law_504 rfl ?_
  refine r_iadd (q := 506) dL_law_505 rfl ?_
  refine r_sld hL (q := 507) (i + 1) (nI_add i 1) (by omega) dL_law_506 rfl ?_
  refine r_callV1i (M' := mX9_versions) (q := 510) mk_X9_versions mi_X9_versions k_850 rfl rfl rfl rfl (Nat.le_of_ble_eq_true rfl) rmL dL_law_507 rfl (m_versions_ok (d := 19) (hM.fc hF1) hWF (fun m2 hF2 hM2 => ?_))
  rw [(ver_eq hWF hk0 _).1]
  refine r_icmp_eq (q := 513) 630 dL_law_510 (by decide) rfl (fun hcmp => ?_) (fun hcmp => ?_)
  · exact next _ m2 (Ck.fm (by rw [← (ver_eq hWF hk0 _).2]; exact hC1) hF2) hM2 (wf_versions hWF)
  · exact absurd rfl hcmp
theorem law_c13 (hL : Ls ≤ 3072) (hi : i + 6 ≤ Ls) (hC : Ck S mem) (hM : Mk S mem) (hWF : WFS S) (next : ∀ S' m', Ck S' m' → Mk S' m' → WFS S' → Wp E (XL E b Ls xs) mL 630 (LL i) [] m') : Wp E (XL E b Ls xs) mL 515 (LL i) [] mem := by
  unfold LL at *
  refine r_aload_1 (q := 516) dL_law_515 rfl ?_
  refine r_callV0i (M' := mX8_second) (q := 519) mk_X8_second mi_X8_second k_558 rfl rfl rfl rfl (Nat.le_of_ble_eq_true rfl) rmL dL_law_516 rfl (second_ok (d := 22) hC ?_)
  refine r_aload_2 (q := 520) dL_law_519 rfl ?_
  refine r_callV0i (M' := mX9_second) (q := 523) mk_X9_second mi_X9_second k_854 rfl rfl rfl rfl (Nat.le_of_ble_eq_true rfl) rmL dL_law_520 rfl (m_second_ok (d := 22) hM ?_)
  refine r_icmp_eq (q := 526) 630 dL_law_523 (by decide) rfl (fun hcmp => ?_) (fun hcmp => ?_)
  · exact next S mem hC hM hWF
  · exact absurd rfl hcmp
theorem law_c14 (hL : Ls ≤ 3072) (hi : i + 6 ≤ Ls) (hC : Ck S mem) (hM : Mk S mem) (hWF : WFS S) (next : ∀ S' m', Ck S' m' → Mk S' m' → WFS S' → Wp E (XL E b Ls xs) mL 630 (LL i) [] m') : Wp E (XL E b Ls xs) mL 528 (LL i) [] mem := by
  unfold LL at *
  refine r_aload_1 (q := 529) dL_law_528 rfl ?_
  refine r_aload_0 (q := 530) dL_law_529 rfl ?_
  refine r_iload_3 (q := 531) dL_law_530 rfl ?_
  refine r_iconst (q := 532) 1 (by decide) dL_law_531 rfl ?_
  refine r_iadd (q := 533) dL_law_532 rfl ?_
  refine r_sld hL (q := 534) (i + 1) (nI_add i 1) (by omega) dL_law_533 rfl ?_
  refine r_callV1i (M' := mX8_order) (q := 537) mk_X8_order mi_X8_order k_562 rfl rfl rfl rfl (Nat.le_of_ble_eq_true rfl) rmL dL_law_534 rfl (order_ok (d := 18) hC hWF (fun m1 T hT hF1 hC1 => ?_))
  refine r_aload_2 (q := 538) dL_law_537 rfl ?_
  refine r_aload_0 (q := 539) dL_law_538 rfl ?_
  refine r_iload_3 (q := 540) dL_law_539 rfl ?_
  refine r_iconst (q := 541) 1 (by decide) dL_law_540 rfl ?_
  refine r_iadd (q := 542) dL_law_541 rfl ?_
  refine r_sld hL (q := 543) (i + 1) (nI_add i 1) (by omega) dL_law_542 rfl ?_
  refine r_callV1i (M' := mX9_order) (q := 546) mk_X9_order mi_X9_order k_858 rfl rfl rfl rfl (Nat.le_of_ble_eq_true rfl) rmL dL_law_543 rfl (m_order_ok (d := 20) (hM.fc hF1) hWF (fun m2 cc hcc hF2 hM2 => ?_))
  rw [(ord_eq hWF hT hcc).1]
  refine r_icmp_eq (q := 549) 630 dL_law_546 (by decide) rfl (fun hcmp => ?_) (fun hcmp => ?_)
  · exact next _ m2 (Ck.fm (by rw [← (ord_eq hWF hT hcc).2]; exact hC1) hF2) hM2 (wf_order hWF hcc)
  · exact absurd rfl hcmp
theorem law_c15 (hL : Ls ≤ 3072) (hi : i + 6 ≤ Ls) (hC : Ck S mem) (hM : Mk S mem) (hWF : WFS S) (next : ∀ S' m', Ck S' m' → Mk S' m' → WFS S' → Wp E (XL E b Ls xs) mL 630 (LL i) [] m') : Wp E (XL E b Ls xs) mL 551 (LL i) [] mem := by
  unfold LL at *
  refine r_aload_1 (q := 552) dL_law_551 rfl ?_
  refine r_aload_0 (q := 553) dL_law_552 rfl ?_
  refine r_iload_3 (q := 554) dL_law_553 rfl ?_
  refine r_iconst (q := 555) 1 (by decide) dL_law_554 rfl ?_
  refine r_iadd (q := 556) dL_law_555 rfl ?_
  refine r_sld hL (q := 557) (i + 1) (nI_add i 1) (by omega) dL_law_556 rfl ?_
  refine r_callV1i (M' := mX8_place) (q := 560) mk_X8_place mi_X8_place k_616 rfl rfl rfl rfl (Nat.le_of_ble_eq_true rfl) rmL dL_law_557 rfl (place_ok (d := 21) hC hWF ?_)
  refine r_aload_2 (q := 561) dL_law_560 rfl ?_
  refine r_aload_0 (q := 562) dL_law_561 rfl ?_
  refine r_iload_3 (q := 563) dL_law_562 rfl ?_
  refine r_iconst (q := 564) 1 (by decide) dL_law_563 rfl ?_
  refine r_iadd (q := 565) dL_law_564 rfl ?_
  refine r_sld hL (q := 566) (i + 1) (nI_add i 1) (by omega) dL_law_565 rfl ?_
  refine r_callV1i (M' := mX9_place) (q := 569) mk_X9_place mi_X9_place k_870 rfl rfl rfl rfl (Nat.le_of_ble_eq_true rfl) rmL dL_law_566 rfl (m_place_ok (d := 21) hM hWF ?_)
  refine r_icmp_eq (q := 572) 630 dL_law_569 (by decide) rfl (fun hcmp => ?_) (fun hcmp => ?_)
  · exact next S mem hC hM hWF
  · exact absurd rfl hcmp
theorem law_c16 (hL : Ls ≤ 3072) (hi : i + 6 ≤ Ls) (hC : Ck S mem) (hM : Mk S mem) (hWF : WFS S) (next : ∀ S' m', Ck S' m' → Mk S' m' → WFS S' → Wp E (XL E b Ls xs) mL 630 (LL i) [] m') : Wp E (XL E b Ls xs) mL 574 (LL i) [] mem := by
  unfold LL at *
  refine r_aload_1 (q := 575) dL_law_574 rfl ?_
  refine r_aload_0 (q := 576) dL_law_575 rfl ?_
  refine r_iload_3 (q := 577) dL_law_576 rfl ?_
  refine r_iconst (q := 578) 1 (by decide) dL_law_577 rfl ?_
  refine r_iadd (q := 579) dL_law_578 rfl ?_
  refine r_sld hL (q := 580) (i + 1) (nI_add i 1) (by omega) dL_law_579 rfl ?_
  refine r_aload_0 (q := 581) dL_law_580 rfl ?_
  refine r_iload_3 (q := 582) dL_law_581 rfl ?_
  refine r_iconst (q := 583) 2 (by decide) dL_law_582 rfl ?_
  refine r_iadd (q := 584) dL_law_583 rfl ?_
  refine r_sld hL (q := 585) (i + 2) (nI_add i 2) (by omega) dL_law_584 rfl ?_
  refine r_callV2i (M' := mX8_told) (q := 588) mk_X8_told mi_X8_told k_620 rfl rfl rfl rfl (Nat.le_of_ble_eq_true rfl) rmL dL_law_585 rfl (told_ok (d := 20) hC hWF ?_)
  refine r_aload_2 (q := 589) dL_law_588 rfl ?_
  refine r_aload_0 (q := 590) dL_law_589 rfl ?_
  refine r_iload_3 (q := 591) dL_law_590 rfl ?_
  refine r_iconst (q := 592) 1 (by decide) dL_law_591 rfl ?_
  refine r_iadd (q := 593) dL_law_592 rfl ?_
  refine r_sld hL (q := 594) (i + 1) (nI_add i 1) (by omega) dL_law_593 rfl ?_
  refine r_aload_0 (q := 595) dL_law_594 rfl ?_
  refine r_iload_3 (q := 596) dL_law_595 rfl ?_
  refine r_iconst (q := 597) 2 (by decide) dL_law_596 rfl ?_
  refine r_iadd (q := 598) dL_law_597 rfl ?_
  refine r_sld hL (q := 599) (i + 2) (nI_add i 2) (by omega) dL_law_598 rfl ?_
  refine r_callV2i (M' := mX9_told_) (q := 602) mk_X9_told_ mi_X9_told_ k_874 rfl rfl rfl rfl (Nat.le_of_ble_eq_true rfl) rmL dL_law_599 rfl (m_told_ok (d := 20) hM hWF ?_)
  refine r_icmp_eq (q := 605) 630 dL_law_602 (by decide) rfl (fun hcmp => ?_) (fun hcmp => ?_)
  · exact next S mem hC hM hWF
  · exact absurd rfl hcmp
theorem law_c17 (hL : Ls ≤ 3072) (hi : i + 6 ≤ Ls) (hC : Ck S mem) (hM : Mk S mem) (hWF : WFS S) (next : ∀ S' m', Ck S' m' → Mk S' m' → WFS S' → Wp E (XL E b Ls xs) mL 630 (LL i) [] m') : Wp E (XL E b Ls xs) mL 607 (LL i) [] mem := by
  unfold LL at *
  refine r_aload_1 (q := 608) dL_law_607 rfl ?_
  refine r_aload_0 (q := 609) dL_law_608 rfl ?_
  refine r_iload_3 (q := 610) dL_law_609 rfl ?_
  refine r_iconst (q := 611) 1 (by decide) dL_law_610 rfl ?_
  refine r_iadd (q := 612) dL_law_611 rfl ?_
  refine r_sld hL (q := 613) (i + 1) (nI_add i 1) (by omega) dL_law_612 rfl ?_
  refine r_callV1i (M' := mX8_count) (q := 616) mk_X8_count mi_X8_count k_624 rfl rfl rfl rfl (Nat.le_of_ble_eq_true rfl) rmL dL_law_613 rfl (count_ok (d := 20) hC hWF ?_)
  refine r_aload_2 (q := 617) dL_law_616 rfl ?_
  refine r_aload_0 (q := 618) dL_law_617 rfl ?_
  refine r_iload_3 (q := 619) dL_law_618 rfl ?_
  refine r_iconst (q := 620) 1 (by decide) dL_law_619 rfl ?_
  refine r_iadd (q := 621) dL_law_620 rfl ?_
  refine r_sld hL (q := 622) (i + 1) (nI_add i 1) (by omega) dL_law_621 rfl ?_
  refine r_callV1i (M' := mX9_count) (q := 625) mk_X9_count mi_X9_count k_878 rfl rfl rfl rfl (Nat.le_of_ble_eq_true rfl) rmL dL_law_622 rfl (m_count_ok (d := 20) hM hWF (fun m2 hF2 hM2 => ?_))
  refine r_icmp_eq (q := 628) 630 dL_law_625 (by decide) rfl (fun hcmp => ?_) (fun hcmp => ?_)
  · exact next S m2 (hC.fm hF2) hM2 hWF
  · exact absurd rfl hcmp
end CS
theorem law_loop {E : En} {b Ls : Nat} {xs : Nat → Int32} (hL : Ls ≤ 3072) : ∀ (n i : Nat) (S : AS) (mem : Mem), Ls + 6 - i < n → i ≤ Ls → Ck S mem → Mk S mem → WFS S → Wp E (XL E b Ls xs) mL 18 (LL i) [] mem := by
  intro n
  induction n with
  | zero => intro i S mem h; omega
  | succ n ih =>
    intro i S mem h1 h2 hC hM hWF
    unfold LL
    refine r_iload_3 (q := 19) dL_law_18 rfl ?_
    refine r_aload_0 (q := 20) dL_law_19 rfl ?_
    refine r_slen (q := 21) dL_law_20 rfl ?_
    refine r_bipush (q := 23) 6 (by decide) dL_law_21 rfl ?_
    refine r_isub (q := 24) dL_law_23 rfl ?_
    refine r_icmp_gt (q := 27) 636 dL_law_24 (by decide) rfl (fun h24 => ?_) (fun h24 => ?_)
    · refine r_iconst (q := 637) 1 (by decide) dL_law_636 rfl ?_
      exact r_lret dL_law_637
    · have hi : i + 6 ≤ Ls := by
        rw [Int32.lt_iff_toInt_lt, show nI Ls - 6 = nI Ls - nI 6 from rfl, pk_sub_toInt (by omega) (by omega), nI_toInt (by omega)] at h24
        omega
      have next : ∀ S' m', Ck S' m' → Mk S' m' → WFS S' → Wp E (XL E b Ls xs) mL 630 (LL i) [] m' := by
        intro S' m' hC' hM' hW'
        unfold LL
        refine r_iinc_3 (q := 633) (nI (i + 6)) (show nI i + Int32.ofInt 6 = nI (i + 6) from nI_add i 6) (by decide) dL_law_630 rfl ?_
        refine r_goto 18 dL_law_633 (by decide) ?_
        by_cases hle : i + 6 ≤ Ls
        · exact ih (i + 6) S' m' (by omega) hle hC' hM' hW'
        · omega
      refine r_aload_0 (q := 28) dL_law_27 rfl ?_
      refine r_iload_3 (q := 29) dL_law_28 rfl ?_
      refine r_sld hL (q := 30) i rfl (by omega) dL_law_29 rfl ?_
      refine r_bipush (q := 32) 31 (by decide) dL_law_30 rfl ?_
      refine r_iand (q := 33) dL_law_32 rfl ?_
      generalize xs i &&& 31 = w
      cases hw : decide (0 ≤ w ∧ w ≤ 17) with
      | false =>
        have ho := out_ab (a := 0) (b := 17) (by decide) (by decide) hw
        exact r_tabO 630 dL_law_33 ho (by decide) (next S mem hC hM hWF)
      | true =>
        obtain ⟨j, -, hj, rfl⟩ := in_ab (a := 0) (b := 17) (by decide) (by decide) hw
        rcases (by omega : j = 0 ∨ j = 1 ∨ j = 2 ∨ j = 3 ∨ j = 4 ∨ j = 5 ∨ j = 6 ∨ j = 7 ∨ j = 8 ∨ j = 9 ∨ j = 10 ∨ j = 11 ∨ j = 12 ∨ j = 13 ∨ j = 14 ∨ j = 15 ∨ j = 16 ∨ j = 17) with rfl | rfl | rfl | rfl | rfl | rfl | rfl | rfl | rfl | rfl | rfl | rfl | rfl | rfl | rfl | rfl | rfl | rfl
        · exact r_tabI 120 dL_law_33 (by decide) (by decide) rfl (by decide) (law_c0 hL hi hC hM hWF next)
        · exact r_tabI 183 dL_law_33 (by decide) (by decide) rfl (by decide) (law_c1 hL hi hC hM hWF next)
        · exact r_tabI 216 dL_law_33 (by decide) (by decide) rfl (by decide) (law_c2 hL hi hC hM hWF next)
        · exact r_tabI 275 dL_law_33 (by decide) (by decide) rfl (by decide) (law_c3 hL hi hC hM hWF next)
        · exact r_tabI 318 dL_law_33 (by decide) (by decide) rfl (by decide) (law_c4 hL hi hC hM hWF next)
        · exact r_tabI 351 dL_law_33 (by decide) (by decide) rfl (by decide) (law_c5 hL hi hC hM hWF next)
        · exact r_tabI 374 dL_law_33 (by decide) (by decide) rfl (by decide) (law_c6 hL hi hC hM hWF next)
        · exact r_tabI 387 dL_law_33 (by decide) (by decide) rfl (by decide) (law_c7 hL hi hC hM hWF next)
        · exact r_tabI 410 dL_law_33 (by decide) (by decide) rfl (by decide) (law_c8 hL hi hC hM hWF next)
        · exact r_tabI 433 dL_law_33 (by decide) (by decide) rfl (by decide) (law_c9 hL hi hC hM hWF next)
        · exact r_tabI 466 dL_law_33 (by decide) (by decide) rfl (by decide) (law_c10 hL hi hC hM hWF next)
        · exact r_tabI 479 dL_law_33 (by decide) (by decide) rfl (by decide) (law_c11 hL hi hC hM hWF next)
        · exact r_tabI 492 dL_law_33 (by decide) (by decide) rfl (by decide) (law_c12 hL hi hC hM hWF next)
        · exact r_tabI 515 dL_law_33 (by decide) (by decide) rfl (by decide) (law_c13 hL hi hC hM hWF next)
        · exact r_tabI 528 dL_law_33 (by decide) (by decide) rfl (by decide) (law_c14 hL hi hC hM hWF next)
        · exact r_tabI 551 dL_law_33 (by decide) (by decide) rfl (by decide) (law_c15 hL hi hC hM hWF next)
        · exact r_tabI 574 dL_law_33 (by decide) (by decide) rfl (by decide) (law_c16 hL hi hC hM hWF next)
        · exact r_tabI 607 dL_law_33 (by decide) (by decide) rfl (by decide) (law_c17 hL hi hC hM hWF next)
