/-! THE LAW: its cases and its loop, over an invariant Iv between the class's cells and the model's. -/
def mLaw : Mt := (x, code, 4, ret, 22)
/-- what is known of the law's start: the script of Ln ints xs (the logical cell 3000) -/
def PsL (g : GG) (xs : Nat → Int32) (Ln : Nat) : State → Prop := fun s => va_X (gS g 2000) Ln xs s s.heap ∧ gS g 2000 < gB g ∧ gB g = s.heap.size
abbrev Lv (g : GG) (xs : Nat → Int32) (Ln : Nat) (n pc : Nat) (L : List (Option Value)) (st : List Value) (X : LX) : Prop := EvQ g mLaw room_1 (fun s args below => lw_Z below args s) (PsL g xs Ln) 0 n pc L st X
/-- a call on both sides: one answer, the invariant again -/
def JP (g : GG) (Iv : Nat → LX → Prop) (Mc Mm : Mt) (as : List Value) (n : Nat) (X : LX) : Prop := ∃ (n1 : Nat) (Q : Int32 → LX → Prop), n ≤ n1 ∧ n1 ≤ 226 ∧ 146 ≤ n1 ∧ Ex g Mc 200 n n1 (.ref 0 :: as) X (fun v X1 => ∃ r, v = some (.int r) ∧ Q r X1) ∧ ∀ r X1, Q r X1 → Ex g Mm 200 n1 n1 (.ref 133 :: as) X1 (fun v X2 => v = some (.int r) ∧ Iv n1 X2)
section LAW
variable {g : GG} {xs : Nat → Int32} {Ln n : Nat} {X : LX} {Iv : Nat → LX → Prop}
theorem pA_s : pV g (.ref 3000) = .ref (gS g 2000) := by
  show Value.ref (pA g 3000) = _
  unfold pA
  rw [if_neg (by omega)]
theorem ev_sld {R : Room} {Qf : State → Array Value → List Frame → State → Prop} {M : Mt} {n0 pc j : Nat} {L : List (Option Value)} {st : List Value} {i : Int32} (hd : decode (mC M) pc = .ok (.iaload, 1)) (hi : i = nI j) (hj : j < Ln) (hL : Ln ≤ 3072) (k : EvQ g M R Qf (PsL g xs Ln) n0 n (pc + 1) L (.int (xs j) :: st) X) : EvQ g M R Qf (PsL g xs Ln) n0 n pc L (.int i :: .ref 3000 :: st) X := by
  intro p e s m args below meth c C hPs hle H locs ls hW hS hl
  rw [List.map_cons, List.map_cons, pA_s]
  subst hi
  refine va_sld C.1 C.2.1 hPs.1 (by rw [← hPs.2.2]; exact hPs.2.1) (Nat.not_le.mpr hPs.2.1) hS (vp_in_nI hj (by omega)) hd ?_
  rw [nI_clamp (by omega)]
  exact k p e s m args below meth c C hPs hle H locs ls hW hS hl
theorem ev_slen {R : Room} {Qf : State → Array Value → List Frame → State → Prop} {M : Mt} {n0 pc : Nat} {L : List (Option Value)} {st : List Value} (hd : decode (mC M) pc = .ok (.arraylength, 1)) (k : EvQ g M R Qf (PsL g xs Ln) n0 n (pc + 1) L (.int (nI Ln) :: st) X) : EvQ g M R Qf (PsL g xs Ln) n0 n pc L (.ref 3000 :: st) X := by
  intro p e s m args below meth c C hPs hle H locs ls hW hS hl
  rw [List.map_cons, pA_s]
  exact va_slen C.1 C.2.1 hPs.1 (by rw [← hPs.2.2]; exact hPs.2.1) (Nat.not_le.mpr hPs.2.1) hS hd (k p e s m args below meth c C hPs hle H locs ls hW hS hl)
theorem sS_226 : sS 226 = 12813 := by decide +kernel
set_option maxHeartbeats 1000000 in
theorem law_part {i : Nat} (hL : Ln ≤ 3072) (hi : i + 5 < Ln) (hn : 146 ≤ n) (hn2 : n ≤ 226) (hJ : JP g Iv mX11_part mX12_part [.int (xs (i + 1)), .int (xs (i + 2)), .int (xs (i + 3))] n X) (k : ∀ n1 X2, 146 ≤ n1 → n1 ≤ 226 → Iv n1 X2 → Lv g xs Ln n1 1344 [some (.ref 3000), some (.ref 0), some (.ref 133), some (.int (nI i))] [] X2) : Lv g xs Ln n 200 [some (.ref 3000), some (.ref 0), some (.ref 133), some (.int (nI i))] [] X := by
  obtain ⟨n1, Q, h1, h2, h3, hE1, hE2⟩ := hJ
  have hs : sS n1 ≤ sS 226 := sS_mono h2
  rw [sS_226] at hs
  refine ev_aload_n dL_law_200 rfl ?_
  refine ev_aload_n dL_law_201 rfl ?_
  refine ev_iload_n dL_law_202 rfl ?_
  refine ev_iconst (v := 1) dL_law_203 ki_1 ?_
  refine ev_iadd dL_law_204 ?_
  refine ev_sld (j := i + 1) dL_law_205 (show nI i + nI 1 = nI (i + 1) from nI_add i 1) (by omega) hL ?_
  refine ev_aload_n dL_law_206 rfl ?_
  refine ev_iload_n dL_law_207 rfl ?_
  refine ev_iconst (v := 2) dL_law_208 ki_2 ?_
  refine ev_iadd dL_law_209 ?_
  refine ev_sld (j := i + 2) dL_law_210 (show nI i + nI 2 = nI (i + 2) from nI_add i 2) (by omega) hL ?_
  refine ev_aload_n dL_law_211 rfl ?_
  refine ev_iload_n dL_law_212 rfl ?_
  refine ev_iconst (v := 3) dL_law_213 ki_3 ?_
  refine ev_iadd dL_law_214 ?_
  refine ev_sld (j := i + 3) dL_law_215 (show nI i + nI 3 = nI (i + 3) from nI_add i 3) (by omega) hL ?_
  refine ev_callV (as := [.int (xs (i + 1)), .int (xs (i + 2)), .int (xs (i + 3))]) (rest := []) dL_law_216 vX11_part ml_22_13 isX11_part seX11_part npX11_part (rc_0 (by omega)) (Nat.le_of_ble_eq_true rfl) (Nat.le_of_ble_eq_true rfl) (by decide) rfl (Nat.le_of_ble_eq_true rfl) h1 (by show n1 - 0 ≤ 600000; omega) (by show sS n1 - sS 0 ≤ 7302249; omega) hE1 ?_
  rintro v Y ⟨r, rfl, hQ⟩
  refine ev_aload_n dL_law_219 rfl ?_
  refine ev_aload_n dL_law_220 rfl ?_
  refine ev_iload_n dL_law_221 rfl ?_
  refine ev_iconst (v := 1) dL_law_222 ki_1 ?_
  refine ev_iadd dL_law_223 ?_
  refine ev_sld (j := i + 1) dL_law_224 (show nI i + nI 1 = nI (i + 1) from nI_add i 1) (by omega) hL ?_
  refine ev_aload_n dL_law_225 rfl ?_
  refine ev_iload_n dL_law_226 rfl ?_
  refine ev_iconst (v := 2) dL_law_227 ki_2 ?_
  refine ev_iadd dL_law_228 ?_
  refine ev_sld (j := i + 2) dL_law_229 (show nI i + nI 2 = nI (i + 2) from nI_add i 2) (by omega) hL ?_
  refine ev_aload_n dL_law_230 rfl ?_
  refine ev_iload_n dL_law_231 rfl ?_
  refine ev_iconst (v := 3) dL_law_232 ki_3 ?_
  refine ev_iadd dL_law_233 ?_
  refine ev_sld (j := i + 3) dL_law_234 (show nI i + nI 3 = nI (i + 3) from nI_add i 3) (by omega) hL ?_
  refine ev_callV (as := [.int (xs (i + 1)), .int (xs (i + 2)), .int (xs (i + 3))]) (rest := [.int r]) dL_law_235 vX12_part ml_22_17 isX12_part seX12_part npX12_part (rc_133 (by omega)) (Nat.le_of_ble_eq_true rfl) (Nat.le_of_ble_eq_true rfl) (by decide) rfl (Nat.le_of_ble_eq_true rfl) (Nat.le_refl _) (by show n1 - 0 ≤ 600000; omega) (by show sS n1 - sS 0 ≤ 7302249; omega) (hE2 r Y hQ) ?_
  rintro v Y2 ⟨rfl, hI⟩
  refine ev_icmpT (tgt := 1344) dL_law_238 (by decide) (show r = r from rfl) ?_
  exact k n1 _ h3 h2 hI
set_option maxHeartbeats 1000000 in
theorem law_unlike {i : Nat} (hL : Ln ≤ 3072) (hi : i + 5 < Ln) (hn : 146 ≤ n) (hn2 : n ≤ 226) (hJ : JP g Iv mX11_unlike mX12_unlike [.int (xs (i + 1)), .int (xs (i + 2)), .int (xs (i + 3))] n X) (k : ∀ n1 X2, 146 ≤ n1 → n1 ≤ 226 → Iv n1 X2 → Lv g xs Ln n1 1344 [some (.ref 3000), some (.ref 0), some (.ref 133), some (.int (nI i))] [] X2) : Lv g xs Ln n 243 [some (.ref 3000), some (.ref 0), some (.ref 133), some (.int (nI i))] [] X := by
  obtain ⟨n1, Q, h1, h2, h3, hE1, hE2⟩ := hJ
  have hs : sS n1 ≤ sS 226 := sS_mono h2
  rw [sS_226] at hs
  refine ev_aload_n dL_law_243 rfl ?_
  refine ev_aload_n dL_law_244 rfl ?_
  refine ev_iload_n dL_law_245 rfl ?_
  refine ev_iconst (v := 1) dL_law_246 ki_1 ?_
  refine ev_iadd dL_law_247 ?_
  refine ev_sld (j := i + 1) dL_law_248 (show nI i + nI 1 = nI (i + 1) from nI_add i 1) (by omega) hL ?_
  refine ev_aload_n dL_law_249 rfl ?_
  refine ev_iload_n dL_law_250 rfl ?_
  refine ev_iconst (v := 2) dL_law_251 ki_2 ?_
  refine ev_iadd dL_law_252 ?_
  refine ev_sld (j := i + 2) dL_law_253 (show nI i + nI 2 = nI (i + 2) from nI_add i 2) (by omega) hL ?_
  refine ev_aload_n dL_law_254 rfl ?_
  refine ev_iload_n dL_law_255 rfl ?_
  refine ev_iconst (v := 3) dL_law_256 ki_3 ?_
  refine ev_iadd dL_law_257 ?_
  refine ev_sld (j := i + 3) dL_law_258 (show nI i + nI 3 = nI (i + 3) from nI_add i 3) (by omega) hL ?_
  refine ev_callV (as := [.int (xs (i + 1)), .int (xs (i + 2)), .int (xs (i + 3))]) (rest := []) dL_law_259 vX11_unlike ml_22_18 isX11_unlike seX11_unlike npX11_unlike (rc_0 (by omega)) (Nat.le_of_ble_eq_true rfl) (Nat.le_of_ble_eq_true rfl) (by decide) rfl (Nat.le_of_ble_eq_true rfl) h1 (by show n1 - 0 ≤ 600000; omega) (by show sS n1 - sS 0 ≤ 7302249; omega) hE1 ?_
  rintro v Y ⟨r, rfl, hQ⟩
  refine ev_aload_n dL_law_262 rfl ?_
  refine ev_aload_n dL_law_263 rfl ?_
  refine ev_iload_n dL_law_264 rfl ?_
  refine ev_iconst (v := 1) dL_law_265 ki_1 ?_
  refine ev_iadd dL_law_266 ?_
  refine ev_sld (j := i + 1) dL_law_267 (show nI i + nI 1 = nI (i + 1) from nI_add i 1) (by omega) hL ?_
  refine ev_aload_n dL_law_268 rfl ?_
  refine ev_iload_n dL_law_269 rfl ?_
  refine ev_iconst (v := 2) dL_law_270 ki_2 ?_
  refine ev_iadd dL_law_271 ?_
  refine ev_sld (j := i + 2) dL_law_272 (show nI i + nI 2 = nI (i + 2) from nI_add i 2) (by omega) hL ?_
  refine ev_aload_n dL_law_273 rfl ?_
  refine ev_iload_n dL_law_274 rfl ?_
  refine ev_iconst (v := 3) dL_law_275 ki_3 ?_
  refine ev_iadd dL_law_276 ?_
  refine ev_sld (j := i + 3) dL_law_277 (show nI i + nI 3 = nI (i + 3) from nI_add i 3) (by omega) hL ?_
  refine ev_callV (as := [.int (xs (i + 1)), .int (xs (i + 2)), .int (xs (i + 3))]) (rest := [.int r]) dL_law_278 vX12_unlike ml_22_21 isX12_unlike seX12_unlike npX12_unlike (rc_133 (by omega)) (Nat.le_of_ble_eq_true rfl) (Nat.le_of_ble_eq_true rfl) (by decide) rfl (Nat.le_of_ble_eq_true rfl) (Nat.le_refl _) (by show n1 - 0 ≤ 600000; omega) (by show sS n1 - sS 0 ≤ 7302249; omega) (hE2 r Y hQ) ?_
  rintro v Y2 ⟨rfl, hI⟩
  refine ev_icmpT (tgt := 1344) dL_law_281 (by decide) (show r = r from rfl) ?_
  exact k n1 _ h3 h2 hI
set_option maxHeartbeats 1000000 in
theorem law_meal {i : Nat} (hL : Ln ≤ 3072) (hi : i + 5 < Ln) (hn : 146 ≤ n) (hn2 : n ≤ 226) (hJ : JP g Iv mX11_meal mX12_meal [.int (xs (i + 1)), .int (xs (i + 2))] n X) (k : ∀ n1 X2, 146 ≤ n1 → n1 ≤ 226 → Iv n1 X2 → Lv g xs Ln n1 1344 [some (.ref 3000), some (.ref 0), some (.ref 133), some (.int (nI i))] [] X2) : Lv g xs Ln n 286 [some (.ref 3000), some (.ref 0), some (.ref 133), some (.int (nI i))] [] X := by
  obtain ⟨n1, Q, h1, h2, h3, hE1, hE2⟩ := hJ
  have hs : sS n1 ≤ sS 226 := sS_mono h2
  rw [sS_226] at hs
  refine ev_aload_n dL_law_286 rfl ?_
  refine ev_aload_n dL_law_287 rfl ?_
  refine ev_iload_n dL_law_288 rfl ?_
  refine ev_iconst (v := 1) dL_law_289 ki_1 ?_
  refine ev_iadd dL_law_290 ?_
  refine ev_sld (j := i + 1) dL_law_291 (show nI i + nI 1 = nI (i + 1) from nI_add i 1) (by omega) hL ?_
  refine ev_aload_n dL_law_292 rfl ?_
  refine ev_iload_n dL_law_293 rfl ?_
  refine ev_iconst (v := 2) dL_law_294 ki_2 ?_
  refine ev_iadd dL_law_295 ?_
  refine ev_sld (j := i + 2) dL_law_296 (show nI i + nI 2 = nI (i + 2) from nI_add i 2) (by omega) hL ?_
  refine ev_callV (as := [.int (xs (i + 1)), .int (xs (i + 2))]) (rest := []) dL_law_297 vX11_meal ml_22_22 isX11_meal seX11_meal npX11_meal (rc_0 (by omega)) (Nat.le_of_ble_eq_true rfl) (Nat.le_of_ble_eq_true rfl) (by decide) rfl (Nat.le_of_ble_eq_true rfl) h1 (by show n1 - 0 ≤ 600000; omega) (by show sS n1 - sS 0 ≤ 7302249; omega) hE1 ?_
  rintro v Y ⟨r, rfl, hQ⟩
  refine ev_aload_n dL_law_300 rfl ?_
  refine ev_aload_n dL_law_301 rfl ?_
  refine ev_iload_n dL_law_302 rfl ?_
  refine ev_iconst (v := 1) dL_law_303 ki_1 ?_
  refine ev_iadd dL_law_304 ?_
  refine ev_sld (j := i + 1) dL_law_305 (show nI i + nI 1 = nI (i + 1) from nI_add i 1) (by omega) hL ?_
  refine ev_aload_n dL_law_306 rfl ?_
  refine ev_iload_n dL_law_307 rfl ?_
  refine ev_iconst (v := 2) dL_law_308 ki_2 ?_
  refine ev_iadd dL_law_309 ?_
  refine ev_sld (j := i + 2) dL_law_310 (show nI i + nI 2 = nI (i + 2) from nI_add i 2) (by omega) hL ?_
  refine ev_callV (as := [.int (xs (i + 1)), .int (xs (i + 2))]) (rest := [.int r]) dL_law_311 vX12_meal ml_22_26 isX12_meal seX12_meal npX12_meal (rc_133 (by omega)) (Nat.le_of_ble_eq_true rfl) (Nat.le_of_ble_eq_true rfl) (by decide) rfl (Nat.le_of_ble_eq_true rfl) (Nat.le_refl _) (by show n1 - 0 ≤ 600000; omega) (by show sS n1 - sS 0 ≤ 7302249; omega) (hE2 r Y hQ) ?_
  rintro v Y2 ⟨rfl, hI⟩
  refine ev_icmpT (tgt := 1344) dL_law_314 (by decide) (show r = r from rfl) ?_
  exact k n1 _ h3 h2 hI
set_option maxHeartbeats 1000000 in
theorem law_isOf {i : Nat} (hL : Ln ≤ 3072) (hi : i + 5 < Ln) (hn : 146 ≤ n) (hn2 : n ≤ 226) (hJ : JP g Iv mX11_isOf mX12_isOf [.int (xs (i + 1)), .int (xs (i + 2))] n X) (k : ∀ n1 X2, 146 ≤ n1 → n1 ≤ 226 → Iv n1 X2 → Lv g xs Ln n1 1344 [some (.ref 3000), some (.ref 0), some (.ref 133), some (.int (nI i))] [] X2) : Lv g xs Ln n 319 [some (.ref 3000), some (.ref 0), some (.ref 133), some (.int (nI i))] [] X := by
  obtain ⟨n1, Q, h1, h2, h3, hE1, hE2⟩ := hJ
  have hs : sS n1 ≤ sS 226 := sS_mono h2
  rw [sS_226] at hs
  refine ev_aload_n dL_law_319 rfl ?_
  refine ev_aload_n dL_law_320 rfl ?_
  refine ev_iload_n dL_law_321 rfl ?_
  refine ev_iconst (v := 1) dL_law_322 ki_1 ?_
  refine ev_iadd dL_law_323 ?_
  refine ev_sld (j := i + 1) dL_law_324 (show nI i + nI 1 = nI (i + 1) from nI_add i 1) (by omega) hL ?_
  refine ev_aload_n dL_law_325 rfl ?_
  refine ev_iload_n dL_law_326 rfl ?_
  refine ev_iconst (v := 2) dL_law_327 ki_2 ?_
  refine ev_iadd dL_law_328 ?_
  refine ev_sld (j := i + 2) dL_law_329 (show nI i + nI 2 = nI (i + 2) from nI_add i 2) (by omega) hL ?_
  refine ev_callV (as := [.int (xs (i + 1)), .int (xs (i + 2))]) (rest := []) dL_law_330 vX11_isOf ml_22_27 isX11_isOf seX11_isOf npX11_isOf (rc_0 (by omega)) (Nat.le_of_ble_eq_true rfl) (Nat.le_of_ble_eq_true rfl) (by decide) rfl (Nat.le_of_ble_eq_true rfl) h1 (by show n1 - 0 ≤ 600000; omega) (by show sS n1 - sS 0 ≤ 7302249; omega) hE1 ?_
  rintro v Y ⟨r, rfl, hQ⟩
  refine ev_aload_n dL_law_333 rfl ?_
  refine ev_aload_n dL_law_334 rfl ?_
  refine ev_iload_n dL_law_335 rfl ?_
  refine ev_iconst (v := 1) dL_law_336 ki_1 ?_
  refine ev_iadd dL_law_337 ?_
  refine ev_sld (j := i + 1) dL_law_338 (show nI i + nI 1 = nI (i + 1) from nI_add i 1) (by omega) hL ?_
  refine ev_aload_n dL_law_339 rfl ?_
  refine ev_iload_n dL_law_340 rfl ?_
  refine ev_iconst (v := 2) dL_law_341 ki_2 ?_
  refine ev_iadd dL_law_342 ?_
  refine ev_sld (j := i + 2) dL_law_343 (show nI i + nI 2 = nI (i + 2) from nI_add i 2) (by omega) hL ?_
  refine ev_callV (as := [.int (xs (i + 1)), .int (xs (i + 2))]) (rest := [.int r]) dL_law_344 vX12_isOf ml_22_30 isX12_isOf seX12_isOf npX12_isOf (rc_133 (by omega)) (Nat.le_of_ble_eq_true rfl) (Nat.le_of_ble_eq_true rfl) (by decide) rfl (Nat.le_of_ble_eq_true rfl) (Nat.le_refl _) (by show n1 - 0 ≤ 600000; omega) (by show sS n1 - sS 0 ≤ 7302249; omega) (hE2 r Y hQ) ?_
  rintro v Y2 ⟨rfl, hI⟩
  refine ev_icmpT (tgt := 1344) dL_law_347 (by decide) (show r = r from rfl) ?_
  exact k n1 _ h3 h2 hI
set_option maxHeartbeats 1000000 in
theorem law_with {i : Nat} (hL : Ln ≤ 3072) (hi : i + 5 < Ln) (hn : 146 ≤ n) (hn2 : n ≤ 226) (hJ : JP g Iv mX11_with mX12_with [.int (xs (i + 1)), .int (xs (i + 2)), .int (xs (i + 3))] n X) (k : ∀ n1 X2, 146 ≤ n1 → n1 ≤ 226 → Iv n1 X2 → Lv g xs Ln n1 1344 [some (.ref 3000), some (.ref 0), some (.ref 133), some (.int (nI i))] [] X2) : Lv g xs Ln n 352 [some (.ref 3000), some (.ref 0), some (.ref 133), some (.int (nI i))] [] X := by
  obtain ⟨n1, Q, h1, h2, h3, hE1, hE2⟩ := hJ
  have hs : sS n1 ≤ sS 226 := sS_mono h2
  rw [sS_226] at hs
  refine ev_aload_n dL_law_352 rfl ?_
  refine ev_aload_n dL_law_353 rfl ?_
  refine ev_iload_n dL_law_354 rfl ?_
  refine ev_iconst (v := 1) dL_law_355 ki_1 ?_
  refine ev_iadd dL_law_356 ?_
  refine ev_sld (j := i + 1) dL_law_357 (show nI i + nI 1 = nI (i + 1) from nI_add i 1) (by omega) hL ?_
  refine ev_aload_n dL_law_358 rfl ?_
  refine ev_iload_n dL_law_359 rfl ?_
  refine ev_iconst (v := 2) dL_law_360 ki_2 ?_
  refine ev_iadd dL_law_361 ?_
  refine ev_sld (j := i + 2) dL_law_362 (show nI i + nI 2 = nI (i + 2) from nI_add i 2) (by omega) hL ?_
  refine ev_aload_n dL_law_363 rfl ?_
  refine ev_iload_n dL_law_364 rfl ?_
  refine ev_iconst (v := 3) dL_law_365 ki_3 ?_
  refine ev_iadd dL_law_366 ?_
  refine ev_sld (j := i + 3) dL_law_367 (show nI i + nI 3 = nI (i + 3) from nI_add i 3) (by omega) hL ?_
  refine ev_callV (as := [.int (xs (i + 1)), .int (xs (i + 2)), .int (xs (i + 3))]) (rest := []) dL_law_368 vX11_with ml_22_31 isX11_with seX11_with npX11_with (rc_0 (by omega)) (Nat.le_of_ble_eq_true rfl) (Nat.le_of_ble_eq_true rfl) (by decide) rfl (Nat.le_of_ble_eq_true rfl) h1 (by show n1 - 0 ≤ 600000; omega) (by show sS n1 - sS 0 ≤ 7302249; omega) hE1 ?_
  rintro v Y ⟨r, rfl, hQ⟩
  refine ev_aload_n dL_law_371 rfl ?_
  refine ev_aload_n dL_law_372 rfl ?_
  refine ev_iload_n dL_law_373 rfl ?_
  refine ev_iconst (v := 1) dL_law_374 ki_1 ?_
  refine ev_iadd dL_law_375 ?_
  refine ev_sld (j := i + 1) dL_law_376 (show nI i + nI 1 = nI (i + 1) from nI_add i 1) (by omega) hL ?_
  refine ev_aload_n dL_law_377 rfl ?_
  refine ev_iload_n dL_law_378 rfl ?_
  refine ev_iconst (v := 2) dL_law_379 ki_2 ?_
  refine ev_iadd dL_law_380 ?_
  refine ev_sld (j := i + 2) dL_law_381 (show nI i + nI 2 = nI (i + 2) from nI_add i 2) (by omega) hL ?_
  refine ev_aload_n dL_law_382 rfl ?_
  refine ev_iload_n dL_law_383 rfl ?_
  refine ev_iconst (v := 3) dL_law_384 ki_3 ?_
  refine ev_iadd dL_law_385 ?_
  refine ev_sld (j := i + 3) dL_law_386 (show nI i + nI 3 = nI (i + 3) from nI_add i 3) (by omega) hL ?_
  refine ev_callV (as := [.int (xs (i + 1)), .int (xs (i + 2)), .int (xs (i + 3))]) (rest := [.int r]) dL_law_387 vX12_with ml_22_34 isX12_with seX12_with npX12_with (rc_133 (by omega)) (Nat.le_of_ble_eq_true rfl) (Nat.le_of_ble_eq_true rfl) (by decide) rfl (Nat.le_of_ble_eq_true rfl) (Nat.le_refl _) (by show n1 - 0 ≤ 600000; omega) (by show sS n1 - sS 0 ≤ 7302249; omega) (hE2 r Y hQ) ?_
  rintro v Y2 ⟨rfl, hI⟩
  refine ev_icmpT (tgt := 1344) dL_law_390 (by decide) (show r = r from rfl) ?_
  exact k n1 _ h3 h2 hI
set_option maxHeartbeats 1000000 in
theorem law_about {i : Nat} (hL : Ln ≤ 3072) (hi : i + 5 < Ln) (hn : 146 ≤ n) (hn2 : n ≤ 226) (hJ : JP g Iv mX11_about mX12_about [.int (xs (i + 1)), .int (xs (i + 2))] n X) (k : ∀ n1 X2, 146 ≤ n1 → n1 ≤ 226 → Iv n1 X2 → Lv g xs Ln n1 1344 [some (.ref 3000), some (.ref 0), some (.ref 133), some (.int (nI i))] [] X2) : Lv g xs Ln n 395 [some (.ref 3000), some (.ref 0), some (.ref 133), some (.int (nI i))] [] X := by
  obtain ⟨n1, Q, h1, h2, h3, hE1, hE2⟩ := hJ
  have hs : sS n1 ≤ sS 226 := sS_mono h2
  rw [sS_226] at hs
  refine ev_aload_n dL_law_395 rfl ?_
  refine ev_aload_n dL_law_396 rfl ?_
  refine ev_iload_n dL_law_397 rfl ?_
  refine ev_iconst (v := 1) dL_law_398 ki_1 ?_
  refine ev_iadd dL_law_399 ?_
  refine ev_sld (j := i + 1) dL_law_400 (show nI i + nI 1 = nI (i + 1) from nI_add i 1) (by omega) hL ?_
  refine ev_aload_n dL_law_401 rfl ?_
  refine ev_iload_n dL_law_402 rfl ?_
  refine ev_iconst (v := 2) dL_law_403 ki_2 ?_
  refine ev_iadd dL_law_404 ?_
  refine ev_sld (j := i + 2) dL_law_405 (show nI i + nI 2 = nI (i + 2) from nI_add i 2) (by omega) hL ?_
  refine ev_callV (as := [.int (xs (i + 1)), .int (xs (i + 2))]) (rest := []) dL_law_406 vX11_about ml_22_35 isX11_about seX11_about npX11_about (rc_0 (by omega)) (Nat.le_of_ble_eq_true rfl) (Nat.le_of_ble_eq_true rfl) (by decide) rfl (Nat.le_of_ble_eq_true rfl) h1 (by show n1 - 0 ≤ 600000; omega) (by show sS n1 - sS 0 ≤ 7302249; omega) hE1 ?_
  rintro v Y ⟨r, rfl, hQ⟩
  refine ev_aload_n dL_law_409 rfl ?_
  refine ev_aload_n dL_law_410 rfl ?_
  refine ev_iload_n dL_law_411 rfl ?_
  refine ev_iconst (v := 1) dL_law_412 ki_1 ?_
  refine ev_iadd dL_law_413 ?_
  refine ev_sld (j := i + 1) dL_law_414 (show nI i + nI 1 = nI (i + 1) from nI_add i 1) (by omega) hL ?_
  refine ev_aload_n dL_law_415 rfl ?_
  refine ev_iload_n dL_law_416 rfl ?_
  refine ev_iconst (v := 2) dL_law_417 ki_2 ?_
  refine ev_iadd dL_law_418 ?_
  refine ev_sld (j := i + 2) dL_law_419 (show nI i + nI 2 = nI (i + 2) from nI_add i 2) (by omega) hL ?_
  refine ev_callV (as := [.int (xs (i + 1)), .int (xs (i + 2))]) (rest := [.int r]) dL_law_420 vX12_about ml_22_38 isX12_about seX12_about npX12_about (rc_133 (by omega)) (Nat.le_of_ble_eq_true rfl) (Nat.le_of_ble_eq_true rfl) (by decide) rfl (Nat.le_of_ble_eq_true rfl) (Nat.le_refl _) (by show n1 - 0 ≤ 600000; omega) (by show sS n1 - sS 0 ≤ 7302249; omega) (hE2 r Y hQ) ?_
  rintro v Y2 ⟨rfl, hI⟩
  refine ev_icmpT (tgt := 1344) dL_law_423 (by decide) (show r = r from rfl) ?_
  exact k n1 _ h3 h2 hI
set_option maxHeartbeats 1000000 in
theorem law_family {i : Nat} (hL : Ln ≤ 3072) (hi : i + 5 < Ln) (hn : 146 ≤ n) (hn2 : n ≤ 226) (hJ : JP g Iv mX11_family mX12_family [.int (xs (i + 1)), .int (xs (i + 2))] n X) (k : ∀ n1 X2, 146 ≤ n1 → n1 ≤ 226 → Iv n1 X2 → Lv g xs Ln n1 1344 [some (.ref 3000), some (.ref 0), some (.ref 133), some (.int (nI i))] [] X2) : Lv g xs Ln n 428 [some (.ref 3000), some (.ref 0), some (.ref 133), some (.int (nI i))] [] X := by
  obtain ⟨n1, Q, h1, h2, h3, hE1, hE2⟩ := hJ
  have hs : sS n1 ≤ sS 226 := sS_mono h2
  rw [sS_226] at hs
  refine ev_aload_n dL_law_428 rfl ?_
  refine ev_aload_n dL_law_429 rfl ?_
  refine ev_iload_n dL_law_430 rfl ?_
  refine ev_iconst (v := 1) dL_law_431 ki_1 ?_
  refine ev_iadd dL_law_432 ?_
  refine ev_sld (j := i + 1) dL_law_433 (show nI i + nI 1 = nI (i + 1) from nI_add i 1) (by omega) hL ?_
  refine ev_aload_n dL_law_434 rfl ?_
  refine ev_iload_n dL_law_435 rfl ?_
  refine ev_iconst (v := 2) dL_law_436 ki_2 ?_
  refine ev_iadd dL_law_437 ?_
  refine ev_sld (j := i + 2) dL_law_438 (show nI i + nI 2 = nI (i + 2) from nI_add i 2) (by omega) hL ?_
  refine ev_callV (as := [.int (xs (i + 1)), .int (xs (i + 2))]) (rest := []) dL_law_439 vX11_family ml_22_39 isX11_family seX11_family npX11_family (rc_0 (by omega)) (Nat.le_of_ble_eq_true rfl) (Nat.le_of_ble_eq_true rfl) (by decide) rfl (Nat.le_of_ble_eq_true rfl) h1 (by show n1 - 0 ≤ 600000; omega) (by show sS n1 - sS 0 ≤ 7302249; omega) hE1 ?_
  rintro v Y ⟨r, rfl, hQ⟩
  refine ev_aload_n dL_law_442 rfl ?_
  refine ev_aload_n dL_law_443 rfl ?_
  refine ev_iload_n dL_law_444 rfl ?_
  refine ev_iconst (v := 1) dL_law_445 ki_1 ?_
  refine ev_iadd dL_law_446 ?_
  refine ev_sld (j := i + 1) dL_law_447 (show nI i + nI 1 = nI (i + 1) from nI_add i 1) (by omega) hL ?_
  refine ev_aload_n dL_law_448 rfl ?_
  refine ev_iload_n dL_law_449 rfl ?_
  refine ev_iconst (v := 2) dL_law_450 ki_2 ?_
  refine ev_iadd dL_law_451 ?_
  refine ev_sld (j := i + 2) dL_law_452 (show nI i + nI 2 = nI (i + 2) from nI_add i 2) (by omega) hL ?_
  refine ev_callV (as := [.int (xs (i + 1)), .int (xs (i + 2))]) (rest := [.int r]) dL_law_453 vX12_family ml_22_42 isX12_family seX12_family npX12_family (rc_133 (by omega)) (Nat.le_of_ble_eq_true rfl) (Nat.le_of_ble_eq_true rfl) (by decide) rfl (Nat.le_of_ble_eq_true rfl) (Nat.le_refl _) (by show n1 - 0 ≤ 600000; omega) (by show sS n1 - sS 0 ≤ 7302249; omega) (hE2 r Y hQ) ?_
  rintro v Y2 ⟨rfl, hI⟩
  refine ev_icmpT (tgt := 1344) dL_law_456 (by decide) (show r = r from rfl) ?_
  exact k n1 _ h3 h2 hI
set_option maxHeartbeats 1000000 in
theorem law_likes {i : Nat} (hL : Ln ≤ 3072) (hi : i + 5 < Ln) (hn : 146 ≤ n) (hn2 : n ≤ 226) (hJ : JP g Iv mX11_likes mX12_likes [.int (xs (i + 1)), .int (xs (i + 2)), .int (xs (i + 3))] n X) (k : ∀ n1 X2, 146 ≤ n1 → n1 ≤ 226 → Iv n1 X2 → Lv g xs Ln n1 1344 [some (.ref 3000), some (.ref 0), some (.ref 133), some (.int (nI i))] [] X2) : Lv g xs Ln n 461 [some (.ref 3000), some (.ref 0), some (.ref 133), some (.int (nI i))] [] X := by
  obtain ⟨n1, Q, h1, h2, h3, hE1, hE2⟩ := hJ
  have hs : sS n1 ≤ sS 226 := sS_mono h2
  rw [sS_226] at hs
  refine ev_aload_n dL_law_461 rfl ?_
  refine ev_aload_n dL_law_462 rfl ?_
  refine ev_iload_n dL_law_463 rfl ?_
  refine ev_iconst (v := 1) dL_law_464 ki_1 ?_
  refine ev_iadd dL_law_465 ?_
  refine ev_sld (j := i + 1) dL_law_466 (show nI i + nI 1 = nI (i + 1) from nI_add i 1) (by omega) hL ?_
  refine ev_aload_n dL_law_467 rfl ?_
  refine ev_iload_n dL_law_468 rfl ?_
  refine ev_iconst (v := 2) dL_law_469 ki_2 ?_
  refine ev_iadd dL_law_470 ?_
  refine ev_sld (j := i + 2) dL_law_471 (show nI i + nI 2 = nI (i + 2) from nI_add i 2) (by omega) hL ?_
  refine ev_aload_n dL_law_472 rfl ?_
  refine ev_iload_n dL_law_473 rfl ?_
  refine ev_iconst (v := 3) dL_law_474 ki_3 ?_
  refine ev_iadd dL_law_475 ?_
  refine ev_sld (j := i + 3) dL_law_476 (show nI i + nI 3 = nI (i + 3) from nI_add i 3) (by omega) hL ?_
  refine ev_callV (as := [.int (xs (i + 1)), .int (xs (i + 2)), .int (xs (i + 3))]) (rest := []) dL_law_477 vX11_likes ml_22_43 isX11_likes seX11_likes npX11_likes (rc_0 (by omega)) (Nat.le_of_ble_eq_true rfl) (Nat.le_of_ble_eq_true rfl) (by decide) rfl (Nat.le_of_ble_eq_true rfl) h1 (by show n1 - 0 ≤ 600000; omega) (by show sS n1 - sS 0 ≤ 7302249; omega) hE1 ?_
  rintro v Y ⟨r, rfl, hQ⟩
  refine ev_aload_n dL_law_480 rfl ?_
  refine ev_aload_n dL_law_481 rfl ?_
  refine ev_iload_n dL_law_482 rfl ?_
  refine ev_iconst (v := 1) dL_law_483 ki_1 ?_
  refine ev_iadd dL_law_484 ?_
  refine ev_sld (j := i + 1) dL_law_485 (show nI i + nI 1 = nI (i + 1) from nI_add i 1) (by omega) hL ?_
  refine ev_aload_n dL_law_486 rfl ?_
  refine ev_iload_n dL_law_487 rfl ?_
  refine ev_iconst (v := 2) dL_law_488 ki_2 ?_
  refine ev_iadd dL_law_489 ?_
  refine ev_sld (j := i + 2) dL_law_490 (show nI i + nI 2 = nI (i + 2) from nI_add i 2) (by omega) hL ?_
  refine ev_aload_n dL_law_491 rfl ?_
  refine ev_iload_n dL_law_492 rfl ?_
  refine ev_iconst (v := 3) dL_law_493 ki_3 ?_
  refine ev_iadd dL_law_494 ?_
  refine ev_sld (j := i + 3) dL_law_495 (show nI i + nI 3 = nI (i + 3) from nI_add i 3) (by omega) hL ?_
  refine ev_callV (as := [.int (xs (i + 1)), .int (xs (i + 2)), .int (xs (i + 3))]) (rest := [.int r]) dL_law_496 vX12_likes ml_22_46 isX12_likes seX12_likes npX12_likes (rc_133 (by omega)) (Nat.le_of_ble_eq_true rfl) (Nat.le_of_ble_eq_true rfl) (by decide) rfl (Nat.le_of_ble_eq_true rfl) (Nat.le_refl _) (by show n1 - 0 ≤ 600000; omega) (by show sS n1 - sS 0 ≤ 7302249; omega) (hE2 r Y hQ) ?_
  rintro v Y2 ⟨rfl, hI⟩
  refine ev_icmpT (tgt := 1344) dL_law_499 (by decide) (show r = r from rfl) ?_
  exact k n1 _ h3 h2 hI
set_option maxHeartbeats 1000000 in
theorem law_lay {i : Nat} (hL : Ln ≤ 3072) (hi : i + 5 < Ln) (hn : 146 ≤ n) (hn2 : n ≤ 226) (hJ : JP g Iv mX11_lay mX12_lay [.int (xs (i + 1)), .int (xs (i + 2))] n X) (k : ∀ n1 X2, 146 ≤ n1 → n1 ≤ 226 → Iv n1 X2 → Lv g xs Ln n1 1344 [some (.ref 3000), some (.ref 0), some (.ref 133), some (.int (nI i))] [] X2) : Lv g xs Ln n 504 [some (.ref 3000), some (.ref 0), some (.ref 133), some (.int (nI i))] [] X := by
  obtain ⟨n1, Q, h1, h2, h3, hE1, hE2⟩ := hJ
  have hs : sS n1 ≤ sS 226 := sS_mono h2
  rw [sS_226] at hs
  refine ev_aload_n dL_law_504 rfl ?_
  refine ev_aload_n dL_law_505 rfl ?_
  refine ev_iload_n dL_law_506 rfl ?_
  refine ev_iconst (v := 1) dL_law_507 ki_1 ?_
  refine ev_iadd dL_law_508 ?_
  refine ev_sld (j := i + 1) dL_law_509 (show nI i + nI 1 = nI (i + 1) from nI_add i 1) (by omega) hL ?_
  refine ev_aload_n dL_law_510 rfl ?_
  refine ev_iload_n dL_law_511 rfl ?_
  refine ev_iconst (v := 2) dL_law_512 ki_2 ?_
  refine ev_iadd dL_law_513 ?_
  refine ev_sld (j := i + 2) dL_law_514 (show nI i + nI 2 = nI (i + 2) from nI_add i 2) (by omega) hL ?_
  refine ev_callV (as := [.int (xs (i + 1)), .int (xs (i + 2))]) (rest := []) dL_law_515 vX11_lay ml_22_47 isX11_lay seX11_lay npX11_lay (rc_0 (by omega)) (Nat.le_of_ble_eq_true rfl) (Nat.le_of_ble_eq_true rfl) (by decide) rfl (Nat.le_of_ble_eq_true rfl) h1 (by show n1 - 0 ≤ 600000; omega) (by show sS n1 - sS 0 ≤ 7302249; omega) hE1 ?_
  rintro v Y ⟨r, rfl, hQ⟩
  refine ev_aload_n dL_law_518 rfl ?_
  refine ev_aload_n dL_law_519 rfl ?_
  refine ev_iload_n dL_law_520 rfl ?_
  refine ev_iconst (v := 1) dL_law_521 ki_1 ?_
  refine ev_iadd dL_law_522 ?_
  refine ev_sld (j := i + 1) dL_law_523 (show nI i + nI 1 = nI (i + 1) from nI_add i 1) (by omega) hL ?_
  refine ev_aload_n dL_law_524 rfl ?_
  refine ev_iload_n dL_law_525 rfl ?_
  refine ev_iconst (v := 2) dL_law_526 ki_2 ?_
  refine ev_iadd dL_law_527 ?_
  refine ev_sld (j := i + 2) dL_law_528 (show nI i + nI 2 = nI (i + 2) from nI_add i 2) (by omega) hL ?_
  refine ev_callV (as := [.int (xs (i + 1)), .int (xs (i + 2))]) (rest := [.int r]) dL_law_529 vX12_lay ml_22_50 isX12_lay seX12_lay npX12_lay (rc_133 (by omega)) (Nat.le_of_ble_eq_true rfl) (Nat.le_of_ble_eq_true rfl) (by decide) rfl (Nat.le_of_ble_eq_true rfl) (Nat.le_refl _) (by show n1 - 0 ≤ 600000; omega) (by show sS n1 - sS 0 ≤ 7302249; omega) (hE2 r Y hQ) ?_
  rintro v Y2 ⟨rfl, hI⟩
  refine ev_icmpT (tgt := 1344) dL_law_532 (by decide) (show r = r from rfl) ?_
  exact k n1 _ h3 h2 hI
set_option maxHeartbeats 1000000 in
theorem law_may {i : Nat} (hL : Ln ≤ 3072) (hi : i + 5 < Ln) (hn : 146 ≤ n) (hn2 : n ≤ 226) (hJ : JP g Iv mX11_may mX12_may [.int (xs (i + 1)), .int (xs (i + 2))] n X) (k : ∀ n1 X2, 146 ≤ n1 → n1 ≤ 226 → Iv n1 X2 → Lv g xs Ln n1 1344 [some (.ref 3000), some (.ref 0), some (.ref 133), some (.int (nI i))] [] X2) : Lv g xs Ln n 537 [some (.ref 3000), some (.ref 0), some (.ref 133), some (.int (nI i))] [] X := by
  obtain ⟨n1, Q, h1, h2, h3, hE1, hE2⟩ := hJ
  have hs : sS n1 ≤ sS 226 := sS_mono h2
  rw [sS_226] at hs
  refine ev_aload_n dL_law_537 rfl ?_
  refine ev_aload_n dL_law_538 rfl ?_
  refine ev_iload_n dL_law_539 rfl ?_
  refine ev_iconst (v := 1) dL_law_540 ki_1 ?_
  refine ev_iadd dL_law_541 ?_
  refine ev_sld (j := i + 1) dL_law_542 (show nI i + nI 1 = nI (i + 1) from nI_add i 1) (by omega) hL ?_
  refine ev_aload_n dL_law_543 rfl ?_
  refine ev_iload_n dL_law_544 rfl ?_
  refine ev_iconst (v := 2) dL_law_545 ki_2 ?_
  refine ev_iadd dL_law_546 ?_
  refine ev_sld (j := i + 2) dL_law_547 (show nI i + nI 2 = nI (i + 2) from nI_add i 2) (by omega) hL ?_
  refine ev_callV (as := [.int (xs (i + 1)), .int (xs (i + 2))]) (rest := []) dL_law_548 vX11_may ml_22_51 isX11_may seX11_may npX11_may (rc_0 (by omega)) (Nat.le_of_ble_eq_true rfl) (Nat.le_of_ble_eq_true rfl) (by decide) rfl (Nat.le_of_ble_eq_true rfl) h1 (by show n1 - 0 ≤ 600000; omega) (by show sS n1 - sS 0 ≤ 7302249; omega) hE1 ?_
  rintro v Y ⟨r, rfl, hQ⟩
  refine ev_aload_n dL_law_551 rfl ?_
  refine ev_aload_n dL_law_552 rfl ?_
  refine ev_iload_n dL_law_553 rfl ?_
  refine ev_iconst (v := 1) dL_law_554 ki_1 ?_
  refine ev_iadd dL_law_555 ?_
  refine ev_sld (j := i + 1) dL_law_556 (show nI i + nI 1 = nI (i + 1) from nI_add i 1) (by omega) hL ?_
  refine ev_aload_n dL_law_557 rfl ?_
  refine ev_iload_n dL_law_558 rfl ?_
  refine ev_iconst (v := 2) dL_law_559 ki_2 ?_
  refine ev_iadd dL_law_560 ?_
  refine ev_sld (j := i + 2) dL_law_561 (show nI i + nI 2 = nI (i + 2) from nI_add i 2) (by omega) hL ?_
  refine ev_callV (as := [.int (xs (i + 1)), .int (xs (i + 2))]) (rest := [.int r]) dL_law_562 vX12_may ml_22_54 isX12_may seX12_may npX12_may (rc_133 (by omega)) (Nat.le_of_ble_eq_true rfl) (Nat.le_of_ble_eq_true rfl) (by decide) rfl (Nat.le_of_ble_eq_true rfl) (Nat.le_refl _) (by show n1 - 0 ≤ 600000; omega) (by show sS n1 - sS 0 ≤ 7302249; omega) (hE2 r Y hQ) ?_
  rintro v Y2 ⟨rfl, hI⟩
  refine ev_icmpT (tgt := 1344) dL_law_565 (by decide) (show r = r from rfl) ?_
  exact k n1 _ h3 h2 hI
set_option maxHeartbeats 1000000 in
theorem law_choose {i : Nat} (hL : Ln ≤ 3072) (hi : i + 5 < Ln) (hn : 146 ≤ n) (hn2 : n ≤ 226) (hJ : JP g Iv mX11_choose mX12_choose [.int (xs (i + 1)), .int (xs (i + 2))] n X) (k : ∀ n1 X2, 146 ≤ n1 → n1 ≤ 226 → Iv n1 X2 → Lv g xs Ln n1 1344 [some (.ref 3000), some (.ref 0), some (.ref 133), some (.int (nI i))] [] X2) : Lv g xs Ln n 570 [some (.ref 3000), some (.ref 0), some (.ref 133), some (.int (nI i))] [] X := by
  obtain ⟨n1, Q, h1, h2, h3, hE1, hE2⟩ := hJ
  have hs : sS n1 ≤ sS 226 := sS_mono h2
  rw [sS_226] at hs
  refine ev_aload_n dL_law_570 rfl ?_
  refine ev_aload_n dL_law_571 rfl ?_
  refine ev_iload_n dL_law_572 rfl ?_
  refine ev_iconst (v := 1) dL_law_573 ki_1 ?_
  refine ev_iadd dL_law_574 ?_
  refine ev_sld (j := i + 1) dL_law_575 (show nI i + nI 1 = nI (i + 1) from nI_add i 1) (by omega) hL ?_
  refine ev_aload_n dL_law_576 rfl ?_
  refine ev_iload_n dL_law_577 rfl ?_
  refine ev_iconst (v := 2) dL_law_578 ki_2 ?_
  refine ev_iadd dL_law_579 ?_
  refine ev_sld (j := i + 2) dL_law_580 (show nI i + nI 2 = nI (i + 2) from nI_add i 2) (by omega) hL ?_
  refine ev_callV (as := [.int (xs (i + 1)), .int (xs (i + 2))]) (rest := []) dL_law_581 vX11_choose ml_22_55 isX11_choose seX11_choose npX11_choose (rc_0 (by omega)) (Nat.le_of_ble_eq_true rfl) (Nat.le_of_ble_eq_true rfl) (by decide) rfl (Nat.le_of_ble_eq_true rfl) h1 (by show n1 - 0 ≤ 600000; omega) (by show sS n1 - sS 0 ≤ 7302249; omega) hE1 ?_
  rintro v Y ⟨r, rfl, hQ⟩
  refine ev_aload_n dL_law_584 rfl ?_
  refine ev_aload_n dL_law_585 rfl ?_
  refine ev_iload_n dL_law_586 rfl ?_
  refine ev_iconst (v := 1) dL_law_587 ki_1 ?_
  refine ev_iadd dL_law_588 ?_
  refine ev_sld (j := i + 1) dL_law_589 (show nI i + nI 1 = nI (i + 1) from nI_add i 1) (by omega) hL ?_
  refine ev_aload_n dL_law_590 rfl ?_
  refine ev_iload_n dL_law_591 rfl ?_
  refine ev_iconst (v := 2) dL_law_592 ki_2 ?_
  refine ev_iadd dL_law_593 ?_
  refine ev_sld (j := i + 2) dL_law_594 (show nI i + nI 2 = nI (i + 2) from nI_add i 2) (by omega) hL ?_
  refine ev_callV (as := [.int (xs (i + 1)), .int (xs (i + 2))]) (rest := [.int r]) dL_law_595 vX12_choose ml_22_58 isX12_choose seX12_choose npX12_choose (rc_133 (by omega)) (Nat.le_of_ble_eq_true rfl) (Nat.le_of_ble_eq_true rfl) (by decide) rfl (Nat.le_of_ble_eq_true rfl) (Nat.le_refl _) (by show n1 - 0 ≤ 600000; omega) (by show sS n1 - sS 0 ≤ 7302249; omega) (hE2 r Y hQ) ?_
  rintro v Y2 ⟨rfl, hI⟩
  refine ev_icmpT (tgt := 1344) dL_law_598 (by decide) (show r = r from rfl) ?_
  exact k n1 _ h3 h2 hI
set_option maxHeartbeats 1000000 in
theorem law_box {i : Nat} (hL : Ln ≤ 3072) (hi : i + 5 < Ln) (hn : 146 ≤ n) (hn2 : n ≤ 226) (hJ : JP g Iv mX11_box mX12_box [.int (xs (i + 1)), .int (xs (i + 2))] n X) (k : ∀ n1 X2, 146 ≤ n1 → n1 ≤ 226 → Iv n1 X2 → Lv g xs Ln n1 1344 [some (.ref 3000), some (.ref 0), some (.ref 133), some (.int (nI i))] [] X2) : Lv g xs Ln n 603 [some (.ref 3000), some (.ref 0), some (.ref 133), some (.int (nI i))] [] X := by
  obtain ⟨n1, Q, h1, h2, h3, hE1, hE2⟩ := hJ
  have hs : sS n1 ≤ sS 226 := sS_mono h2
  rw [sS_226] at hs
  refine ev_aload_n dL_law_603 rfl ?_
  refine ev_aload_n dL_law_604 rfl ?_
  refine ev_iload_n dL_law_605 rfl ?_
  refine ev_iconst (v := 1) dL_law_606 ki_1 ?_
  refine ev_iadd dL_law_607 ?_
  refine ev_sld (j := i + 1) dL_law_608 (show nI i + nI 1 = nI (i + 1) from nI_add i 1) (by omega) hL ?_
  refine ev_aload_n dL_law_609 rfl ?_
  refine ev_iload_n dL_law_610 rfl ?_
  refine ev_iconst (v := 2) dL_law_611 ki_2 ?_
  refine ev_iadd dL_law_612 ?_
  refine ev_sld (j := i + 2) dL_law_613 (show nI i + nI 2 = nI (i + 2) from nI_add i 2) (by omega) hL ?_
  refine ev_callV (as := [.int (xs (i + 1)), .int (xs (i + 2))]) (rest := []) dL_law_614 vX11_box ml_22_59 isX11_box seX11_box npX11_box (rc_0 (by omega)) (Nat.le_of_ble_eq_true rfl) (Nat.le_of_ble_eq_true rfl) (by decide) rfl (Nat.le_of_ble_eq_true rfl) h1 (by show n1 - 0 ≤ 600000; omega) (by show sS n1 - sS 0 ≤ 7302249; omega) hE1 ?_
  rintro v Y ⟨r, rfl, hQ⟩
  refine ev_aload_n dL_law_617 rfl ?_
  refine ev_aload_n dL_law_618 rfl ?_
  refine ev_iload_n dL_law_619 rfl ?_
  refine ev_iconst (v := 1) dL_law_620 ki_1 ?_
  refine ev_iadd dL_law_621 ?_
  refine ev_sld (j := i + 1) dL_law_622 (show nI i + nI 1 = nI (i + 1) from nI_add i 1) (by omega) hL ?_
  refine ev_aload_n dL_law_623 rfl ?_
  refine ev_iload_n dL_law_624 rfl ?_
  refine ev_iconst (v := 2) dL_law_625 ki_2 ?_
  refine ev_iadd dL_law_626 ?_
  refine ev_sld (j := i + 2) dL_law_627 (show nI i + nI 2 = nI (i + 2) from nI_add i 2) (by omega) hL ?_
  refine ev_callV (as := [.int (xs (i + 1)), .int (xs (i + 2))]) (rest := [.int r]) dL_law_628 vX12_box ml_22_62 isX12_box seX12_box npX12_box (rc_133 (by omega)) (Nat.le_of_ble_eq_true rfl) (Nat.le_of_ble_eq_true rfl) (by decide) rfl (Nat.le_of_ble_eq_true rfl) (Nat.le_refl _) (by show n1 - 0 ≤ 600000; omega) (by show sS n1 - sS 0 ≤ 7302249; omega) (hE2 r Y hQ) ?_
  rintro v Y2 ⟨rfl, hI⟩
  refine ev_icmpT (tgt := 1344) dL_law_631 (by decide) (show r = r from rfl) ?_
  exact k n1 _ h3 h2 hI
set_option maxHeartbeats 1000000 in
theorem law_ice {i : Nat} (hL : Ln ≤ 3072) (hi : i + 5 < Ln) (hn : 146 ≤ n) (hn2 : n ≤ 226) (hJ : JP g Iv mX11_ice mX12_ice [.int (xs (i + 1))] n X) (k : ∀ n1 X2, 146 ≤ n1 → n1 ≤ 226 → Iv n1 X2 → Lv g xs Ln n1 1344 [some (.ref 3000), some (.ref 0), some (.ref 133), some (.int (nI i))] [] X2) : Lv g xs Ln n 636 [some (.ref 3000), some (.ref 0), some (.ref 133), some (.int (nI i))] [] X := by
  obtain ⟨n1, Q, h1, h2, h3, hE1, hE2⟩ := hJ
  have hs : sS n1 ≤ sS 226 := sS_mono h2
  rw [sS_226] at hs
  refine ev_aload_n dL_law_636 rfl ?_
  refine ev_aload_n dL_law_637 rfl ?_
  refine ev_iload_n dL_law_638 rfl ?_
  refine ev_iconst (v := 1) dL_law_639 ki_1 ?_
  refine ev_iadd dL_law_640 ?_
  refine ev_sld (j := i + 1) dL_law_641 (show nI i + nI 1 = nI (i + 1) from nI_add i 1) (by omega) hL ?_
  refine ev_callV (as := [.int (xs (i + 1))]) (rest := []) dL_law_642 vX11_ice ml_22_63 isX11_ice seX11_ice npX11_ice (rc_0 (by omega)) (Nat.le_of_ble_eq_true rfl) (Nat.le_of_ble_eq_true rfl) (by decide) rfl (Nat.le_of_ble_eq_true rfl) h1 (by show n1 - 0 ≤ 600000; omega) (by show sS n1 - sS 0 ≤ 7302249; omega) hE1 ?_
  rintro v Y ⟨r, rfl, hQ⟩
  refine ev_aload_n dL_law_645 rfl ?_
  refine ev_aload_n dL_law_646 rfl ?_
  refine ev_iload_n dL_law_647 rfl ?_
  refine ev_iconst (v := 1) dL_law_648 ki_1 ?_
  refine ev_iadd dL_law_649 ?_
  refine ev_sld (j := i + 1) dL_law_650 (show nI i + nI 1 = nI (i + 1) from nI_add i 1) (by omega) hL ?_
  refine ev_callV (as := [.int (xs (i + 1))]) (rest := [.int r]) dL_law_651 vX12_ice ml_22_67 isX12_ice seX12_ice npX12_ice (rc_133 (by omega)) (Nat.le_of_ble_eq_true rfl) (Nat.le_of_ble_eq_true rfl) (by decide) rfl (Nat.le_of_ble_eq_true rfl) (Nat.le_refl _) (by show n1 - 0 ≤ 600000; omega) (by show sS n1 - sS 0 ≤ 7302249; omega) (hE2 r Y hQ) ?_
  rintro v Y2 ⟨rfl, hI⟩
  refine ev_icmpT (tgt := 1344) dL_law_654 (by decide) (show r = r from rfl) ?_
  exact k n1 _ h3 h2 hI
set_option maxHeartbeats 1000000 in
theorem law_feed {i : Nat} (hL : Ln ≤ 3072) (hi : i + 5 < Ln) (hn : 146 ≤ n) (hn2 : n ≤ 226) (hJ : JP g Iv mX11_feed mX12_feed [.int (xs (i + 1)), .int (xs (i + 2)), .int (xs (i + 3))] n X) (k : ∀ n1 X2, 146 ≤ n1 → n1 ≤ 226 → Iv n1 X2 → Lv g xs Ln n1 1344 [some (.ref 3000), some (.ref 0), some (.ref 133), some (.int (nI i))] [] X2) : Lv g xs Ln n 659 [some (.ref 3000), some (.ref 0), some (.ref 133), some (.int (nI i))] [] X := by
  obtain ⟨n1, Q, h1, h2, h3, hE1, hE2⟩ := hJ
  have hs : sS n1 ≤ sS 226 := sS_mono h2
  rw [sS_226] at hs
  refine ev_aload_n dL_law_659 rfl ?_
  refine ev_aload_n dL_law_660 rfl ?_
  refine ev_iload_n dL_law_661 rfl ?_
  refine ev_iconst (v := 1) dL_law_662 ki_1 ?_
  refine ev_iadd dL_law_663 ?_
  refine ev_sld (j := i + 1) dL_law_664 (show nI i + nI 1 = nI (i + 1) from nI_add i 1) (by omega) hL ?_
  refine ev_aload_n dL_law_665 rfl ?_
  refine ev_iload_n dL_law_666 rfl ?_
  refine ev_iconst (v := 2) dL_law_667 ki_2 ?_
  refine ev_iadd dL_law_668 ?_
  refine ev_sld (j := i + 2) dL_law_669 (show nI i + nI 2 = nI (i + 2) from nI_add i 2) (by omega) hL ?_
  refine ev_aload_n dL_law_670 rfl ?_
  refine ev_iload_n dL_law_671 rfl ?_
  refine ev_iconst (v := 3) dL_law_672 ki_3 ?_
  refine ev_iadd dL_law_673 ?_
  refine ev_sld (j := i + 3) dL_law_674 (show nI i + nI 3 = nI (i + 3) from nI_add i 3) (by omega) hL ?_
  refine ev_callV (as := [.int (xs (i + 1)), .int (xs (i + 2)), .int (xs (i + 3))]) (rest := []) dL_law_675 vX11_feed ml_22_68 isX11_feed seX11_feed npX11_feed (rc_0 (by omega)) (Nat.le_of_ble_eq_true rfl) (Nat.le_of_ble_eq_true rfl) (by decide) rfl (Nat.le_of_ble_eq_true rfl) h1 (by show n1 - 0 ≤ 600000; omega) (by show sS n1 - sS 0 ≤ 7302249; omega) hE1 ?_
  rintro v Y ⟨r, rfl, hQ⟩
  refine ev_aload_n dL_law_678 rfl ?_
  refine ev_aload_n dL_law_679 rfl ?_
  refine ev_iload_n dL_law_680 rfl ?_
  refine ev_iconst (v := 1) dL_law_681 ki_1 ?_
  refine ev_iadd dL_law_682 ?_
  refine ev_sld (j := i + 1) dL_law_683 (show nI i + nI 1 = nI (i + 1) from nI_add i 1) (by omega) hL ?_
  refine ev_aload_n dL_law_684 rfl ?_
  refine ev_iload_n dL_law_685 rfl ?_
  refine ev_iconst (v := 2) dL_law_686 ki_2 ?_
  refine ev_iadd dL_law_687 ?_
  refine ev_sld (j := i + 2) dL_law_688 (show nI i + nI 2 = nI (i + 2) from nI_add i 2) (by omega) hL ?_
  refine ev_aload_n dL_law_689 rfl ?_
  refine ev_iload_n dL_law_690 rfl ?_
  refine ev_iconst (v := 3) dL_law_691 ki_3 ?_
  refine ev_iadd dL_law_692 ?_
  refine ev_sld (j := i + 3) dL_law_693 (show nI i + nI 3 = nI (i + 3) from nI_add i 3) (by omega) hL ?_
  refine ev_callV (as := [.int (xs (i + 1)), .int (xs (i + 2)), .int (xs (i + 3))]) (rest := [.int r]) dL_law_694 vX12_feed ml_22_71 isX12_feed seX12_feed npX12_feed (rc_133 (by omega)) (Nat.le_of_ble_eq_true rfl) (Nat.le_of_ble_eq_true rfl) (by decide) rfl (Nat.le_of_ble_eq_true rfl) (Nat.le_refl _) (by show n1 - 0 ≤ 600000; omega) (by show sS n1 - sS 0 ≤ 7302249; omega) (hE2 r Y hQ) ?_
  rintro v Y2 ⟨rfl, hI⟩
  refine ev_icmpT (tgt := 1344) dL_law_697 (by decide) (show r = r from rfl) ?_
  exact k n1 _ h3 h2 hI
set_option maxHeartbeats 1000000 in
theorem law_trim {i : Nat} (hL : Ln ≤ 3072) (hi : i + 5 < Ln) (hn : 146 ≤ n) (hn2 : n ≤ 226) (hJ : JP g Iv mX11_trim mX12_trim [.int (xs (i + 1))] n X) (k : ∀ n1 X2, 146 ≤ n1 → n1 ≤ 226 → Iv n1 X2 → Lv g xs Ln n1 1344 [some (.ref 3000), some (.ref 0), some (.ref 133), some (.int (nI i))] [] X2) : Lv g xs Ln n 702 [some (.ref 3000), some (.ref 0), some (.ref 133), some (.int (nI i))] [] X := by
  obtain ⟨n1, Q, h1, h2, h3, hE1, hE2⟩ := hJ
  have hs : sS n1 ≤ sS 226 := sS_mono h2
  rw [sS_226] at hs
  refine ev_aload_n dL_law_702 rfl ?_
  refine ev_aload_n dL_law_703 rfl ?_
  refine ev_iload_n dL_law_704 rfl ?_
  refine ev_iconst (v := 1) dL_law_705 ki_1 ?_
  refine ev_iadd dL_law_706 ?_
  refine ev_sld (j := i + 1) dL_law_707 (show nI i + nI 1 = nI (i + 1) from nI_add i 1) (by omega) hL ?_
  refine ev_callV (as := [.int (xs (i + 1))]) (rest := []) dL_law_708 vX11_trim ml_22_72 isX11_trim seX11_trim npX11_trim (rc_0 (by omega)) (Nat.le_of_ble_eq_true rfl) (Nat.le_of_ble_eq_true rfl) (by decide) rfl (Nat.le_of_ble_eq_true rfl) h1 (by show n1 - 0 ≤ 600000; omega) (by show sS n1 - sS 0 ≤ 7302249; omega) hE1 ?_
  rintro v Y ⟨r, rfl, hQ⟩
  refine ev_aload_n dL_law_711 rfl ?_
  refine ev_aload_n dL_law_712 rfl ?_
  refine ev_iload_n dL_law_713 rfl ?_
  refine ev_iconst (v := 1) dL_law_714 ki_1 ?_
  refine ev_iadd dL_law_715 ?_
  refine ev_sld (j := i + 1) dL_law_716 (show nI i + nI 1 = nI (i + 1) from nI_add i 1) (by omega) hL ?_
  refine ev_callV (as := [.int (xs (i + 1))]) (rest := [.int r]) dL_law_717 vX12_trim ml_22_75 isX12_trim seX12_trim npX12_trim (rc_133 (by omega)) (Nat.le_of_ble_eq_true rfl) (Nat.le_of_ble_eq_true rfl) (by decide) rfl (Nat.le_of_ble_eq_true rfl) (Nat.le_refl _) (by show n1 - 0 ≤ 600000; omega) (by show sS n1 - sS 0 ≤ 7302249; omega) (hE2 r Y hQ) ?_
  rintro v Y2 ⟨rfl, hI⟩
  refine ev_icmpT (tgt := 1344) dL_law_720 (by decide) (show r = r from rfl) ?_
  exact k n1 _ h3 h2 hI
set_option maxHeartbeats 1000000 in
theorem law_law {i : Nat} (hL : Ln ≤ 3072) (hi : i + 5 < Ln) (hn : 146 ≤ n) (hn2 : n ≤ 226) (hJ : JP g Iv mX11_law mX12_law [] n X) (k : ∀ n1 X2, 146 ≤ n1 → n1 ≤ 226 → Iv n1 X2 → Lv g xs Ln n1 1344 [some (.ref 3000), some (.ref 0), some (.ref 133), some (.int (nI i))] [] X2) : Lv g xs Ln n 725 [some (.ref 3000), some (.ref 0), some (.ref 133), some (.int (nI i))] [] X := by
  obtain ⟨n1, Q, h1, h2, h3, hE1, hE2⟩ := hJ
  have hs : sS n1 ≤ sS 226 := sS_mono h2
  rw [sS_226] at hs
  refine ev_aload_n dL_law_725 rfl ?_
  refine ev_callV (as := []) (rest := []) dL_law_726 vX11_law ml_22_76 isX11_law seX11_law npX11_law (rc_0 (by omega)) (Nat.le_of_ble_eq_true rfl) (Nat.le_of_ble_eq_true rfl) (by decide) rfl (Nat.le_of_ble_eq_true rfl) h1 (by show n1 - 0 ≤ 600000; omega) (by show sS n1 - sS 0 ≤ 7302249; omega) hE1 ?_
  rintro v Y ⟨r, rfl, hQ⟩
  refine ev_aload_n dL_law_729 rfl ?_
  refine ev_callV (as := []) (rest := [.int r]) dL_law_730 vX12_law ml_22_80 isX12_law seX12_law npX12_law (rc_133 (by omega)) (Nat.le_of_ble_eq_true rfl) (Nat.le_of_ble_eq_true rfl) (by decide) rfl (Nat.le_of_ble_eq_true rfl) (Nat.le_refl _) (by show n1 - 0 ≤ 600000; omega) (by show sS n1 - sS 0 ≤ 7302249; omega) (hE2 r Y hQ) ?_
  rintro v Y2 ⟨rfl, hI⟩
  refine ev_icmpT (tgt := 1344) dL_law_733 (by decide) (show r = r from rfl) ?_
  exact k n1 _ h3 h2 hI
set_option maxHeartbeats 1000000 in
theorem law_heat {i : Nat} (hL : Ln ≤ 3072) (hi : i + 5 < Ln) (hn : 146 ≤ n) (hn2 : n ≤ 226) (hJ : JP g Iv mX11_heat mX12_heat [.int (xs (i + 1))] n X) (k : ∀ n1 X2, 146 ≤ n1 → n1 ≤ 226 → Iv n1 X2 → Lv g xs Ln n1 1344 [some (.ref 3000), some (.ref 0), some (.ref 133), some (.int (nI i))] [] X2) : Lv g xs Ln n 738 [some (.ref 3000), some (.ref 0), some (.ref 133), some (.int (nI i))] [] X := by
  obtain ⟨n1, Q, h1, h2, h3, hE1, hE2⟩ := hJ
  have hs : sS n1 ≤ sS 226 := sS_mono h2
  rw [sS_226] at hs
  refine ev_aload_n dL_law_738 rfl ?_
  refine ev_aload_n dL_law_739 rfl ?_
  refine ev_iload_n dL_law_740 rfl ?_
  refine ev_iconst (v := 1) dL_law_741 ki_1 ?_
  refine ev_iadd dL_law_742 ?_
  refine ev_sld (j := i + 1) dL_law_743 (show nI i + nI 1 = nI (i + 1) from nI_add i 1) (by omega) hL ?_
  refine ev_callV (as := [.int (xs (i + 1))]) (rest := []) dL_law_744 vX11_heat ml_22_81 isX11_heat seX11_heat npX11_heat (rc_0 (by omega)) (Nat.le_of_ble_eq_true rfl) (Nat.le_of_ble_eq_true rfl) (by decide) rfl (Nat.le_of_ble_eq_true rfl) h1 (by show n1 - 0 ≤ 600000; omega) (by show sS n1 - sS 0 ≤ 7302249; omega) hE1 ?_
  rintro v Y ⟨r, rfl, hQ⟩
  refine ev_aload_n dL_law_747 rfl ?_
  refine ev_aload_n dL_law_748 rfl ?_
  refine ev_iload_n dL_law_749 rfl ?_
  refine ev_iconst (v := 1) dL_law_750 ki_1 ?_
  refine ev_iadd dL_law_751 ?_
  refine ev_sld (j := i + 1) dL_law_752 (show nI i + nI 1 = nI (i + 1) from nI_add i 1) (by omega) hL ?_
  refine ev_callV (as := [.int (xs (i + 1))]) (rest := [.int r]) dL_law_753 vX12_heat ml_22_84 isX12_heat seX12_heat npX12_heat (rc_133 (by omega)) (Nat.le_of_ble_eq_true rfl) (Nat.le_of_ble_eq_true rfl) (by decide) rfl (Nat.le_of_ble_eq_true rfl) (Nat.le_refl _) (by show n1 - 0 ≤ 600000; omega) (by show sS n1 - sS 0 ≤ 7302249; omega) (hE2 r Y hQ) ?_
  rintro v Y2 ⟨rfl, hI⟩
  refine ev_icmpT (tgt := 1344) dL_law_756 (by decide) (show r = r from rfl) ?_
  exact k n1 _ h3 h2 hI
set_option maxHeartbeats 1000000 in
theorem law_menu {i : Nat} (hL : Ln ≤ 3072) (hi : i + 5 < Ln) (hn : 146 ≤ n) (hn2 : n ≤ 226) (hJ : JP g Iv mX11_menu mX12_menu [.int (xs (i + 1))] n X) (k : ∀ n1 X2, 146 ≤ n1 → n1 ≤ 226 → Iv n1 X2 → Lv g xs Ln n1 1344 [some (.ref 3000), some (.ref 0), some (.ref 133), some (.int (nI i))] [] X2) : Lv g xs Ln n 761 [some (.ref 3000), some (.ref 0), some (.ref 133), some (.int (nI i))] [] X := by
  obtain ⟨n1, Q, h1, h2, h3, hE1, hE2⟩ := hJ
  have hs : sS n1 ≤ sS 226 := sS_mono h2
  rw [sS_226] at hs
  refine ev_aload_n dL_law_761 rfl ?_
  refine ev_aload_n dL_law_762 rfl ?_
  refine ev_iload_n dL_law_763 rfl ?_
  refine ev_iconst (v := 1) dL_law_764 ki_1 ?_
  refine ev_iadd dL_law_765 ?_
  refine ev_sld (j := i + 1) dL_law_766 (show nI i + nI 1 = nI (i + 1) from nI_add i 1) (by omega) hL ?_
  refine ev_callV (as := [.int (xs (i + 1))]) (rest := []) dL_law_767 vX11_menu ml_22_85 isX11_menu seX11_menu npX11_menu (rc_0 (by omega)) (Nat.le_of_ble_eq_true rfl) (Nat.le_of_ble_eq_true rfl) (by decide) rfl (Nat.le_of_ble_eq_true rfl) h1 (by show n1 - 0 ≤ 600000; omega) (by show sS n1 - sS 0 ≤ 7302249; omega) hE1 ?_
  rintro v Y ⟨r, rfl, hQ⟩
  refine ev_aload_n dL_law_770 rfl ?_
  refine ev_aload_n dL_law_771 rfl ?_
  refine ev_iload_n dL_law_772 rfl ?_
  refine ev_iconst (v := 1) dL_law_773 ki_1 ?_
  refine ev_iadd dL_law_774 ?_
  refine ev_sld (j := i + 1) dL_law_775 (show nI i + nI 1 = nI (i + 1) from nI_add i 1) (by omega) hL ?_
  refine ev_callV (as := [.int (xs (i + 1))]) (rest := [.int r]) dL_law_776 vX12_menu ml_22_88 isX12_menu seX12_menu npX12_menu (rc_133 (by omega)) (Nat.le_of_ble_eq_true rfl) (Nat.le_of_ble_eq_true rfl) (by decide) rfl (Nat.le_of_ble_eq_true rfl) (Nat.le_refl _) (by show n1 - 0 ≤ 600000; omega) (by show sS n1 - sS 0 ≤ 7302249; omega) (hE2 r Y hQ) ?_
  rintro v Y2 ⟨rfl, hI⟩
  refine ev_icmpT (tgt := 1344) dL_law_779 (by decide) (show r = r from rfl) ?_
  exact k n1 _ h3 h2 hI
set_option maxHeartbeats 1000000 in
theorem law_best {i : Nat} (hL : Ln ≤ 3072) (hi : i + 5 < Ln) (hn : 146 ≤ n) (hn2 : n ≤ 226) (hJ : JP g Iv mX11_best mX12_best [.int (xs (i + 1)), .int (xs (i + 2))] n X) (k : ∀ n1 X2, 146 ≤ n1 → n1 ≤ 226 → Iv n1 X2 → Lv g xs Ln n1 1344 [some (.ref 3000), some (.ref 0), some (.ref 133), some (.int (nI i))] [] X2) : Lv g xs Ln n 784 [some (.ref 3000), some (.ref 0), some (.ref 133), some (.int (nI i))] [] X := by
  obtain ⟨n1, Q, h1, h2, h3, hE1, hE2⟩ := hJ
  have hs : sS n1 ≤ sS 226 := sS_mono h2
  rw [sS_226] at hs
  refine ev_aload_n dL_law_784 rfl ?_
  refine ev_aload_n dL_law_785 rfl ?_
  refine ev_iload_n dL_law_786 rfl ?_
  refine ev_iconst (v := 1) dL_law_787 ki_1 ?_
  refine ev_iadd dL_law_788 ?_
  refine ev_sld (j := i + 1) dL_law_789 (show nI i + nI 1 = nI (i + 1) from nI_add i 1) (by omega) hL ?_
  refine ev_aload_n dL_law_790 rfl ?_
  refine ev_iload_n dL_law_791 rfl ?_
  refine ev_iconst (v := 2) dL_law_792 ki_2 ?_
  refine ev_iadd dL_law_793 ?_
  refine ev_sld (j := i + 2) dL_law_794 (show nI i + nI 2 = nI (i + 2) from nI_add i 2) (by omega) hL ?_
  refine ev_callV (as := [.int (xs (i + 1)), .int (xs (i + 2))]) (rest := []) dL_law_795 vX11_best ml_22_89 isX11_best seX11_best npX11_best (rc_0 (by omega)) (Nat.le_of_ble_eq_true rfl) (Nat.le_of_ble_eq_true rfl) (by decide) rfl (Nat.le_of_ble_eq_true rfl) h1 (by show n1 - 0 ≤ 600000; omega) (by show sS n1 - sS 0 ≤ 7302249; omega) hE1 ?_
  rintro v Y ⟨r, rfl, hQ⟩
  refine ev_aload_n dL_law_798 rfl ?_
  refine ev_aload_n dL_law_799 rfl ?_
  refine ev_iload_n dL_law_800 rfl ?_
  refine ev_iconst (v := 1) dL_law_801 ki_1 ?_
  refine ev_iadd dL_law_802 ?_
  refine ev_sld (j := i + 1) dL_law_803 (show nI i + nI 1 = nI (i + 1) from nI_add i 1) (by omega) hL ?_
  refine ev_aload_n dL_law_804 rfl ?_
  refine ev_iload_n dL_law_805 rfl ?_
  refine ev_iconst (v := 2) dL_law_806 ki_2 ?_
  refine ev_iadd dL_law_807 ?_
  refine ev_sld (j := i + 2) dL_law_808 (show nI i + nI 2 = nI (i + 2) from nI_add i 2) (by omega) hL ?_
  refine ev_callV (as := [.int (xs (i + 1)), .int (xs (i + 2))]) (rest := [.int r]) dL_law_809 vX12_best ml_22_92 isX12_best seX12_best npX12_best (rc_133 (by omega)) (Nat.le_of_ble_eq_true rfl) (Nat.le_of_ble_eq_true rfl) (by decide) rfl (Nat.le_of_ble_eq_true rfl) (Nat.le_refl _) (by show n1 - 0 ≤ 600000; omega) (by show sS n1 - sS 0 ≤ 7302249; omega) (hE2 r Y hQ) ?_
  rintro v Y2 ⟨rfl, hI⟩
  refine ev_icmpT (tgt := 1344) dL_law_812 (by decide) (show r = r from rfl) ?_
  exact k n1 _ h3 h2 hI
set_option maxHeartbeats 1000000 in
theorem law_kept {i : Nat} (hL : Ln ≤ 3072) (hi : i + 5 < Ln) (hn : 146 ≤ n) (hn2 : n ≤ 226) (hJ : JP g Iv mX11_kept mX12_kept [.int (xs (i + 1))] n X) (k : ∀ n1 X2, 146 ≤ n1 → n1 ≤ 226 → Iv n1 X2 → Lv g xs Ln n1 1344 [some (.ref 3000), some (.ref 0), some (.ref 133), some (.int (nI i))] [] X2) : Lv g xs Ln n 817 [some (.ref 3000), some (.ref 0), some (.ref 133), some (.int (nI i))] [] X := by
  obtain ⟨n1, Q, h1, h2, h3, hE1, hE2⟩ := hJ
  have hs : sS n1 ≤ sS 226 := sS_mono h2
  rw [sS_226] at hs
  refine ev_aload_n dL_law_817 rfl ?_
  refine ev_aload_n dL_law_818 rfl ?_
  refine ev_iload_n dL_law_819 rfl ?_
  refine ev_iconst (v := 1) dL_law_820 ki_1 ?_
  refine ev_iadd dL_law_821 ?_
  refine ev_sld (j := i + 1) dL_law_822 (show nI i + nI 1 = nI (i + 1) from nI_add i 1) (by omega) hL ?_
  refine ev_callV (as := [.int (xs (i + 1))]) (rest := []) dL_law_823 vX11_kept ml_22_93 isX11_kept seX11_kept npX11_kept (rc_0 (by omega)) (Nat.le_of_ble_eq_true rfl) (Nat.le_of_ble_eq_true rfl) (by decide) rfl (Nat.le_of_ble_eq_true rfl) h1 (by show n1 - 0 ≤ 600000; omega) (by show sS n1 - sS 0 ≤ 7302249; omega) hE1 ?_
  rintro v Y ⟨r, rfl, hQ⟩
  refine ev_aload_n dL_law_826 rfl ?_
  refine ev_aload_n dL_law_827 rfl ?_
  refine ev_iload_n dL_law_828 rfl ?_
  refine ev_iconst (v := 1) dL_law_829 ki_1 ?_
  refine ev_iadd dL_law_830 ?_
  refine ev_sld (j := i + 1) dL_law_831 (show nI i + nI 1 = nI (i + 1) from nI_add i 1) (by omega) hL ?_
  refine ev_callV (as := [.int (xs (i + 1))]) (rest := [.int r]) dL_law_832 vX12_kept ml_22_96 isX12_kept seX12_kept npX12_kept (rc_133 (by omega)) (Nat.le_of_ble_eq_true rfl) (Nat.le_of_ble_eq_true rfl) (by decide) rfl (Nat.le_of_ble_eq_true rfl) (Nat.le_refl _) (by show n1 - 0 ≤ 600000; omega) (by show sS n1 - sS 0 ≤ 7302249; omega) (hE2 r Y hQ) ?_
  rintro v Y2 ⟨rfl, hI⟩
  refine ev_icmpT (tgt := 1344) dL_law_835 (by decide) (show r = r from rfl) ?_
  exact k n1 _ h3 h2 hI
set_option maxHeartbeats 1000000 in
theorem law_lot {i : Nat} (hL : Ln ≤ 3072) (hi : i + 5 < Ln) (hn : 146 ≤ n) (hn2 : n ≤ 226) (hJ : JP g Iv mX11_lot mX12_lot [.int (xs (i + 1)), .int (xs (i + 2))] n X) (k : ∀ n1 X2, 146 ≤ n1 → n1 ≤ 226 → Iv n1 X2 → Lv g xs Ln n1 1344 [some (.ref 3000), some (.ref 0), some (.ref 133), some (.int (nI i))] [] X2) : Lv g xs Ln n 840 [some (.ref 3000), some (.ref 0), some (.ref 133), some (.int (nI i))] [] X := by
  obtain ⟨n1, Q, h1, h2, h3, hE1, hE2⟩ := hJ
  have hs : sS n1 ≤ sS 226 := sS_mono h2
  rw [sS_226] at hs
  refine ev_aload_n dL_law_840 rfl ?_
  refine ev_aload_n dL_law_841 rfl ?_
  refine ev_iload_n dL_law_842 rfl ?_
  refine ev_iconst (v := 1) dL_law_843 ki_1 ?_
  refine ev_iadd dL_law_844 ?_
  refine ev_sld (j := i + 1) dL_law_845 (show nI i + nI 1 = nI (i + 1) from nI_add i 1) (by omega) hL ?_
  refine ev_aload_n dL_law_846 rfl ?_
  refine ev_iload_n dL_law_847 rfl ?_
  refine ev_iconst (v := 2) dL_law_848 ki_2 ?_
  refine ev_iadd dL_law_849 ?_
  refine ev_sld (j := i + 2) dL_law_850 (show nI i + nI 2 = nI (i + 2) from nI_add i 2) (by omega) hL ?_
  refine ev_callV (as := [.int (xs (i + 1)), .int (xs (i + 2))]) (rest := []) dL_law_851 vX11_lot ml_22_97 isX11_lot seX11_lot npX11_lot (rc_0 (by omega)) (Nat.le_of_ble_eq_true rfl) (Nat.le_of_ble_eq_true rfl) (by decide) rfl (Nat.le_of_ble_eq_true rfl) h1 (by show n1 - 0 ≤ 600000; omega) (by show sS n1 - sS 0 ≤ 7302249; omega) hE1 ?_
  rintro v Y ⟨r, rfl, hQ⟩
  refine ev_aload_n dL_law_854 rfl ?_
  refine ev_aload_n dL_law_855 rfl ?_
  refine ev_iload_n dL_law_856 rfl ?_
  refine ev_iconst (v := 1) dL_law_857 ki_1 ?_
  refine ev_iadd dL_law_858 ?_
  refine ev_sld (j := i + 1) dL_law_859 (show nI i + nI 1 = nI (i + 1) from nI_add i 1) (by omega) hL ?_
  refine ev_aload_n dL_law_860 rfl ?_
  refine ev_iload_n dL_law_861 rfl ?_
  refine ev_iconst (v := 2) dL_law_862 ki_2 ?_
  refine ev_iadd dL_law_863 ?_
  refine ev_sld (j := i + 2) dL_law_864 (show nI i + nI 2 = nI (i + 2) from nI_add i 2) (by omega) hL ?_
  refine ev_callV (as := [.int (xs (i + 1)), .int (xs (i + 2))]) (rest := [.int r]) dL_law_865 vX12_lot ml_22_100 isX12_lot seX12_lot npX12_lot (rc_133 (by omega)) (Nat.le_of_ble_eq_true rfl) (Nat.le_of_ble_eq_true rfl) (by decide) rfl (Nat.le_of_ble_eq_true rfl) (Nat.le_refl _) (by show n1 - 0 ≤ 600000; omega) (by show sS n1 - sS 0 ≤ 7302249; omega) (hE2 r Y hQ) ?_
  rintro v Y2 ⟨rfl, hI⟩
  refine ev_icmpT (tgt := 1344) dL_law_868 (by decide) (show r = r from rfl) ?_
  exact k n1 _ h3 h2 hI
set_option maxHeartbeats 1000000 in
theorem law_told {i : Nat} (hL : Ln ≤ 3072) (hi : i + 5 < Ln) (hn : 146 ≤ n) (hn2 : n ≤ 226) (hJ : JP g Iv mX11_told mX12_told [.int (xs (i + 1)), .int (xs (i + 2))] n X) (k : ∀ n1 X2, 146 ≤ n1 → n1 ≤ 226 → Iv n1 X2 → Lv g xs Ln n1 1344 [some (.ref 3000), some (.ref 0), some (.ref 133), some (.int (nI i))] [] X2) : Lv g xs Ln n 873 [some (.ref 3000), some (.ref 0), some (.ref 133), some (.int (nI i))] [] X := by
  obtain ⟨n1, Q, h1, h2, h3, hE1, hE2⟩ := hJ
  have hs : sS n1 ≤ sS 226 := sS_mono h2
  rw [sS_226] at hs
  refine ev_aload_n dL_law_873 rfl ?_
  refine ev_aload_n dL_law_874 rfl ?_
  refine ev_iload_n dL_law_875 rfl ?_
  refine ev_iconst (v := 1) dL_law_876 ki_1 ?_
  refine ev_iadd dL_law_877 ?_
  refine ev_sld (j := i + 1) dL_law_878 (show nI i + nI 1 = nI (i + 1) from nI_add i 1) (by omega) hL ?_
  refine ev_aload_n dL_law_879 rfl ?_
  refine ev_iload_n dL_law_880 rfl ?_
  refine ev_iconst (v := 2) dL_law_881 ki_2 ?_
  refine ev_iadd dL_law_882 ?_
  refine ev_sld (j := i + 2) dL_law_883 (show nI i + nI 2 = nI (i + 2) from nI_add i 2) (by omega) hL ?_
  refine ev_callV (as := [.int (xs (i + 1)), .int (xs (i + 2))]) (rest := []) dL_law_884 vX11_told ml_22_101 isX11_told seX11_told npX11_told (rc_0 (by omega)) (Nat.le_of_ble_eq_true rfl) (Nat.le_of_ble_eq_true rfl) (by decide) rfl (Nat.le_of_ble_eq_true rfl) h1 (by show n1 - 0 ≤ 600000; omega) (by show sS n1 - sS 0 ≤ 7302249; omega) hE1 ?_
  rintro v Y ⟨r, rfl, hQ⟩
  refine ev_aload_n dL_law_887 rfl ?_
  refine ev_aload_n dL_law_888 rfl ?_
  refine ev_iload_n dL_law_889 rfl ?_
  refine ev_iconst (v := 1) dL_law_890 ki_1 ?_
  refine ev_iadd dL_law_891 ?_
  refine ev_sld (j := i + 1) dL_law_892 (show nI i + nI 1 = nI (i + 1) from nI_add i 1) (by omega) hL ?_
  refine ev_aload_n dL_law_893 rfl ?_
  refine ev_iload_n dL_law_894 rfl ?_
  refine ev_iconst (v := 2) dL_law_895 ki_2 ?_
  refine ev_iadd dL_law_896 ?_
  refine ev_sld (j := i + 2) dL_law_897 (show nI i + nI 2 = nI (i + 2) from nI_add i 2) (by omega) hL ?_
  refine ev_callV (as := [.int (xs (i + 1)), .int (xs (i + 2))]) (rest := [.int r]) dL_law_898 vX12_told ml_22_104 isX12_told seX12_told npX12_told (rc_133 (by omega)) (Nat.le_of_ble_eq_true rfl) (Nat.le_of_ble_eq_true rfl) (by decide) rfl (Nat.le_of_ble_eq_true rfl) (Nat.le_refl _) (by show n1 - 0 ≤ 600000; omega) (by show sS n1 - sS 0 ≤ 7302249; omega) (hE2 r Y hQ) ?_
  rintro v Y2 ⟨rfl, hI⟩
  refine ev_icmpT (tgt := 1344) dL_law_901 (by decide) (show r = r from rfl) ?_
  exact k n1 _ h3 h2 hI
set_option maxHeartbeats 1000000 in
theorem law_stock {i : Nat} (hL : Ln ≤ 3072) (hi : i + 5 < Ln) (hn : 146 ≤ n) (hn2 : n ≤ 226) (hJ : JP g Iv mX11_stock mX12_stock [.int (xs (i + 1)), .int (xs (i + 2))] n X) (k : ∀ n1 X2, 146 ≤ n1 → n1 ≤ 226 → Iv n1 X2 → Lv g xs Ln n1 1344 [some (.ref 3000), some (.ref 0), some (.ref 133), some (.int (nI i))] [] X2) : Lv g xs Ln n 906 [some (.ref 3000), some (.ref 0), some (.ref 133), some (.int (nI i))] [] X := by
  obtain ⟨n1, Q, h1, h2, h3, hE1, hE2⟩ := hJ
  have hs : sS n1 ≤ sS 226 := sS_mono h2
  rw [sS_226] at hs
  refine ev_aload_n dL_law_906 rfl ?_
  refine ev_aload_n dL_law_907 rfl ?_
  refine ev_iload_n dL_law_908 rfl ?_
  refine ev_iconst (v := 1) dL_law_909 ki_1 ?_
  refine ev_iadd dL_law_910 ?_
  refine ev_sld (j := i + 1) dL_law_911 (show nI i + nI 1 = nI (i + 1) from nI_add i 1) (by omega) hL ?_
  refine ev_aload_n dL_law_912 rfl ?_
  refine ev_iload_n dL_law_913 rfl ?_
  refine ev_iconst (v := 2) dL_law_914 ki_2 ?_
  refine ev_iadd dL_law_915 ?_
  refine ev_sld (j := i + 2) dL_law_916 (show nI i + nI 2 = nI (i + 2) from nI_add i 2) (by omega) hL ?_
  refine ev_callV (as := [.int (xs (i + 1)), .int (xs (i + 2))]) (rest := []) dL_law_917 vX11_stock ml_22_105 isX11_stock seX11_stock npX11_stock (rc_0 (by omega)) (Nat.le_of_ble_eq_true rfl) (Nat.le_of_ble_eq_true rfl) (by decide) rfl (Nat.le_of_ble_eq_true rfl) h1 (by show n1 - 0 ≤ 600000; omega) (by show sS n1 - sS 0 ≤ 7302249; omega) hE1 ?_
  rintro v Y ⟨r, rfl, hQ⟩
  refine ev_aload_n dL_law_920 rfl ?_
  refine ev_aload_n dL_law_921 rfl ?_
  refine ev_iload_n dL_law_922 rfl ?_
  refine ev_iconst (v := 1) dL_law_923 ki_1 ?_
  refine ev_iadd dL_law_924 ?_
  refine ev_sld (j := i + 1) dL_law_925 (show nI i + nI 1 = nI (i + 1) from nI_add i 1) (by omega) hL ?_
  refine ev_aload_n dL_law_926 rfl ?_
  refine ev_iload_n dL_law_927 rfl ?_
  refine ev_iconst (v := 2) dL_law_928 ki_2 ?_
  refine ev_iadd dL_law_929 ?_
  refine ev_sld (j := i + 2) dL_law_930 (show nI i + nI 2 = nI (i + 2) from nI_add i 2) (by omega) hL ?_
  refine ev_callV (as := [.int (xs (i + 1)), .int (xs (i + 2))]) (rest := [.int r]) dL_law_931 vX12_stock ml_22_108 isX12_stock seX12_stock npX12_stock (rc_133 (by omega)) (Nat.le_of_ble_eq_true rfl) (Nat.le_of_ble_eq_true rfl) (by decide) rfl (Nat.le_of_ble_eq_true rfl) (Nat.le_refl _) (by show n1 - 0 ≤ 600000; omega) (by show sS n1 - sS 0 ≤ 7302249; omega) (hE2 r Y hQ) ?_
  rintro v Y2 ⟨rfl, hI⟩
  refine ev_icmpT (tgt := 1344) dL_law_934 (by decide) (show r = r from rfl) ?_
  exact k n1 _ h3 h2 hI
set_option maxHeartbeats 1000000 in
theorem law_plan {i : Nat} (hL : Ln ≤ 3072) (hi : i + 5 < Ln) (hn : 146 ≤ n) (hn2 : n ≤ 226) (hJ : JP g Iv mX11_plan mX12_plan [.int (xs (i + 1))] n X) (k : ∀ n1 X2, 146 ≤ n1 → n1 ≤ 226 → Iv n1 X2 → Lv g xs Ln n1 1344 [some (.ref 3000), some (.ref 0), some (.ref 133), some (.int (nI i))] [] X2) : Lv g xs Ln n 939 [some (.ref 3000), some (.ref 0), some (.ref 133), some (.int (nI i))] [] X := by
  obtain ⟨n1, Q, h1, h2, h3, hE1, hE2⟩ := hJ
  have hs : sS n1 ≤ sS 226 := sS_mono h2
  rw [sS_226] at hs
  refine ev_aload_n dL_law_939 rfl ?_
  refine ev_aload_n dL_law_940 rfl ?_
  refine ev_iload_n dL_law_941 rfl ?_
  refine ev_iconst (v := 1) dL_law_942 ki_1 ?_
  refine ev_iadd dL_law_943 ?_
  refine ev_sld (j := i + 1) dL_law_944 (show nI i + nI 1 = nI (i + 1) from nI_add i 1) (by omega) hL ?_
  refine ev_callV (as := [.int (xs (i + 1))]) (rest := []) dL_law_945 vX11_plan ml_22_109 isX11_plan seX11_plan npX11_plan (rc_0 (by omega)) (Nat.le_of_ble_eq_true rfl) (Nat.le_of_ble_eq_true rfl) (by decide) rfl (Nat.le_of_ble_eq_true rfl) h1 (by show n1 - 0 ≤ 600000; omega) (by show sS n1 - sS 0 ≤ 7302249; omega) hE1 ?_
  rintro v Y ⟨r, rfl, hQ⟩
  refine ev_aload_n dL_law_948 rfl ?_
  refine ev_aload_n dL_law_949 rfl ?_
  refine ev_iload_n dL_law_950 rfl ?_
  refine ev_iconst (v := 1) dL_law_951 ki_1 ?_
  refine ev_iadd dL_law_952 ?_
  refine ev_sld (j := i + 1) dL_law_953 (show nI i + nI 1 = nI (i + 1) from nI_add i 1) (by omega) hL ?_
  refine ev_callV (as := [.int (xs (i + 1))]) (rest := [.int r]) dL_law_954 vX12_plan ml_22_112 isX12_plan seX12_plan npX12_plan (rc_133 (by omega)) (Nat.le_of_ble_eq_true rfl) (Nat.le_of_ble_eq_true rfl) (by decide) rfl (Nat.le_of_ble_eq_true rfl) (Nat.le_refl _) (by show n1 - 0 ≤ 600000; omega) (by show sS n1 - sS 0 ≤ 7302249; omega) (hE2 r Y hQ) ?_
  rintro v Y2 ⟨rfl, hI⟩
  refine ev_icmpT (tgt := 1344) dL_law_957 (by decide) (show r = r from rfl) ?_
  exact k n1 _ h3 h2 hI
set_option maxHeartbeats 1000000 in
theorem law_swap {i : Nat} (hL : Ln ≤ 3072) (hi : i + 5 < Ln) (hn : 146 ≤ n) (hn2 : n ≤ 226) (hJ : JP g Iv mX11_swap mX12_swap [.int (xs (i + 1)), .int (xs (i + 2))] n X) (k : ∀ n1 X2, 146 ≤ n1 → n1 ≤ 226 → Iv n1 X2 → Lv g xs Ln n1 1344 [some (.ref 3000), some (.ref 0), some (.ref 133), some (.int (nI i))] [] X2) : Lv g xs Ln n 962 [some (.ref 3000), some (.ref 0), some (.ref 133), some (.int (nI i))] [] X := by
  obtain ⟨n1, Q, h1, h2, h3, hE1, hE2⟩ := hJ
  have hs : sS n1 ≤ sS 226 := sS_mono h2
  rw [sS_226] at hs
  refine ev_aload_n dL_law_962 rfl ?_
  refine ev_aload_n dL_law_963 rfl ?_
  refine ev_iload_n dL_law_964 rfl ?_
  refine ev_iconst (v := 1) dL_law_965 ki_1 ?_
  refine ev_iadd dL_law_966 ?_
  refine ev_sld (j := i + 1) dL_law_967 (show nI i + nI 1 = nI (i + 1) from nI_add i 1) (by omega) hL ?_
  refine ev_aload_n dL_law_968 rfl ?_
  refine ev_iload_n dL_law_969 rfl ?_
  refine ev_iconst (v := 2) dL_law_970 ki_2 ?_
  refine ev_iadd dL_law_971 ?_
  refine ev_sld (j := i + 2) dL_law_972 (show nI i + nI 2 = nI (i + 2) from nI_add i 2) (by omega) hL ?_
  refine ev_callV (as := [.int (xs (i + 1)), .int (xs (i + 2))]) (rest := []) dL_law_973 vX11_swap ml_22_113 isX11_swap seX11_swap npX11_swap (rc_0 (by omega)) (Nat.le_of_ble_eq_true rfl) (Nat.le_of_ble_eq_true rfl) (by decide) rfl (Nat.le_of_ble_eq_true rfl) h1 (by show n1 - 0 ≤ 600000; omega) (by show sS n1 - sS 0 ≤ 7302249; omega) hE1 ?_
  rintro v Y ⟨r, rfl, hQ⟩
  refine ev_aload_n dL_law_976 rfl ?_
  refine ev_aload_n dL_law_977 rfl ?_
  refine ev_iload_n dL_law_978 rfl ?_
  refine ev_iconst (v := 1) dL_law_979 ki_1 ?_
  refine ev_iadd dL_law_980 ?_
  refine ev_sld (j := i + 1) dL_law_981 (show nI i + nI 1 = nI (i + 1) from nI_add i 1) (by omega) hL ?_
  refine ev_aload_n dL_law_982 rfl ?_
  refine ev_iload_n dL_law_983 rfl ?_
  refine ev_iconst (v := 2) dL_law_984 ki_2 ?_
  refine ev_iadd dL_law_985 ?_
  refine ev_sld (j := i + 2) dL_law_986 (show nI i + nI 2 = nI (i + 2) from nI_add i 2) (by omega) hL ?_
  refine ev_callV (as := [.int (xs (i + 1)), .int (xs (i + 2))]) (rest := [.int r]) dL_law_987 vX12_swap ml_22_116 isX12_swap seX12_swap npX12_swap (rc_133 (by omega)) (Nat.le_of_ble_eq_true rfl) (Nat.le_of_ble_eq_true rfl) (by decide) rfl (Nat.le_of_ble_eq_true rfl) (Nat.le_refl _) (by show n1 - 0 ≤ 600000; omega) (by show sS n1 - sS 0 ≤ 7302249; omega) (hE2 r Y hQ) ?_
  rintro v Y2 ⟨rfl, hI⟩
  refine ev_icmpT (tgt := 1344) dL_law_990 (by decide) (show r = r from rfl) ?_
  exact k n1 _ h3 h2 hI
set_option maxHeartbeats 1000000 in
theorem law_pack {i : Nat} (hL : Ln ≤ 3072) (hi : i + 5 < Ln) (hn : 146 ≤ n) (hn2 : n ≤ 226) (hJ : JP g Iv mX11_pack mX12_pack [.int (xs (i + 1))] n X) (k : ∀ n1 X2, 146 ≤ n1 → n1 ≤ 226 → Iv n1 X2 → Lv g xs Ln n1 1344 [some (.ref 3000), some (.ref 0), some (.ref 133), some (.int (nI i))] [] X2) : Lv g xs Ln n 995 [some (.ref 3000), some (.ref 0), some (.ref 133), some (.int (nI i))] [] X := by
  obtain ⟨n1, Q, h1, h2, h3, hE1, hE2⟩ := hJ
  have hs : sS n1 ≤ sS 226 := sS_mono h2
  rw [sS_226] at hs
  refine ev_aload_n dL_law_995 rfl ?_
  refine ev_aload_n dL_law_996 rfl ?_
  refine ev_iload_n dL_law_997 rfl ?_
  refine ev_iconst (v := 1) dL_law_998 ki_1 ?_
  refine ev_iadd dL_law_999 ?_
  refine ev_sld (j := i + 1) dL_law_1000 (show nI i + nI 1 = nI (i + 1) from nI_add i 1) (by omega) hL ?_
  refine ev_callV (as := [.int (xs (i + 1))]) (rest := []) dL_law_1001 vX11_pack ml_22_117 isX11_pack seX11_pack npX11_pack (rc_0 (by omega)) (Nat.le_of_ble_eq_true rfl) (Nat.le_of_ble_eq_true rfl) (by decide) rfl (Nat.le_of_ble_eq_true rfl) h1 (by show n1 - 0 ≤ 600000; omega) (by show sS n1 - sS 0 ≤ 7302249; omega) hE1 ?_
  rintro v Y ⟨r, rfl, hQ⟩
  refine ev_aload_n dL_law_1004 rfl ?_
  refine ev_aload_n dL_law_1005 rfl ?_
  refine ev_iload_n dL_law_1006 rfl ?_
  refine ev_iconst (v := 1) dL_law_1007 ki_1 ?_
  refine ev_iadd dL_law_1008 ?_
  refine ev_sld (j := i + 1) dL_law_1009 (show nI i + nI 1 = nI (i + 1) from nI_add i 1) (by omega) hL ?_
  refine ev_callV (as := [.int (xs (i + 1))]) (rest := [.int r]) dL_law_1010 vX12_pack ml_22_120 isX12_pack seX12_pack npX12_pack (rc_133 (by omega)) (Nat.le_of_ble_eq_true rfl) (Nat.le_of_ble_eq_true rfl) (by decide) rfl (Nat.le_of_ble_eq_true rfl) (Nat.le_refl _) (by show n1 - 0 ≤ 600000; omega) (by show sS n1 - sS 0 ≤ 7302249; omega) (hE2 r Y hQ) ?_
  rintro v Y2 ⟨rfl, hI⟩
  refine ev_icmpT (tgt := 1344) dL_law_1013 (by decide) (show r = r from rfl) ?_
  exact k n1 _ h3 h2 hI
set_option maxHeartbeats 1000000 in
theorem law_recall {i : Nat} (hL : Ln ≤ 3072) (hi : i + 5 < Ln) (hn : 146 ≤ n) (hn2 : n ≤ 226) (hJ : JP g Iv mX11_recall mX12_recall [.int (xs (i + 1))] n X) (k : ∀ n1 X2, 146 ≤ n1 → n1 ≤ 226 → Iv n1 X2 → Lv g xs Ln n1 1344 [some (.ref 3000), some (.ref 0), some (.ref 133), some (.int (nI i))] [] X2) : Lv g xs Ln n 1018 [some (.ref 3000), some (.ref 0), some (.ref 133), some (.int (nI i))] [] X := by
  obtain ⟨n1, Q, h1, h2, h3, hE1, hE2⟩ := hJ
  have hs : sS n1 ≤ sS 226 := sS_mono h2
  rw [sS_226] at hs
  refine ev_aload_n dL_law_1018 rfl ?_
  refine ev_aload_n dL_law_1019 rfl ?_
  refine ev_iload_n dL_law_1020 rfl ?_
  refine ev_iconst (v := 1) dL_law_1021 ki_1 ?_
  refine ev_iadd dL_law_1022 ?_
  refine ev_sld (j := i + 1) dL_law_1023 (show nI i + nI 1 = nI (i + 1) from nI_add i 1) (by omega) hL ?_
  refine ev_callV (as := [.int (xs (i + 1))]) (rest := []) dL_law_1024 vX11_recall ml_22_121 isX11_recall seX11_recall npX11_recall (rc_0 (by omega)) (Nat.le_of_ble_eq_true rfl) (Nat.le_of_ble_eq_true rfl) (by decide) rfl (Nat.le_of_ble_eq_true rfl) h1 (by show n1 - 0 ≤ 600000; omega) (by show sS n1 - sS 0 ≤ 7302249; omega) hE1 ?_
  rintro v Y ⟨r, rfl, hQ⟩
  refine ev_aload_n dL_law_1027 rfl ?_
  refine ev_aload_n dL_law_1028 rfl ?_
  refine ev_iload_n dL_law_1029 rfl ?_
  refine ev_iconst (v := 1) dL_law_1030 ki_1 ?_
  refine ev_iadd dL_law_1031 ?_
  refine ev_sld (j := i + 1) dL_law_1032 (show nI i + nI 1 = nI (i + 1) from nI_add i 1) (by omega) hL ?_
  refine ev_callV (as := [.int (xs (i + 1))]) (rest := [.int r]) dL_law_1033 vX12_recall ml_22_124 isX12_recall seX12_recall npX12_recall (rc_133 (by omega)) (Nat.le_of_ble_eq_true rfl) (Nat.le_of_ble_eq_true rfl) (by decide) rfl (Nat.le_of_ble_eq_true rfl) (Nat.le_refl _) (by show n1 - 0 ≤ 600000; omega) (by show sS n1 - sS 0 ≤ 7302249; omega) (hE2 r Y hQ) ?_
  rintro v Y2 ⟨rfl, hI⟩
  refine ev_icmpT (tgt := 1344) dL_law_1036 (by decide) (show r = r from rfl) ?_
  exact k n1 _ h3 h2 hI
set_option maxHeartbeats 1000000 in
theorem law_end {i : Nat} (hL : Ln ≤ 3072) (hi : i + 5 < Ln) (hn : 146 ≤ n) (hn2 : n ≤ 226) (hJ : JP g Iv mX11_end mX12_end [] n X) (k : ∀ n1 X2, 146 ≤ n1 → n1 ≤ 226 → Iv n1 X2 → Lv g xs Ln n1 1344 [some (.ref 3000), some (.ref 0), some (.ref 133), some (.int (nI i))] [] X2) : Lv g xs Ln n 1041 [some (.ref 3000), some (.ref 0), some (.ref 133), some (.int (nI i))] [] X := by
  obtain ⟨n1, Q, h1, h2, h3, hE1, hE2⟩ := hJ
  have hs : sS n1 ≤ sS 226 := sS_mono h2
  rw [sS_226] at hs
  refine ev_aload_n dL_law_1041 rfl ?_
  refine ev_callV (as := []) (rest := []) dL_law_1042 vX11_end ml_22_125 isX11_end seX11_end npX11_end (rc_0 (by omega)) (Nat.le_of_ble_eq_true rfl) (Nat.le_of_ble_eq_true rfl) (by decide) rfl (Nat.le_of_ble_eq_true rfl) h1 (by show n1 - 0 ≤ 600000; omega) (by show sS n1 - sS 0 ≤ 7302249; omega) hE1 ?_
  rintro v Y ⟨r, rfl, hQ⟩
  refine ev_aload_n dL_law_1045 rfl ?_
  refine ev_callV (as := []) (rest := [.int r]) dL_law_1046 vX12_end ml_22_128 isX12_end seX12_end npX12_end (rc_133 (by omega)) (Nat.le_of_ble_eq_true rfl) (Nat.le_of_ble_eq_true rfl) (by decide) rfl (Nat.le_of_ble_eq_true rfl) (Nat.le_refl _) (by show n1 - 0 ≤ 600000; omega) (by show sS n1 - sS 0 ≤ 7302249; omega) (hE2 r Y hQ) ?_
  rintro v Y2 ⟨rfl, hI⟩
  refine ev_icmpT (tgt := 1344) dL_law_1049 (by decide) (show r = r from rfl) ?_
  exact k n1 _ h3 h2 hI
set_option maxHeartbeats 1000000 in
theorem law_shifts {i : Nat} (hL : Ln ≤ 3072) (hi : i + 5 < Ln) (hn : 146 ≤ n) (hn2 : n ≤ 226) (hJ : JP g Iv mX11_shifts mX12_shifts [.int (xs (i + 1))] n X) (k : ∀ n1 X2, 146 ≤ n1 → n1 ≤ 226 → Iv n1 X2 → Lv g xs Ln n1 1344 [some (.ref 3000), some (.ref 0), some (.ref 133), some (.int (nI i))] [] X2) : Lv g xs Ln n 1054 [some (.ref 3000), some (.ref 0), some (.ref 133), some (.int (nI i))] [] X := by
  obtain ⟨n1, Q, h1, h2, h3, hE1, hE2⟩ := hJ
  have hs : sS n1 ≤ sS 226 := sS_mono h2
  rw [sS_226] at hs
  refine ev_aload_n dL_law_1054 rfl ?_
  refine ev_aload_n dL_law_1055 rfl ?_
  refine ev_iload_n dL_law_1056 rfl ?_
  refine ev_iconst (v := 1) dL_law_1057 ki_1 ?_
  refine ev_iadd dL_law_1058 ?_
  refine ev_sld (j := i + 1) dL_law_1059 (show nI i + nI 1 = nI (i + 1) from nI_add i 1) (by omega) hL ?_
  refine ev_callV (as := [.int (xs (i + 1))]) (rest := []) dL_law_1060 vX11_shifts ml_22_129 isX11_shifts seX11_shifts npX11_shifts (rc_0 (by omega)) (Nat.le_of_ble_eq_true rfl) (Nat.le_of_ble_eq_true rfl) (by decide) rfl (Nat.le_of_ble_eq_true rfl) h1 (by show n1 - 0 ≤ 600000; omega) (by show sS n1 - sS 0 ≤ 7302249; omega) hE1 ?_
  rintro v Y ⟨r, rfl, hQ⟩
  refine ev_aload_n dL_law_1063 rfl ?_
  refine ev_aload_n dL_law_1064 rfl ?_
  refine ev_iload_n dL_law_1065 rfl ?_
  refine ev_iconst (v := 1) dL_law_1066 ki_1 ?_
  refine ev_iadd dL_law_1067 ?_
  refine ev_sld (j := i + 1) dL_law_1068 (show nI i + nI 1 = nI (i + 1) from nI_add i 1) (by omega) hL ?_
  refine ev_callV (as := [.int (xs (i + 1))]) (rest := [.int r]) dL_law_1069 vX12_shifts ml_22_132 isX12_shifts seX12_shifts npX12_shifts (rc_133 (by omega)) (Nat.le_of_ble_eq_true rfl) (Nat.le_of_ble_eq_true rfl) (by decide) rfl (Nat.le_of_ble_eq_true rfl) (Nat.le_refl _) (by show n1 - 0 ≤ 600000; omega) (by show sS n1 - sS 0 ≤ 7302249; omega) (hE2 r Y hQ) ?_
  rintro v Y2 ⟨rfl, hI⟩
  refine ev_icmpT (tgt := 1344) dL_law_1072 (by decide) (show r = r from rfl) ?_
  exact k n1 _ h3 h2 hI
set_option maxHeartbeats 1000000 in
theorem law_picks {i : Nat} (hL : Ln ≤ 3072) (hi : i + 5 < Ln) (hn : 146 ≤ n) (hn2 : n ≤ 226) (hJ : JP g Iv mX11_picks mX12_picks [.int (xs (i + 1)), .int (xs (i + 2)), .int (xs (i + 3))] n X) (k : ∀ n1 X2, 146 ≤ n1 → n1 ≤ 226 → Iv n1 X2 → Lv g xs Ln n1 1344 [some (.ref 3000), some (.ref 0), some (.ref 133), some (.int (nI i))] [] X2) : Lv g xs Ln n 1077 [some (.ref 3000), some (.ref 0), some (.ref 133), some (.int (nI i))] [] X := by
  obtain ⟨n1, Q, h1, h2, h3, hE1, hE2⟩ := hJ
  have hs : sS n1 ≤ sS 226 := sS_mono h2
  rw [sS_226] at hs
  refine ev_aload_n dL_law_1077 rfl ?_
  refine ev_aload_n dL_law_1078 rfl ?_
  refine ev_iload_n dL_law_1079 rfl ?_
  refine ev_iconst (v := 1) dL_law_1080 ki_1 ?_
  refine ev_iadd dL_law_1081 ?_
  refine ev_sld (j := i + 1) dL_law_1082 (show nI i + nI 1 = nI (i + 1) from nI_add i 1) (by omega) hL ?_
  refine ev_aload_n dL_law_1083 rfl ?_
  refine ev_iload_n dL_law_1084 rfl ?_
  refine ev_iconst (v := 2) dL_law_1085 ki_2 ?_
  refine ev_iadd dL_law_1086 ?_
  refine ev_sld (j := i + 2) dL_law_1087 (show nI i + nI 2 = nI (i + 2) from nI_add i 2) (by omega) hL ?_
  refine ev_aload_n dL_law_1088 rfl ?_
  refine ev_iload_n dL_law_1089 rfl ?_
  refine ev_iconst (v := 3) dL_law_1090 ki_3 ?_
  refine ev_iadd dL_law_1091 ?_
  refine ev_sld (j := i + 3) dL_law_1092 (show nI i + nI 3 = nI (i + 3) from nI_add i 3) (by omega) hL ?_
  refine ev_callV (as := [.int (xs (i + 1)), .int (xs (i + 2)), .int (xs (i + 3))]) (rest := []) dL_law_1093 vX11_picks ml_22_133 isX11_picks seX11_picks npX11_picks (rc_0 (by omega)) (Nat.le_of_ble_eq_true rfl) (Nat.le_of_ble_eq_true rfl) (by decide) rfl (Nat.le_of_ble_eq_true rfl) h1 (by show n1 - 0 ≤ 600000; omega) (by show sS n1 - sS 0 ≤ 7302249; omega) hE1 ?_
  rintro v Y ⟨r, rfl, hQ⟩
  refine ev_aload_n dL_law_1096 rfl ?_
  refine ev_aload_n dL_law_1097 rfl ?_
  refine ev_iload_n dL_law_1098 rfl ?_
  refine ev_iconst (v := 1) dL_law_1099 ki_1 ?_
  refine ev_iadd dL_law_1100 ?_
  refine ev_sld (j := i + 1) dL_law_1101 (show nI i + nI 1 = nI (i + 1) from nI_add i 1) (by omega) hL ?_
  refine ev_aload_n dL_law_1102 rfl ?_
  refine ev_iload_n dL_law_1103 rfl ?_
  refine ev_iconst (v := 2) dL_law_1104 ki_2 ?_
  refine ev_iadd dL_law_1105 ?_
  refine ev_sld (j := i + 2) dL_law_1106 (show nI i + nI 2 = nI (i + 2) from nI_add i 2) (by omega) hL ?_
  refine ev_aload_n dL_law_1107 rfl ?_
  refine ev_iload_n dL_law_1108 rfl ?_
  refine ev_iconst (v := 3) dL_law_1109 ki_3 ?_
  refine ev_iadd dL_law_1110 ?_
  refine ev_sld (j := i + 3) dL_law_1111 (show nI i + nI 3 = nI (i + 3) from nI_add i 3) (by omega) hL ?_
  refine ev_callV (as := [.int (xs (i + 1)), .int (xs (i + 2)), .int (xs (i + 3))]) (rest := [.int r]) dL_law_1112 vX12_picks ml_22_136 isX12_picks seX12_picks npX12_picks (rc_133 (by omega)) (Nat.le_of_ble_eq_true rfl) (Nat.le_of_ble_eq_true rfl) (by decide) rfl (Nat.le_of_ble_eq_true rfl) (Nat.le_refl _) (by show n1 - 0 ≤ 600000; omega) (by show sS n1 - sS 0 ≤ 7302249; omega) (hE2 r Y hQ) ?_
  rintro v Y2 ⟨rfl, hI⟩
  refine ev_icmpT (tgt := 1344) dL_law_1115 (by decide) (show r = r from rfl) ?_
  exact k n1 _ h3 h2 hI
set_option maxHeartbeats 1000000 in
theorem law_tell {i : Nat} (hL : Ln ≤ 3072) (hi : i + 5 < Ln) (hn : 146 ≤ n) (hn2 : n ≤ 226) (hJ : JP g Iv mX11_tell mX12_tell [.int (xs (i + 1))] n X) (k : ∀ n1 X2, 146 ≤ n1 → n1 ≤ 226 → Iv n1 X2 → Lv g xs Ln n1 1344 [some (.ref 3000), some (.ref 0), some (.ref 133), some (.int (nI i))] [] X2) : Lv g xs Ln n 1120 [some (.ref 3000), some (.ref 0), some (.ref 133), some (.int (nI i))] [] X := by
  obtain ⟨n1, Q, h1, h2, h3, hE1, hE2⟩ := hJ
  have hs : sS n1 ≤ sS 226 := sS_mono h2
  rw [sS_226] at hs
  refine ev_aload_n dL_law_1120 rfl ?_
  refine ev_aload_n dL_law_1121 rfl ?_
  refine ev_iload_n dL_law_1122 rfl ?_
  refine ev_iconst (v := 1) dL_law_1123 ki_1 ?_
  refine ev_iadd dL_law_1124 ?_
  refine ev_sld (j := i + 1) dL_law_1125 (show nI i + nI 1 = nI (i + 1) from nI_add i 1) (by omega) hL ?_
  refine ev_callV (as := [.int (xs (i + 1))]) (rest := []) dL_law_1126 vX11_tell ml_22_137 isX11_tell seX11_tell npX11_tell (rc_0 (by omega)) (Nat.le_of_ble_eq_true rfl) (Nat.le_of_ble_eq_true rfl) (by decide) rfl (Nat.le_of_ble_eq_true rfl) h1 (by show n1 - 0 ≤ 600000; omega) (by show sS n1 - sS 0 ≤ 7302249; omega) hE1 ?_
  rintro v Y ⟨r, rfl, hQ⟩
  refine ev_aload_n dL_law_1129 rfl ?_
  refine ev_aload_n dL_law_1130 rfl ?_
  refine ev_iload_n dL_law_1131 rfl ?_
  refine ev_iconst (v := 1) dL_law_1132 ki_1 ?_
  refine ev_iadd dL_law_1133 ?_
  refine ev_sld (j := i + 1) dL_law_1134 (show nI i + nI 1 = nI (i + 1) from nI_add i 1) (by omega) hL ?_
  refine ev_callV (as := [.int (xs (i + 1))]) (rest := [.int r]) dL_law_1135 vX12_tell ml_22_140 isX12_tell seX12_tell npX12_tell (rc_133 (by omega)) (Nat.le_of_ble_eq_true rfl) (Nat.le_of_ble_eq_true rfl) (by decide) rfl (Nat.le_of_ble_eq_true rfl) (Nat.le_refl _) (by show n1 - 0 ≤ 600000; omega) (by show sS n1 - sS 0 ≤ 7302249; omega) (hE2 r Y hQ) ?_
  rintro v Y2 ⟨rfl, hI⟩
  refine ev_icmpT (tgt := 1344) dL_law_1138 (by decide) (show r = r from rfl) ?_
  exact k n1 _ h3 h2 hI
set_option maxHeartbeats 1000000 in
theorem law_check {i : Nat} (hL : Ln ≤ 3072) (hi : i + 5 < Ln) (hn : 146 ≤ n) (hn2 : n ≤ 226) (hJ : JP g Iv mX11_check mX12_check [] n X) (k : ∀ n1 X2, 146 ≤ n1 → n1 ≤ 226 → Iv n1 X2 → Lv g xs Ln n1 1344 [some (.ref 3000), some (.ref 0), some (.ref 133), some (.int (nI i))] [] X2) : Lv g xs Ln n 1143 [some (.ref 3000), some (.ref 0), some (.ref 133), some (.int (nI i))] [] X := by
  obtain ⟨n1, Q, h1, h2, h3, hE1, hE2⟩ := hJ
  have hs : sS n1 ≤ sS 226 := sS_mono h2
  rw [sS_226] at hs
  refine ev_aload_n dL_law_1143 rfl ?_
  refine ev_callV (as := []) (rest := []) dL_law_1144 vX11_check ml_22_141 isX11_check seX11_check npX11_check (rc_0 (by omega)) (Nat.le_of_ble_eq_true rfl) (Nat.le_of_ble_eq_true rfl) (by decide) rfl (Nat.le_of_ble_eq_true rfl) h1 (by show n1 - 0 ≤ 600000; omega) (by show sS n1 - sS 0 ≤ 7302249; omega) hE1 ?_
  rintro v Y ⟨r, rfl, hQ⟩
  refine ev_aload_n dL_law_1147 rfl ?_
  refine ev_callV (as := []) (rest := [.int r]) dL_law_1148 vX12_check ml_22_144 isX12_check seX12_check npX12_check (rc_133 (by omega)) (Nat.le_of_ble_eq_true rfl) (Nat.le_of_ble_eq_true rfl) (by decide) rfl (Nat.le_of_ble_eq_true rfl) (Nat.le_refl _) (by show n1 - 0 ≤ 600000; omega) (by show sS n1 - sS 0 ≤ 7302249; omega) (hE2 r Y hQ) ?_
  rintro v Y2 ⟨rfl, hI⟩
  refine ev_icmpT (tgt := 1344) dL_law_1151 (by decide) (show r = r from rfl) ?_
  exact k n1 _ h3 h2 hI
set_option maxHeartbeats 1000000 in
theorem law_keep {i : Nat} (hL : Ln ≤ 3072) (hi : i + 5 < Ln) (hn : 146 ≤ n) (hn2 : n ≤ 226) (hJ : JP g Iv mX11_keep mX12_keep [] n X) (k : ∀ n1 X2, 146 ≤ n1 → n1 ≤ 226 → Iv n1 X2 → Lv g xs Ln n1 1344 [some (.ref 3000), some (.ref 0), some (.ref 133), some (.int (nI i))] [] X2) : Lv g xs Ln n 1156 [some (.ref 3000), some (.ref 0), some (.ref 133), some (.int (nI i))] [] X := by
  obtain ⟨n1, Q, h1, h2, h3, hE1, hE2⟩ := hJ
  have hs : sS n1 ≤ sS 226 := sS_mono h2
  rw [sS_226] at hs
  refine ev_aload_n dL_law_1156 rfl ?_
  refine ev_callV (as := []) (rest := []) dL_law_1157 vX11_keep ml_22_145 isX11_keep seX11_keep npX11_keep (rc_0 (by omega)) (Nat.le_of_ble_eq_true rfl) (Nat.le_of_ble_eq_true rfl) (by decide) rfl (Nat.le_of_ble_eq_true rfl) h1 (by show n1 - 0 ≤ 600000; omega) (by show sS n1 - sS 0 ≤ 7302249; omega) hE1 ?_
  rintro v Y ⟨r, rfl, hQ⟩
  refine ev_aload_n dL_law_1160 rfl ?_
  refine ev_callV (as := []) (rest := [.int r]) dL_law_1161 vX12_keep ml_22_148 isX12_keep seX12_keep npX12_keep (rc_133 (by omega)) (Nat.le_of_ble_eq_true rfl) (Nat.le_of_ble_eq_true rfl) (by decide) rfl (Nat.le_of_ble_eq_true rfl) (Nat.le_refl _) (by show n1 - 0 ≤ 600000; omega) (by show sS n1 - sS 0 ≤ 7302249; omega) (hE2 r Y hQ) ?_
  rintro v Y2 ⟨rfl, hI⟩
  refine ev_icmpT (tgt := 1344) dL_law_1164 (by decide) (show r = r from rfl) ?_
  exact k n1 _ h3 h2 hI
set_option maxHeartbeats 1000000 in
theorem law_back {i : Nat} (hL : Ln ≤ 3072) (hi : i + 5 < Ln) (hn : 146 ≤ n) (hn2 : n ≤ 226) (hJ : JP g Iv mX11_back mX12_back [] n X) (k : ∀ n1 X2, 146 ≤ n1 → n1 ≤ 226 → Iv n1 X2 → Lv g xs Ln n1 1344 [some (.ref 3000), some (.ref 0), some (.ref 133), some (.int (nI i))] [] X2) : Lv g xs Ln n 1169 [some (.ref 3000), some (.ref 0), some (.ref 133), some (.int (nI i))] [] X := by
  obtain ⟨n1, Q, h1, h2, h3, hE1, hE2⟩ := hJ
  have hs : sS n1 ≤ sS 226 := sS_mono h2
  rw [sS_226] at hs
  refine ev_aload_n dL_law_1169 rfl ?_
  refine ev_callV (as := []) (rest := []) dL_law_1170 vX11_back ml_22_149 isX11_back seX11_back npX11_back (rc_0 (by omega)) (Nat.le_of_ble_eq_true rfl) (Nat.le_of_ble_eq_true rfl) (by decide) rfl (Nat.le_of_ble_eq_true rfl) h1 (by show n1 - 0 ≤ 600000; omega) (by show sS n1 - sS 0 ≤ 7302249; omega) hE1 ?_
  rintro v Y ⟨r, rfl, hQ⟩
  refine ev_aload_n dL_law_1173 rfl ?_
  refine ev_callV (as := []) (rest := [.int r]) dL_law_1174 vX12_back ml_22_152 isX12_back seX12_back npX12_back (rc_133 (by omega)) (Nat.le_of_ble_eq_true rfl) (Nat.le_of_ble_eq_true rfl) (by decide) rfl (Nat.le_of_ble_eq_true rfl) (Nat.le_refl _) (by show n1 - 0 ≤ 600000; omega) (by show sS n1 - sS 0 ≤ 7302249; omega) (hE2 r Y hQ) ?_
  rintro v Y2 ⟨rfl, hI⟩
  refine ev_icmpT (tgt := 1344) dL_law_1177 (by decide) (show r = r from rfl) ?_
  exact k n1 _ h3 h2 hI
set_option maxHeartbeats 1000000 in
theorem law_sheet {i : Nat} (hL : Ln ≤ 3072) (hi : i + 5 < Ln) (hn : 146 ≤ n) (hn2 : n ≤ 226) (hJ : JP g Iv mX11_sheet mX12_sheet [.int (xs (i + 1)), .int (xs (i + 2))] n X) (k : ∀ n1 X2, 146 ≤ n1 → n1 ≤ 226 → Iv n1 X2 → Lv g xs Ln n1 1344 [some (.ref 3000), some (.ref 0), some (.ref 133), some (.int (nI i))] [] X2) : Lv g xs Ln n 1182 [some (.ref 3000), some (.ref 0), some (.ref 133), some (.int (nI i))] [] X := by
  obtain ⟨n1, Q, h1, h2, h3, hE1, hE2⟩ := hJ
  have hs : sS n1 ≤ sS 226 := sS_mono h2
  rw [sS_226] at hs
  refine ev_aload_n dL_law_1182 rfl ?_
  refine ev_aload_n dL_law_1183 rfl ?_
  refine ev_iload_n dL_law_1184 rfl ?_
  refine ev_iconst (v := 1) dL_law_1185 ki_1 ?_
  refine ev_iadd dL_law_1186 ?_
  refine ev_sld (j := i + 1) dL_law_1187 (show nI i + nI 1 = nI (i + 1) from nI_add i 1) (by omega) hL ?_
  refine ev_aload_n dL_law_1188 rfl ?_
  refine ev_iload_n dL_law_1189 rfl ?_
  refine ev_iconst (v := 2) dL_law_1190 ki_2 ?_
  refine ev_iadd dL_law_1191 ?_
  refine ev_sld (j := i + 2) dL_law_1192 (show nI i + nI 2 = nI (i + 2) from nI_add i 2) (by omega) hL ?_
  refine ev_callV (as := [.int (xs (i + 1)), .int (xs (i + 2))]) (rest := []) dL_law_1193 vX11_sheet ml_22_153 isX11_sheet seX11_sheet npX11_sheet (rc_0 (by omega)) (Nat.le_of_ble_eq_true rfl) (Nat.le_of_ble_eq_true rfl) (by decide) rfl (Nat.le_of_ble_eq_true rfl) h1 (by show n1 - 0 ≤ 600000; omega) (by show sS n1 - sS 0 ≤ 7302249; omega) hE1 ?_
  rintro v Y ⟨r, rfl, hQ⟩
  refine ev_aload_n dL_law_1196 rfl ?_
  refine ev_aload_n dL_law_1197 rfl ?_
  refine ev_iload_n dL_law_1198 rfl ?_
  refine ev_iconst (v := 1) dL_law_1199 ki_1 ?_
  refine ev_iadd dL_law_1200 ?_
  refine ev_sld (j := i + 1) dL_law_1201 (show nI i + nI 1 = nI (i + 1) from nI_add i 1) (by omega) hL ?_
  refine ev_aload_n dL_law_1202 rfl ?_
  refine ev_iload_n dL_law_1203 rfl ?_
  refine ev_iconst (v := 2) dL_law_1204 ki_2 ?_
  refine ev_iadd dL_law_1205 ?_
  refine ev_sld (j := i + 2) dL_law_1206 (show nI i + nI 2 = nI (i + 2) from nI_add i 2) (by omega) hL ?_
  refine ev_callV (as := [.int (xs (i + 1)), .int (xs (i + 2))]) (rest := [.int r]) dL_law_1207 vX12_sheet ml_22_156 isX12_sheet seX12_sheet npX12_sheet (rc_133 (by omega)) (Nat.le_of_ble_eq_true rfl) (Nat.le_of_ble_eq_true rfl) (by decide) rfl (Nat.le_of_ble_eq_true rfl) (Nat.le_refl _) (by show n1 - 0 ≤ 600000; omega) (by show sS n1 - sS 0 ≤ 7302249; omega) (hE2 r Y hQ) ?_
  rintro v Y2 ⟨rfl, hI⟩
  refine ev_icmpT (tgt := 1344) dL_law_1210 (by decide) (show r = r from rfl) ?_
  exact k n1 _ h3 h2 hI
set_option maxHeartbeats 1000000 in
theorem law_mark {i : Nat} (hL : Ln ≤ 3072) (hi : i + 5 < Ln) (hn : 146 ≤ n) (hn2 : n ≤ 226) (hJ : JP g Iv mX11_mark mX12_mark [.int (xs (i + 1)), .int (xs (i + 2)), .int (xs (i + 3))] n X) (k : ∀ n1 X2, 146 ≤ n1 → n1 ≤ 226 → Iv n1 X2 → Lv g xs Ln n1 1344 [some (.ref 3000), some (.ref 0), some (.ref 133), some (.int (nI i))] [] X2) : Lv g xs Ln n 1215 [some (.ref 3000), some (.ref 0), some (.ref 133), some (.int (nI i))] [] X := by
  obtain ⟨n1, Q, h1, h2, h3, hE1, hE2⟩ := hJ
  have hs : sS n1 ≤ sS 226 := sS_mono h2
  rw [sS_226] at hs
  refine ev_aload_n dL_law_1215 rfl ?_
  refine ev_aload_n dL_law_1216 rfl ?_
  refine ev_iload_n dL_law_1217 rfl ?_
  refine ev_iconst (v := 1) dL_law_1218 ki_1 ?_
  refine ev_iadd dL_law_1219 ?_
  refine ev_sld (j := i + 1) dL_law_1220 (show nI i + nI 1 = nI (i + 1) from nI_add i 1) (by omega) hL ?_
  refine ev_aload_n dL_law_1221 rfl ?_
  refine ev_iload_n dL_law_1222 rfl ?_
  refine ev_iconst (v := 2) dL_law_1223 ki_2 ?_
  refine ev_iadd dL_law_1224 ?_
  refine ev_sld (j := i + 2) dL_law_1225 (show nI i + nI 2 = nI (i + 2) from nI_add i 2) (by omega) hL ?_
  refine ev_aload_n dL_law_1226 rfl ?_
  refine ev_iload_n dL_law_1227 rfl ?_
  refine ev_iconst (v := 3) dL_law_1228 ki_3 ?_
  refine ev_iadd dL_law_1229 ?_
  refine ev_sld (j := i + 3) dL_law_1230 (show nI i + nI 3 = nI (i + 3) from nI_add i 3) (by omega) hL ?_
  refine ev_callV (as := [.int (xs (i + 1)), .int (xs (i + 2)), .int (xs (i + 3))]) (rest := []) dL_law_1231 vX11_mark ml_22_157 isX11_mark seX11_mark npX11_mark (rc_0 (by omega)) (Nat.le_of_ble_eq_true rfl) (Nat.le_of_ble_eq_true rfl) (by decide) rfl (Nat.le_of_ble_eq_true rfl) h1 (by show n1 - 0 ≤ 600000; omega) (by show sS n1 - sS 0 ≤ 7302249; omega) hE1 ?_
  rintro v Y ⟨r, rfl, hQ⟩
  refine ev_aload_n dL_law_1234 rfl ?_
  refine ev_aload_n dL_law_1235 rfl ?_
  refine ev_iload_n dL_law_1236 rfl ?_
  refine ev_iconst (v := 1) dL_law_1237 ki_1 ?_
  refine ev_iadd dL_law_1238 ?_
  refine ev_sld (j := i + 1) dL_law_1239 (show nI i + nI 1 = nI (i + 1) from nI_add i 1) (by omega) hL ?_
  refine ev_aload_n dL_law_1240 rfl ?_
  refine ev_iload_n dL_law_1241 rfl ?_
  refine ev_iconst (v := 2) dL_law_1242 ki_2 ?_
  refine ev_iadd dL_law_1243 ?_
  refine ev_sld (j := i + 2) dL_law_1244 (show nI i + nI 2 = nI (i + 2) from nI_add i 2) (by omega) hL ?_
  refine ev_aload_n dL_law_1245 rfl ?_
  refine ev_iload_n dL_law_1246 rfl ?_
  refine ev_iconst (v := 3) dL_law_1247 ki_3 ?_
  refine ev_iadd dL_law_1248 ?_
  refine ev_sld (j := i + 3) dL_law_1249 (show nI i + nI 3 = nI (i + 3) from nI_add i 3) (by omega) hL ?_
  refine ev_callV (as := [.int (xs (i + 1)), .int (xs (i + 2)), .int (xs (i + 3))]) (rest := [.int r]) dL_law_1250 vX12_mark ml_22_160 isX12_mark seX12_mark npX12_mark (rc_133 (by omega)) (Nat.le_of_ble_eq_true rfl) (Nat.le_of_ble_eq_true rfl) (by decide) rfl (Nat.le_of_ble_eq_true rfl) (Nat.le_refl _) (by show n1 - 0 ≤ 600000; omega) (by show sS n1 - sS 0 ≤ 7302249; omega) (hE2 r Y hQ) ?_
  rintro v Y2 ⟨rfl, hI⟩
  refine ev_icmpT (tgt := 1344) dL_law_1253 (by decide) (show r = r from rfl) ?_
  exact k n1 _ h3 h2 hI
set_option maxHeartbeats 1000000 in
theorem law_copy {i : Nat} (hL : Ln ≤ 3072) (hi : i + 5 < Ln) (hn : 146 ≤ n) (hn2 : n ≤ 226) (hJ : JP g Iv mX11_copy mX12_copy [.int (xs (i + 1)), .int (xs (i + 2)), .int (xs (i + 3)), .int (xs (i + 4)), .int (xs (i + 5))] n X) (k : ∀ n1 X2, 146 ≤ n1 → n1 ≤ 226 → Iv n1 X2 → Lv g xs Ln n1 1344 [some (.ref 3000), some (.ref 0), some (.ref 133), some (.int (nI i))] [] X2) : Lv g xs Ln n 1258 [some (.ref 3000), some (.ref 0), some (.ref 133), some (.int (nI i))] [] X := by
  obtain ⟨n1, Q, h1, h2, h3, hE1, hE2⟩ := hJ
  have hs : sS n1 ≤ sS 226 := sS_mono h2
  rw [sS_226] at hs
  refine ev_aload_n dL_law_1258 rfl ?_
  refine ev_aload_n dL_law_1259 rfl ?_
  refine ev_iload_n dL_law_1260 rfl ?_
  refine ev_iconst (v := 1) dL_law_1261 ki_1 ?_
  refine ev_iadd dL_law_1262 ?_
  refine ev_sld (j := i + 1) dL_law_1263 (show nI i + nI 1 = nI (i + 1) from nI_add i 1) (by omega) hL ?_
  refine ev_aload_n dL_law_1264 rfl ?_
  refine ev_iload_n dL_law_1265 rfl ?_
  refine ev_iconst (v := 2) dL_law_1266 ki_2 ?_
  refine ev_iadd dL_law_1267 ?_
  refine ev_sld (j := i + 2) dL_law_1268 (show nI i + nI 2 = nI (i + 2) from nI_add i 2) (by omega) hL ?_
  refine ev_aload_n dL_law_1269 rfl ?_
  refine ev_iload_n dL_law_1270 rfl ?_
  refine ev_iconst (v := 3) dL_law_1271 ki_3 ?_
  refine ev_iadd dL_law_1272 ?_
  refine ev_sld (j := i + 3) dL_law_1273 (show nI i + nI 3 = nI (i + 3) from nI_add i 3) (by omega) hL ?_
  refine ev_aload_n dL_law_1274 rfl ?_
  refine ev_iload_n dL_law_1275 rfl ?_
  refine ev_iconst (v := 4) dL_law_1276 ki_4 ?_
  refine ev_iadd dL_law_1277 ?_
  refine ev_sld (j := i + 4) dL_law_1278 (show nI i + nI 4 = nI (i + 4) from nI_add i 4) (by omega) hL ?_
  refine ev_aload_n dL_law_1279 rfl ?_
  refine ev_iload_n dL_law_1280 rfl ?_
  refine ev_iconst (v := 5) dL_law_1281 ki_5 ?_
  refine ev_iadd dL_law_1282 ?_
  refine ev_sld (j := i + 5) dL_law_1283 (show nI i + nI 5 = nI (i + 5) from nI_add i 5) (by omega) hL ?_
  refine ev_callV (as := [.int (xs (i + 1)), .int (xs (i + 2)), .int (xs (i + 3)), .int (xs (i + 4)), .int (xs (i + 5))]) (rest := []) dL_law_1284 vX11_copy ml_22_161 isX11_copy seX11_copy npX11_copy (rc_0 (by omega)) (Nat.le_of_ble_eq_true rfl) (Nat.le_of_ble_eq_true rfl) (by decide) rfl (Nat.le_of_ble_eq_true rfl) h1 (by show n1 - 0 ≤ 600000; omega) (by show sS n1 - sS 0 ≤ 7302249; omega) hE1 ?_
  rintro v Y ⟨r, rfl, hQ⟩
  refine ev_aload_n dL_law_1287 rfl ?_
  refine ev_aload_n dL_law_1288 rfl ?_
  refine ev_iload_n dL_law_1289 rfl ?_
  refine ev_iconst (v := 1) dL_law_1290 ki_1 ?_
  refine ev_iadd dL_law_1291 ?_
  refine ev_sld (j := i + 1) dL_law_1292 (show nI i + nI 1 = nI (i + 1) from nI_add i 1) (by omega) hL ?_
  refine ev_aload_n dL_law_1293 rfl ?_
  refine ev_iload_n dL_law_1294 rfl ?_
  refine ev_iconst (v := 2) dL_law_1295 ki_2 ?_
  refine ev_iadd dL_law_1296 ?_
  refine ev_sld (j := i + 2) dL_law_1297 (show nI i + nI 2 = nI (i + 2) from nI_add i 2) (by omega) hL ?_
  refine ev_aload_n dL_law_1298 rfl ?_
  refine ev_iload_n dL_law_1299 rfl ?_
  refine ev_iconst (v := 3) dL_law_1300 ki_3 ?_
  refine ev_iadd dL_law_1301 ?_
  refine ev_sld (j := i + 3) dL_law_1302 (show nI i + nI 3 = nI (i + 3) from nI_add i 3) (by omega) hL ?_
  refine ev_aload_n dL_law_1303 rfl ?_
  refine ev_iload_n dL_law_1304 rfl ?_
  refine ev_iconst (v := 4) dL_law_1305 ki_4 ?_
  refine ev_iadd dL_law_1306 ?_
  refine ev_sld (j := i + 4) dL_law_1307 (show nI i + nI 4 = nI (i + 4) from nI_add i 4) (by omega) hL ?_
  refine ev_aload_n dL_law_1308 rfl ?_
  refine ev_iload_n dL_law_1309 rfl ?_
  refine ev_iconst (v := 5) dL_law_1310 ki_5 ?_
  refine ev_iadd dL_law_1311 ?_
  refine ev_sld (j := i + 5) dL_law_1312 (show nI i + nI 5 = nI (i + 5) from nI_add i 5) (by omega) hL ?_
  refine ev_callV (as := [.int (xs (i + 1)), .int (xs (i + 2)), .int (xs (i + 3)), .int (xs (i + 4)), .int (xs (i + 5))]) (rest := [.int r]) dL_law_1313 vX12_copy ml_22_165 isX12_copy seX12_copy npX12_copy (rc_133 (by omega)) (Nat.le_of_ble_eq_true rfl) (Nat.le_of_ble_eq_true rfl) (by decide) rfl (Nat.le_of_ble_eq_true rfl) (Nat.le_refl _) (by show n1 - 0 ≤ 600000; omega) (by show sS n1 - sS 0 ≤ 7302249; omega) (hE2 r Y hQ) ?_
  rintro v Y2 ⟨rfl, hI⟩
  refine ev_icmpT (tgt := 1344) dL_law_1316 (by decide) (show r = r from rfl) ?_
  exact k n1 _ h3 h2 hI
set_option maxHeartbeats 1000000 in
theorem law_count {i : Nat} (hL : Ln ≤ 3072) (hi : i + 5 < Ln) (hn : 146 ≤ n) (hn2 : n ≤ 226) (hJ : JP g Iv mX11_count mX12_count [.int (xs (i + 1))] n X) (k : ∀ n1 X2, 146 ≤ n1 → n1 ≤ 226 → Iv n1 X2 → Lv g xs Ln n1 1344 [some (.ref 3000), some (.ref 0), some (.ref 133), some (.int (nI i))] [] X2) : Lv g xs Ln n 1321 [some (.ref 3000), some (.ref 0), some (.ref 133), some (.int (nI i))] [] X := by
  obtain ⟨n1, Q, h1, h2, h3, hE1, hE2⟩ := hJ
  have hs : sS n1 ≤ sS 226 := sS_mono h2
  rw [sS_226] at hs
  refine ev_aload_n dL_law_1321 rfl ?_
  refine ev_aload_n dL_law_1322 rfl ?_
  refine ev_iload_n dL_law_1323 rfl ?_
  refine ev_iconst (v := 1) dL_law_1324 ki_1 ?_
  refine ev_iadd dL_law_1325 ?_
  refine ev_sld (j := i + 1) dL_law_1326 (show nI i + nI 1 = nI (i + 1) from nI_add i 1) (by omega) hL ?_
  refine ev_callV (as := [.int (xs (i + 1))]) (rest := []) dL_law_1327 vX11_count ml_22_166 isX11_count seX11_count npX11_count (rc_0 (by omega)) (Nat.le_of_ble_eq_true rfl) (Nat.le_of_ble_eq_true rfl) (by decide) rfl (Nat.le_of_ble_eq_true rfl) h1 (by show n1 - 0 ≤ 600000; omega) (by show sS n1 - sS 0 ≤ 7302249; omega) hE1 ?_
  rintro v Y ⟨r, rfl, hQ⟩
  refine ev_aload_n dL_law_1330 rfl ?_
  refine ev_aload_n dL_law_1331 rfl ?_
  refine ev_iload_n dL_law_1332 rfl ?_
  refine ev_iconst (v := 1) dL_law_1333 ki_1 ?_
  refine ev_iadd dL_law_1334 ?_
  refine ev_sld (j := i + 1) dL_law_1335 (show nI i + nI 1 = nI (i + 1) from nI_add i 1) (by omega) hL ?_
  refine ev_callV (as := [.int (xs (i + 1))]) (rest := [.int r]) dL_law_1336 vX12_count ml_22_169 isX12_count seX12_count npX12_count (rc_133 (by omega)) (Nat.le_of_ble_eq_true rfl) (Nat.le_of_ble_eq_true rfl) (by decide) rfl (Nat.le_of_ble_eq_true rfl) (Nat.le_refl _) (by show n1 - 0 ≤ 600000; omega) (by show sS n1 - sS 0 ≤ 7302249; omega) (hE2 r Y hQ) ?_
  rintro v Y2 ⟨rfl, hI⟩
  refine ev_icmpT (tgt := 1344) dL_law_1339 (by decide) (show r = r from rfl) ?_
  exact k n1 _ h3 h2 hI
def JAll (g : GG) (Iv : Nat → LX → Prop) (xs : Nat → Int32) : Prop := (∀ (n : Nat) (X : LX) (i : Nat), 146 ≤ n → n ≤ 226 → Iv n X → JP g Iv mX11_part mX12_part [.int (xs (i + 1)), .int (xs (i + 2)), .int (xs (i + 3))] n X) ∧ (∀ (n : Nat) (X : LX) (i : Nat), 146 ≤ n → n ≤ 226 → Iv n X → JP g Iv mX11_unlike mX12_unlike [.int (xs (i + 1)), .int (xs (i + 2)), .int (xs (i + 3))] n X) ∧ (∀ (n : Nat) (X : LX) (i : Nat), 146 ≤ n → n ≤ 226 → Iv n X → JP g Iv mX11_meal mX12_meal [.int (xs (i + 1)), .int (xs (i + 2))] n X) ∧ (∀ (n : Nat) (X : LX) (i : Nat), 146 ≤ n → n ≤ 226 → Iv n X → JP g Iv mX11_isOf mX12_isOf [.int (xs (i + 1)), .int (xs (i + 2))] n X) ∧ (∀ (n : Nat) (X : LX) (i : Nat), 146 ≤ n → n ≤ 226 → Iv n X → JP g Iv mX11_with mX12_with [.int (xs (i + 1)), .int (xs (i + 2)), .int (xs (i + 3))] n X) ∧ (∀ (n : Nat) (X : LX) (i : Nat), 146 ≤ n → n ≤ 226 → Iv n X → JP g Iv mX11_about mX12_about [.int (xs (i + 1)), .int (xs (i + 2))] n X) ∧ (∀ (n : Nat) (X : LX) (i : Nat), 146 ≤ n → n ≤ 226 → Iv n X → JP g Iv mX11_family mX12_family [.int (xs (i + 1)), .int (xs (i + 2))] n X) ∧ (∀ (n : Nat) (X : LX) (i : Nat), 146 ≤ n → n ≤ 226 → Iv n X → JP g Iv mX11_likes mX12_likes [.int (xs (i + 1)), .int (xs (i + 2)), .int (xs (i + 3))] n X) ∧ (∀ (n : Nat) (X : LX) (i : Nat), 146 ≤ n → n ≤ 226 → Iv n X → JP g Iv mX11_lay mX12_lay [.int (xs (i + 1)), .int (xs (i + 2))] n X) ∧ (∀ (n : Nat) (X : LX) (i : Nat), 146 ≤ n → n ≤ 226 → Iv n X → JP g Iv mX11_may mX12_may [.int (xs (i + 1)), .int (xs (i + 2))] n X) ∧ (∀ (n : Nat) (X : LX) (i : Nat), 146 ≤ n → n ≤ 226 → Iv n X → JP g Iv mX11_choose mX12_choose [.int (xs (i + 1)), .int (xs (i + 2))] n X) ∧ (∀ (n : Nat) (X : LX) (i : Nat), 146 ≤ n → n ≤ 226 → Iv n X → JP g Iv mX11_box mX12_box [.int (xs (i + 1)), .int (xs (i + 2))] n X) ∧ (∀ (n : Nat) (X : LX) (i : Nat), 146 ≤ n → n ≤ 226 → Iv n X → JP g Iv mX11_ice mX12_ice [.int (xs (i + 1))] n X) ∧ (∀ (n : Nat) (X : LX) (i : Nat), 146 ≤ n → n ≤ 226 → Iv n X → JP g Iv mX11_feed mX12_feed [.int (xs (i + 1)), .int (xs (i + 2)), .int (xs (i + 3))] n X) ∧ (∀ (n : Nat) (X : LX) (i : Nat), 146 ≤ n → n ≤ 226 → Iv n X → JP g Iv mX11_trim mX12_trim [.int (xs (i + 1))] n X) ∧ (∀ (n : Nat) (X : LX) (i : Nat), 146 ≤ n → n ≤ 226 → Iv n X → JP g Iv mX11_law mX12_law [] n X) ∧ (∀ (n : Nat) (X : LX) (i : Nat), 146 ≤ n → n ≤ 226 → Iv n X → JP g Iv mX11_heat mX12_heat [.int (xs (i + 1))] n X) ∧ (∀ (n : Nat) (X : LX) (i : Nat), 146 ≤ n → n ≤ 226 → Iv n X → JP g Iv mX11_menu mX12_menu [.int (xs (i + 1))] n X) ∧ (∀ (n : Nat) (X : LX) (i : Nat), 146 ≤ n → n ≤ 226 → Iv n X → JP g Iv mX11_best mX12_best [.int (xs (i + 1)), .int (xs (i + 2))] n X) ∧ (∀ (n : Nat) (X : LX) (i : Nat), 146 ≤ n → n ≤ 226 → Iv n X → JP g Iv mX11_kept mX12_kept [.int (xs (i + 1))] n X) ∧ (∀ (n : Nat) (X : LX) (i : Nat), 146 ≤ n → n ≤ 226 → Iv n X → JP g Iv mX11_lot mX12_lot [.int (xs (i + 1)), .int (xs (i + 2))] n X) ∧ (∀ (n : Nat) (X : LX) (i : Nat), 146 ≤ n → n ≤ 226 → Iv n X → JP g Iv mX11_told mX12_told [.int (xs (i + 1)), .int (xs (i + 2))] n X) ∧ (∀ (n : Nat) (X : LX) (i : Nat), 146 ≤ n → n ≤ 226 → Iv n X → JP g Iv mX11_stock mX12_stock [.int (xs (i + 1)), .int (xs (i + 2))] n X) ∧ (∀ (n : Nat) (X : LX) (i : Nat), 146 ≤ n → n ≤ 226 → Iv n X → JP g Iv mX11_plan mX12_plan [.int (xs (i + 1))] n X) ∧ (∀ (n : Nat) (X : LX) (i : Nat), 146 ≤ n → n ≤ 226 → Iv n X → JP g Iv mX11_swap mX12_swap [.int (xs (i + 1)), .int (xs (i + 2))] n X) ∧ (∀ (n : Nat) (X : LX) (i : Nat), 146 ≤ n → n ≤ 226 → Iv n X → JP g Iv mX11_pack mX12_pack [.int (xs (i + 1))] n X) ∧ (∀ (n : Nat) (X : LX) (i : Nat), 146 ≤ n → n ≤ 226 → Iv n X → JP g Iv mX11_recall mX12_recall [.int (xs (i + 1))] n X) ∧ (∀ (n : Nat) (X : LX) (i : Nat), 146 ≤ n → n ≤ 226 → Iv n X → JP g Iv mX11_end mX12_end [] n X) ∧ (∀ (n : Nat) (X : LX) (i : Nat), 146 ≤ n → n ≤ 226 → Iv n X → JP g Iv mX11_shifts mX12_shifts [.int (xs (i + 1))] n X) ∧ (∀ (n : Nat) (X : LX) (i : Nat), 146 ≤ n → n ≤ 226 → Iv n X → JP g Iv mX11_picks mX12_picks [.int (xs (i + 1)), .int (xs (i + 2)), .int (xs (i + 3))] n X) ∧ (∀ (n : Nat) (X : LX) (i : Nat), 146 ≤ n → n ≤ 226 → Iv n X → JP g Iv mX11_tell mX12_tell [.int (xs (i + 1))] n X) ∧ (∀ (n : Nat) (X : LX) (i : Nat), 146 ≤ n → n ≤ 226 → Iv n X → JP g Iv mX11_check mX12_check [] n X) ∧ (∀ (n : Nat) (X : LX) (i : Nat), 146 ≤ n → n ≤ 226 → Iv n X → JP g Iv mX11_keep mX12_keep [] n X) ∧ (∀ (n : Nat) (X : LX) (i : Nat), 146 ≤ n → n ≤ 226 → Iv n X → JP g Iv mX11_back mX12_back [] n X) ∧ (∀ (n : Nat) (X : LX) (i : Nat), 146 ≤ n → n ≤ 226 → Iv n X → JP g Iv mX11_sheet mX12_sheet [.int (xs (i + 1)), .int (xs (i + 2))] n X) ∧ (∀ (n : Nat) (X : LX) (i : Nat), 146 ≤ n → n ≤ 226 → Iv n X → JP g Iv mX11_mark mX12_mark [.int (xs (i + 1)), .int (xs (i + 2)), .int (xs (i + 3))] n X) ∧ (∀ (n : Nat) (X : LX) (i : Nat), 146 ≤ n → n ≤ 226 → Iv n X → JP g Iv mX11_copy mX12_copy [.int (xs (i + 1)), .int (xs (i + 2)), .int (xs (i + 3)), .int (xs (i + 4)), .int (xs (i + 5))] n X) ∧ (∀ (n : Nat) (X : LX) (i : Nat), 146 ≤ n → n ≤ 226 → Iv n X → JP g Iv mX11_count mX12_count [.int (xs (i + 1))] n X)
set_option maxHeartbeats 4000000 in
theorem law_step {i : Nat} (hL : Ln ≤ 3072) (hi : i + 5 < Ln) (hn : 146 ≤ n) (hn2 : n ≤ 226) (hI : Iv n X) (hJ : JAll g Iv xs) (k : ∀ n1 X2, 146 ≤ n1 → n1 ≤ 226 → Iv n1 X2 → Lv g xs Ln n1 1344 [some (.ref 3000), some (.ref 0), some (.ref 133), some (.int (nI i))] [] X2) : Lv g xs Ln n 27 [some (.ref 3000), some (.ref 0), some (.ref 133), some (.int (nI i))] [] X := by
  refine ev_aload_n dL_law_27 rfl ?_
  refine ev_iload_n dL_law_28 rfl ?_
  refine ev_sld (j := i) dL_law_29 rfl (by omega) hL ?_
  refine ev_bipush (v := 63) dL_law_30 kb_63 ?_
  refine ev_iand dL_law_32 ?_
  obtain ⟨q, hq, e⟩ := pk_andE (xs i) (m := 63) 6 (by decide)
  rw [e]
  obtain ⟨h0, h1, h2, h3, h4, h5, h6, h7, h8, h9, h10, h11, h12, h13, h14, h15, h16, h17, h18, h19, h20, h21, h22, h23, h24, h25, h26, h27, h28, h29, h30, h31, h32, h33, h34, h35, h36, h37⟩ := hJ
  rcases Nat.lt_or_ge q 38 with h | h
  · rcases (show q = 0 ∨ q = 1 ∨ q = 2 ∨ q = 3 ∨ q = 4 ∨ q = 5 ∨ q = 6 ∨ q = 7 ∨ q = 8 ∨ q = 9 ∨ q = 10 ∨ q = 11 ∨ q = 12 ∨ q = 13 ∨ q = 14 ∨ q = 15 ∨ q = 16 ∨ q = 17 ∨ q = 18 ∨ q = 19 ∨ q = 20 ∨ q = 21 ∨ q = 22 ∨ q = 23 ∨ q = 24 ∨ q = 25 ∨ q = 26 ∨ q = 27 ∨ q = 28 ∨ q = 29 ∨ q = 30 ∨ q = 31 ∨ q = 32 ∨ q = 33 ∨ q = 34 ∨ q = 35 ∨ q = 36 ∨ q = 37 by omega) with e0 | e0 | e0 | e0 | e0 | e0 | e0 | e0 | e0 | e0 | e0 | e0 | e0 | e0 | e0 | e0 | e0 | e0 | e0 | e0 | e0 | e0 | e0 | e0 | e0 | e0 | e0 | e0 | e0 | e0 | e0 | e0 | e0 | e0 | e0 | e0 | e0 | e0 <;> subst e0
    · exact ev_tabI (tgt := 200) (off := 167) dL_law_33 (by decide) (by decide) (by decide +kernel) (by decide) (law_part hL hi hn hn2 (h0 n X i hn hn2 hI) k)
    · exact ev_tabI (tgt := 243) (off := 210) dL_law_33 (by decide) (by decide) (by decide +kernel) (by decide) (law_unlike hL hi hn hn2 (h1 n X i hn hn2 hI) k)
    · exact ev_tabI (tgt := 286) (off := 253) dL_law_33 (by decide) (by decide) (by decide +kernel) (by decide) (law_meal hL hi hn hn2 (h2 n X i hn hn2 hI) k)
    · exact ev_tabI (tgt := 319) (off := 286) dL_law_33 (by decide) (by decide) (by decide +kernel) (by decide) (law_isOf hL hi hn hn2 (h3 n X i hn hn2 hI) k)
    · exact ev_tabI (tgt := 352) (off := 319) dL_law_33 (by decide) (by decide) (by decide +kernel) (by decide) (law_with hL hi hn hn2 (h4 n X i hn hn2 hI) k)
    · exact ev_tabI (tgt := 395) (off := 362) dL_law_33 (by decide) (by decide) (by decide +kernel) (by decide) (law_about hL hi hn hn2 (h5 n X i hn hn2 hI) k)
    · exact ev_tabI (tgt := 428) (off := 395) dL_law_33 (by decide) (by decide) (by decide +kernel) (by decide) (law_family hL hi hn hn2 (h6 n X i hn hn2 hI) k)
    · exact ev_tabI (tgt := 461) (off := 428) dL_law_33 (by decide) (by decide) (by decide +kernel) (by decide) (law_likes hL hi hn hn2 (h7 n X i hn hn2 hI) k)
    · exact ev_tabI (tgt := 504) (off := 471) dL_law_33 (by decide) (by decide) (by decide +kernel) (by decide) (law_lay hL hi hn hn2 (h8 n X i hn hn2 hI) k)
    · exact ev_tabI (tgt := 537) (off := 504) dL_law_33 (by decide) (by decide) (by decide +kernel) (by decide) (law_may hL hi hn hn2 (h9 n X i hn hn2 hI) k)
    · exact ev_tabI (tgt := 570) (off := 537) dL_law_33 (by decide) (by decide) (by decide +kernel) (by decide) (law_choose hL hi hn hn2 (h10 n X i hn hn2 hI) k)
    · exact ev_tabI (tgt := 603) (off := 570) dL_law_33 (by decide) (by decide) (by decide +kernel) (by decide) (law_box hL hi hn hn2 (h11 n X i hn hn2 hI) k)
    · exact ev_tabI (tgt := 636) (off := 603) dL_law_33 (by decide) (by decide) (by decide +kernel) (by decide) (law_ice hL hi hn hn2 (h12 n X i hn hn2 hI) k)
    · exact ev_tabI (tgt := 659) (off := 626) dL_law_33 (by decide) (by decide) (by decide +kernel) (by decide) (law_feed hL hi hn hn2 (h13 n X i hn hn2 hI) k)
    · exact ev_tabI (tgt := 702) (off := 669) dL_law_33 (by decide) (by decide) (by decide +kernel) (by decide) (law_trim hL hi hn hn2 (h14 n X i hn hn2 hI) k)
    · exact ev_tabI (tgt := 725) (off := 692) dL_law_33 (by decide) (by decide) (by decide +kernel) (by decide) (law_law hL hi hn hn2 (h15 n X i hn hn2 hI) k)
    · exact ev_tabI (tgt := 738) (off := 705) dL_law_33 (by decide) (by decide) (by decide +kernel) (by decide) (law_heat hL hi hn hn2 (h16 n X i hn hn2 hI) k)
    · exact ev_tabI (tgt := 761) (off := 728) dL_law_33 (by decide) (by decide) (by decide +kernel) (by decide) (law_menu hL hi hn hn2 (h17 n X i hn hn2 hI) k)
    · exact ev_tabI (tgt := 784) (off := 751) dL_law_33 (by decide) (by decide) (by decide +kernel) (by decide) (law_best hL hi hn hn2 (h18 n X i hn hn2 hI) k)
    · exact ev_tabI (tgt := 817) (off := 784) dL_law_33 (by decide) (by decide) (by decide +kernel) (by decide) (law_kept hL hi hn hn2 (h19 n X i hn hn2 hI) k)
    · exact ev_tabI (tgt := 840) (off := 807) dL_law_33 (by decide) (by decide) (by decide +kernel) (by decide) (law_lot hL hi hn hn2 (h20 n X i hn hn2 hI) k)
    · exact ev_tabI (tgt := 873) (off := 840) dL_law_33 (by decide) (by decide) (by decide +kernel) (by decide) (law_told hL hi hn hn2 (h21 n X i hn hn2 hI) k)
    · exact ev_tabI (tgt := 906) (off := 873) dL_law_33 (by decide) (by decide) (by decide +kernel) (by decide) (law_stock hL hi hn hn2 (h22 n X i hn hn2 hI) k)
    · exact ev_tabI (tgt := 939) (off := 906) dL_law_33 (by decide) (by decide) (by decide +kernel) (by decide) (law_plan hL hi hn hn2 (h23 n X i hn hn2 hI) k)
    · exact ev_tabI (tgt := 962) (off := 929) dL_law_33 (by decide) (by decide) (by decide +kernel) (by decide) (law_swap hL hi hn hn2 (h24 n X i hn hn2 hI) k)
    · exact ev_tabI (tgt := 995) (off := 962) dL_law_33 (by decide) (by decide) (by decide +kernel) (by decide) (law_pack hL hi hn hn2 (h25 n X i hn hn2 hI) k)
    · exact ev_tabI (tgt := 1018) (off := 985) dL_law_33 (by decide) (by decide) (by decide +kernel) (by decide) (law_recall hL hi hn hn2 (h26 n X i hn hn2 hI) k)
    · exact ev_tabI (tgt := 1041) (off := 1008) dL_law_33 (by decide) (by decide) (by decide +kernel) (by decide) (law_end hL hi hn hn2 (h27 n X i hn hn2 hI) k)
    · exact ev_tabI (tgt := 1054) (off := 1021) dL_law_33 (by decide) (by decide) (by decide +kernel) (by decide) (law_shifts hL hi hn hn2 (h28 n X i hn hn2 hI) k)
    · exact ev_tabI (tgt := 1077) (off := 1044) dL_law_33 (by decide) (by decide) (by decide +kernel) (by decide) (law_picks hL hi hn hn2 (h29 n X i hn hn2 hI) k)
    · exact ev_tabI (tgt := 1120) (off := 1087) dL_law_33 (by decide) (by decide) (by decide +kernel) (by decide) (law_tell hL hi hn hn2 (h30 n X i hn hn2 hI) k)
    · exact ev_tabI (tgt := 1143) (off := 1110) dL_law_33 (by decide) (by decide) (by decide +kernel) (by decide) (law_check hL hi hn hn2 (h31 n X i hn hn2 hI) k)
    · exact ev_tabI (tgt := 1156) (off := 1123) dL_law_33 (by decide) (by decide) (by decide +kernel) (by decide) (law_keep hL hi hn hn2 (h32 n X i hn hn2 hI) k)
    · exact ev_tabI (tgt := 1169) (off := 1136) dL_law_33 (by decide) (by decide) (by decide +kernel) (by decide) (law_back hL hi hn hn2 (h33 n X i hn hn2 hI) k)
    · exact ev_tabI (tgt := 1182) (off := 1149) dL_law_33 (by decide) (by decide) (by decide +kernel) (by decide) (law_sheet hL hi hn hn2 (h34 n X i hn hn2 hI) k)
    · exact ev_tabI (tgt := 1215) (off := 1182) dL_law_33 (by decide) (by decide) (by decide +kernel) (by decide) (law_mark hL hi hn hn2 (h35 n X i hn hn2 hI) k)
    · exact ev_tabI (tgt := 1258) (off := 1225) dL_law_33 (by decide) (by decide) (by decide +kernel) (by decide) (law_copy hL hi hn hn2 (h36 n X i hn hn2 hI) k)
    · exact ev_tabI (tgt := 1321) (off := 1288) dL_law_33 (by decide) (by decide) (by decide +kernel) (by decide) (law_count hL hi hn hn2 (h37 n X i hn hn2 hI) k)
  · exact ev_tabO (tgt := 1344) dL_law_33 (Or.inr (by rw [nI_toInt (by omega)]; omega)) (by decide) (k n X hn hn2 hI)
theorem law_fin {L : List (Option Value)} (hn2 : n ≤ 226) : Lv g xs Ln n 1350 L [] X := by
  refine ev_iconst (v := 1) dL_law_1350 ki_1 ?_
  intro p e s m args below meth c C hPs hle H locs ls hW hS hl
  refine va_forget (fun q hq => by rw [← hPs.2.2]; exact hS.2.2 q hq) ?_
  have hs : sS n ≤ sS 226 := sS_mono hn2
  rw [sS_226] at hs
  refine W.widen (k := 600000) (n := 7302249) (by omega) (by show sS n - sS 0 ≤ 7302249; omega) ?_
  exact lw_ret C.1 C.2.1 C.2.2.2.1 C.2.2.2.2.1 dL_law_1351
/-- the law's loop, to its end -/
theorem law_loop (hL : Ln ≤ 3072) (hJ : JAll g Iv xs) : ∀ (t i n : Nat) (X : LX), Ln - i ≤ t → i ≤ Ln + 6 → 146 ≤ n → n ≤ 226 → Iv n X → Lv g xs Ln n 18 [some (.ref 3000), some (.ref 0), some (.ref 133), some (.int (nI i))] [] X := by
  intro t
  induction t with
  | zero =>
    intro i n X ht hi hn hn2 hI
    refine ev_iload_n dL_law_18 rfl ?_
    refine ev_aload_n dL_law_19 rfl ?_
    refine ev_slen dL_law_20 ?_
    refine ev_bipush (v := 6) dL_law_21 kb_6 ?_
    refine ev_isub dL_law_23 ?_
    exact ev_icmpT (tgt := 1350) dL_law_24 (by decide) (show nI Ln - nI 6 < nI i by rw [Int32.lt_iff_toInt_lt, pk_sub_toInt (by omega) (by omega), nI_toInt (by omega)]; omega) (law_fin hn2)
  | succ t ih =>
    intro i n X ht hi hn hn2 hI
    refine ev_iload_n dL_law_18 rfl ?_
    refine ev_aload_n dL_law_19 rfl ?_
    refine ev_slen dL_law_20 ?_
    refine ev_bipush (v := 6) dL_law_21 kb_6 ?_
    refine ev_isub dL_law_23 ?_
    rcases Nat.lt_or_ge (i + 5) Ln with h | h
    · refine ev_icmpF (tgt := 1350) dL_law_24 (by decide) (show ¬ nI Ln - nI 6 < nI i by rw [Int32.lt_iff_toInt_lt, pk_sub_toInt (by omega) (by omega), nI_toInt (by omega)]; omega) ?_
      refine law_step hL h hn hn2 hI hJ (fun n1 X2 g1 g2 hI2 => ?_)
      refine ev_iinc (v := nI (i + 6)) dL_law_1344 rfl (by rw [show Int32.ofInt 6 = nI 6 from rfl, nI_add]) (by decide) ?_
      refine ev_goto (tgt := 18) dL_law_1347 (by decide) ?_
      exact ih (i + 6) n1 X2 (by omega) (by omega) g1 g2 hI2
    · exact ev_icmpT (tgt := 1350) dL_law_24 (by decide) (show nI Ln - nI 6 < nI i by rw [Int32.lt_iff_toInt_lt, pk_sub_toInt (by omega) (by omega), nI_toInt (by omega)]; omega) (law_fin hn2)
end LAW
