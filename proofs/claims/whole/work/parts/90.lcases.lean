/-! the law's cases (printed by wip/whole/gen2/lawcases.py) -/
theorem la_1 (i : Nat) : nI i + (1 : Int32) = nI (i + 1) := nI_add i 1
theorem la_2 (i : Nat) : nI i + (2 : Int32) = nI (i + 2) := nI_add i 2
theorem la_3 (i : Nat) : nI i + (3 : Int32) = nI (i + 3) := nI_add i 3
theorem la_4 (i : Nat) : nI i + (4 : Int32) = nI (i + 4) := nI_add i 4
theorem la_5 (i : Nat) : nI i + (5 : Int32) = nI (i + 5) := nI_add i 5
theorem la_6 (i : Nat) : nI i + (6 : Int32) = nI (i + 6) := nI_add i 6
theorem okL0 : OK 154 0 11 := ⟨by decide, _, sh_0⟩
section LCS
variable {X : CT} {Ln kc ks B : Nat} {xs : Nat → Int32} {Q : State → Prop} {h : PH}
abbrev CLW (X : CT) (Ln : Nat) (xs : Nat → Int32) : Prop := CL X 154 cL_law 7 RL (some .boolean) 2048 84000 601024 7293034 Ln xs
abbrev lvL (i : Nat) : List (Option Value) := [some (.ref 4000), some (.ref 0), some (.ref 103), some (.ref 153), some (.int (nI i)), none, none]
set_option maxHeartbeats 2000000 in
theorem LC_0 (C : CLW X Ln xs) (hL : Ln < 2 ^ 31) {i : Nat} (hi : i + 7 ≤ Ln) (hB : B < 512) (I : Inv B h) (hkc : kc ≤ 601024) (hks : ks ≤ 7293034) (k : ∀ h2, Inv (B + 1) h2 → VL X kc ks Q h2 1342 (lvL i) []) : VL X kc ks Q h 184 (lvL i) [] := by
  obtain ⟨r, h1, h2, e1, e2, I2⟩ := S_floors (N := 5000) (Nat.le_refl _) hB I (xs (i + 1))
  refine L_aload_n (pc := 184) C dL_law_184 rfl ?_
  refine L_aload_n (pc := 185) C dL_law_185 rfl ?_
  refine L_iload (pc := 186) C dL_law_186 rfl ?_
  refine L_iconst (pc := 188) (v := 1) C dL_law_188 (by decide) ?_
  refine L_iaddE (pc := 189) C dL_law_189 (la_1 i) ?_
  refine L_sld (pc := 190) C dL_law_190 (by omega) hL ?_
  refine L_callI (pc := 191) (As := [.int (xs (i + 1))]) (rest := []) C dL_law_191 lm_L_19 mk_X11_floors okL0 rfl (M_X11_floors (xE X) e1) rfl pd_X11_floors (by omega) (by omega) (by omega) rfl (Nat.le_of_ble_eq_true rfl) hkc hks ?_
  refine L_aload_n (pc := 194) C dL_law_194 rfl ?_
  refine L_aload_n (pc := 195) C dL_law_195 rfl ?_
  refine L_iload (pc := 196) C dL_law_196 rfl ?_
  refine L_iconst (pc := 198) (v := 1) C dL_law_198 (by decide) ?_
  refine L_iaddE (pc := 199) C dL_law_199 (la_1 i) ?_
  refine L_sld (pc := 200) C dL_law_200 (by omega) hL ?_
  refine L_callI (pc := 201) (As := [.int (xs (i + 1))]) (rest := [.int r]) C dL_law_201 lm_L_23 mk_X12_floors ok_103 rfl (M_X12_floors (xE X) e2) rfl pd_X12_floors (by omega) (by omega) (by omega) rfl (Nat.le_of_ble_eq_true rfl) hkc hks ?_
  refine L_icmp_eq (pc := 204) (tgt := 1342) C dL_law_204 (by decide) (fun _ => ?_) (fun z => absurd rfl z)
  exact k h2 I2
set_option maxHeartbeats 2000000 in
theorem LC_1 (C : CLW X Ln xs) (hL : Ln < 2 ^ 31) {i : Nat} (hi : i + 7 ≤ Ln) (hB : B < 512) (I : Inv B h) (hkc : kc ≤ 601024) (hks : ks ≤ 7293034) (k : ∀ h2, Inv (B + 1) h2 → VL X kc ks Q h2 1342 (lvL i) []) : VL X kc ks Q h 209 (lvL i) [] := by
  obtain ⟨r, h1, h2, e1, e2, I2⟩ := S_feed (N := 5000) (Nat.le_refl _) hB I ((((xs (i + 1)).toInt64 <<< ((32 : Int32).toInt64 &&& 63)) ||| ((xs (i + 2)).toInt64 &&& 4294967295))) ((((xs (i + 3)).toInt64 <<< ((32 : Int32).toInt64 &&& 63)) ||| ((xs (i + 4)).toInt64 &&& 4294967295))) ((((xs (i + 5)).toInt64 <<< ((32 : Int32).toInt64 &&& 63)) ||| ((xs (i + 6)).toInt64 &&& 4294967295)))
  refine L_aload_n (pc := 209) C dL_law_209 rfl ?_
  refine L_aload_n (pc := 210) C dL_law_210 rfl ?_
  refine L_iload (pc := 211) C dL_law_211 rfl ?_
  refine L_iconst (pc := 213) (v := 1) C dL_law_213 (by decide) ?_
  refine L_iaddE (pc := 214) C dL_law_214 (la_1 i) ?_
  refine L_sld (pc := 215) C dL_law_215 (by omega) hL ?_
  refine L_i2l (pc := 216) C dL_law_216 ?_
  refine L_bipush (pc := 217) (v := 32) C dL_law_217 (by decide) ?_
  refine L_lshl (pc := 219) C dL_law_219 ?_
  refine L_aload_n (pc := 220) C dL_law_220 rfl ?_
  refine L_iload (pc := 221) C dL_law_221 rfl ?_
  refine L_iconst (pc := 223) (v := 2) C dL_law_223 (by decide) ?_
  refine L_iaddE (pc := 224) C dL_law_224 (la_2 i) ?_
  refine L_sld (pc := 225) C dL_law_225 (by omega) hL ?_
  refine L_i2l (pc := 226) C dL_law_226 ?_
  refine L_ldc2 (pc := 227) C dL_law_227 ll_L_24 ?_
  refine L_land (pc := 230) C dL_law_230 ?_
  refine L_lor (pc := 231) C dL_law_231 ?_
  refine L_aload_n (pc := 232) C dL_law_232 rfl ?_
  refine L_iload (pc := 233) C dL_law_233 rfl ?_
  refine L_iconst (pc := 235) (v := 3) C dL_law_235 (by decide) ?_
  refine L_iaddE (pc := 236) C dL_law_236 (la_3 i) ?_
  refine L_sld (pc := 237) C dL_law_237 (by omega) hL ?_
  refine L_i2l (pc := 238) C dL_law_238 ?_
  refine L_bipush (pc := 239) (v := 32) C dL_law_239 (by decide) ?_
  refine L_lshl (pc := 241) C dL_law_241 ?_
  refine L_aload_n (pc := 242) C dL_law_242 rfl ?_
  refine L_iload (pc := 243) C dL_law_243 rfl ?_
  refine L_iconst (pc := 245) (v := 4) C dL_law_245 (by decide) ?_
  refine L_iaddE (pc := 246) C dL_law_246 (la_4 i) ?_
  refine L_sld (pc := 247) C dL_law_247 (by omega) hL ?_
  refine L_i2l (pc := 248) C dL_law_248 ?_
  refine L_ldc2 (pc := 249) C dL_law_249 ll_L_24 ?_
  refine L_land (pc := 252) C dL_law_252 ?_
  refine L_lor (pc := 253) C dL_law_253 ?_
  refine L_aload_n (pc := 254) C dL_law_254 rfl ?_
  refine L_iload (pc := 255) C dL_law_255 rfl ?_
  refine L_iconst (pc := 257) (v := 5) C dL_law_257 (by decide) ?_
  refine L_iaddE (pc := 258) C dL_law_258 (la_5 i) ?_
  refine L_sld (pc := 259) C dL_law_259 (by omega) hL ?_
  refine L_i2l (pc := 260) C dL_law_260 ?_
  refine L_bipush (pc := 261) (v := 32) C dL_law_261 (by decide) ?_
  refine L_lshl (pc := 263) C dL_law_263 ?_
  refine L_aload_n (pc := 264) C dL_law_264 rfl ?_
  refine L_iload (pc := 265) C dL_law_265 rfl ?_
  refine L_bipush (pc := 267) (v := 6) C dL_law_267 (by decide) ?_
  refine L_iaddE (pc := 269) C dL_law_269 (la_6 i) ?_
  refine L_sld (pc := 270) C dL_law_270 (by omega) hL ?_
  refine L_i2l (pc := 271) C dL_law_271 ?_
  refine L_ldc2 (pc := 272) C dL_law_272 ll_L_24 ?_
  refine L_land (pc := 275) C dL_law_275 ?_
  refine L_lor (pc := 276) C dL_law_276 ?_
  refine L_callI (pc := 277) (As := [.long ((((xs (i + 1)).toInt64 <<< ((32 : Int32).toInt64 &&& 63)) ||| ((xs (i + 2)).toInt64 &&& 4294967295))), .long ((((xs (i + 3)).toInt64 <<< ((32 : Int32).toInt64 &&& 63)) ||| ((xs (i + 4)).toInt64 &&& 4294967295))), .long ((((xs (i + 5)).toInt64 <<< ((32 : Int32).toInt64 &&& 63)) ||| ((xs (i + 6)).toInt64 &&& 4294967295)))]) (rest := []) C dL_law_277 lm_L_26 mk_X11_feed okL0 rfl (M_X11_feed (xE X) e1) rfl pd_X11_feed (by omega) (by omega) (by omega) rfl (Nat.le_of_ble_eq_true rfl) hkc hks ?_
  refine L_aload_n (pc := 280) C dL_law_280 rfl ?_
  refine L_aload_n (pc := 281) C dL_law_281 rfl ?_
  refine L_iload (pc := 282) C dL_law_282 rfl ?_
  refine L_iconst (pc := 284) (v := 1) C dL_law_284 (by decide) ?_
  refine L_iaddE (pc := 285) C dL_law_285 (la_1 i) ?_
  refine L_sld (pc := 286) C dL_law_286 (by omega) hL ?_
  refine L_i2l (pc := 287) C dL_law_287 ?_
  refine L_bipush (pc := 288) (v := 32) C dL_law_288 (by decide) ?_
  refine L_lshl (pc := 290) C dL_law_290 ?_
  refine L_aload_n (pc := 291) C dL_law_291 rfl ?_
  refine L_iload (pc := 292) C dL_law_292 rfl ?_
  refine L_iconst (pc := 294) (v := 2) C dL_law_294 (by decide) ?_
  refine L_iaddE (pc := 295) C dL_law_295 (la_2 i) ?_
  refine L_sld (pc := 296) C dL_law_296 (by omega) hL ?_
  refine L_i2l (pc := 297) C dL_law_297 ?_
  refine L_ldc2 (pc := 298) C dL_law_298 ll_L_24 ?_
  refine L_land (pc := 301) C dL_law_301 ?_
  refine L_lor (pc := 302) C dL_law_302 ?_
  refine L_aload_n (pc := 303) C dL_law_303 rfl ?_
  refine L_iload (pc := 304) C dL_law_304 rfl ?_
  refine L_iconst (pc := 306) (v := 3) C dL_law_306 (by decide) ?_
  refine L_iaddE (pc := 307) C dL_law_307 (la_3 i) ?_
  refine L_sld (pc := 308) C dL_law_308 (by omega) hL ?_
  refine L_i2l (pc := 309) C dL_law_309 ?_
  refine L_bipush (pc := 310) (v := 32) C dL_law_310 (by decide) ?_
  refine L_lshl (pc := 312) C dL_law_312 ?_
  refine L_aload_n (pc := 313) C dL_law_313 rfl ?_
  refine L_iload (pc := 314) C dL_law_314 rfl ?_
  refine L_iconst (pc := 316) (v := 4) C dL_law_316 (by decide) ?_
  refine L_iaddE (pc := 317) C dL_law_317 (la_4 i) ?_
  refine L_sld (pc := 318) C dL_law_318 (by omega) hL ?_
  refine L_i2l (pc := 319) C dL_law_319 ?_
  refine L_ldc2 (pc := 320) C dL_law_320 ll_L_24 ?_
  refine L_land (pc := 323) C dL_law_323 ?_
  refine L_lor (pc := 324) C dL_law_324 ?_
  refine L_aload_n (pc := 325) C dL_law_325 rfl ?_
  refine L_iload (pc := 326) C dL_law_326 rfl ?_
  refine L_iconst (pc := 328) (v := 5) C dL_law_328 (by decide) ?_
  refine L_iaddE (pc := 329) C dL_law_329 (la_5 i) ?_
  refine L_sld (pc := 330) C dL_law_330 (by omega) hL ?_
  refine L_i2l (pc := 331) C dL_law_331 ?_
  refine L_bipush (pc := 332) (v := 32) C dL_law_332 (by decide) ?_
  refine L_lshl (pc := 334) C dL_law_334 ?_
  refine L_aload_n (pc := 335) C dL_law_335 rfl ?_
  refine L_iload (pc := 336) C dL_law_336 rfl ?_
  refine L_bipush (pc := 338) (v := 6) C dL_law_338 (by decide) ?_
  refine L_iaddE (pc := 340) C dL_law_340 (la_6 i) ?_
  refine L_sld (pc := 341) C dL_law_341 (by omega) hL ?_
  refine L_i2l (pc := 342) C dL_law_342 ?_
  refine L_ldc2 (pc := 343) C dL_law_343 ll_L_24 ?_
  refine L_land (pc := 346) C dL_law_346 ?_
  refine L_lor (pc := 347) C dL_law_347 ?_
  refine L_callI (pc := 348) (As := [.long ((((xs (i + 1)).toInt64 <<< ((32 : Int32).toInt64 &&& 63)) ||| ((xs (i + 2)).toInt64 &&& 4294967295))), .long ((((xs (i + 3)).toInt64 <<< ((32 : Int32).toInt64 &&& 63)) ||| ((xs (i + 4)).toInt64 &&& 4294967295))), .long ((((xs (i + 5)).toInt64 <<< ((32 : Int32).toInt64 &&& 63)) ||| ((xs (i + 6)).toInt64 &&& 4294967295)))]) (rest := [.int r]) C dL_law_348 lm_L_30 mk_X12_feed ok_103 rfl (M_X12_feed (xE X) e2) rfl pd_X12_feed (by omega) (by omega) (by omega) rfl (Nat.le_of_ble_eq_true rfl) hkc hks ?_
  refine L_icmp_eq (pc := 351) (tgt := 1342) C dL_law_351 (by decide) (fun _ => ?_) (fun z => absurd rfl z)
  exact k h2 I2
set_option maxHeartbeats 2000000 in
theorem LC_2 (C : CLW X Ln xs) (hL : Ln < 2 ^ 31) {i : Nat} (hi : i + 7 ≤ Ln) (hB : B < 512) (I : Inv B h) (hkc : kc ≤ 601024) (hks : ks ≤ 7293034) (k : ∀ h2, Inv (B + 1) h2 → VL X kc ks Q h2 1342 (lvL i) []) : VL X kc ks Q h 356 (lvL i) [] := by
  obtain ⟨r, h1, h2, e1, e2, I2⟩ := S_circuit (N := 5000) (Nat.le_refl _) hB I 
  refine L_aload_n (pc := 356) C dL_law_356 rfl ?_
  refine L_callI (pc := 357) (As := []) (rest := []) C dL_law_357 lm_L_31 mk_X11_circuit okL0 rfl (M_X11_circuit (xE X) e1) rfl pd_X11_circuit (by omega) (by omega) (by omega) rfl (Nat.le_of_ble_eq_true rfl) hkc hks ?_
  refine L_aload_n (pc := 360) C dL_law_360 rfl ?_
  refine L_callI (pc := 361) (As := []) (rest := [.int r]) C dL_law_361 lm_L_35 mk_X12_circuit ok_103 rfl (M_X12_circuit (xE X) e2) rfl pd_X12_circuit (by omega) (by omega) (by omega) rfl (Nat.le_of_ble_eq_true rfl) hkc hks ?_
  refine L_icmp_eq (pc := 364) (tgt := 1342) C dL_law_364 (by decide) (fun _ => ?_) (fun z => absurd rfl z)
  exact k h2 I2
set_option maxHeartbeats 2000000 in
theorem LC_3 (C : CLW X Ln xs) (hL : Ln < 2 ^ 31) {i : Nat} (hi : i + 7 ≤ Ln) (hB : B < 512) (I : Inv B h) (hkc : kc ≤ 601024) (hks : ks ≤ 7293034) (k : ∀ h2, Inv (B + 1) h2 → VL X kc ks Q h2 1342 (lvL i) []) : VL X kc ks Q h 369 (lvL i) [] := by
  obtain ⟨r, h1, h2, e1, e2, I2⟩ := S_rule (N := 5000) (Nat.le_refl _) hB I 
  refine L_aload_n (pc := 369) C dL_law_369 rfl ?_
  refine L_callI (pc := 370) (As := []) (rest := []) C dL_law_370 lm_L_36 mk_X11_rule okL0 rfl (M_X11_rule (xE X) e1) rfl pd_X11_rule (by omega) (by omega) (by omega) rfl (Nat.le_of_ble_eq_true rfl) hkc hks ?_
  refine L_aload_n (pc := 373) C dL_law_373 rfl ?_
  refine L_callI (pc := 374) (As := []) (rest := [.int r]) C dL_law_374 lm_L_39 mk_X12_rule ok_103 rfl (M_X12_rule (xE X) e2) rfl pd_X12_rule (by omega) (by omega) (by omega) rfl (Nat.le_of_ble_eq_true rfl) hkc hks ?_
  refine L_icmp_eq (pc := 377) (tgt := 1342) C dL_law_377 (by decide) (fun _ => ?_) (fun z => absurd rfl z)
  exact k h2 I2
set_option maxHeartbeats 2000000 in
theorem LC_4 (C : CLW X Ln xs) (hL : Ln < 2 ^ 31) {i : Nat} (hi : i + 7 ≤ Ln) (hB : B < 512) (I : Inv B h) (hkc : kc ≤ 601024) (hks : ks ≤ 7293034) (k : ∀ h2, Inv (B + 1) h2 → VL X kc ks Q h2 1342 (lvL i) []) : VL X kc ks Q h 382 (lvL i) [] := by
  obtain ⟨r, h1, h2, e1, e2, I2⟩ := S_press (N := 5000) (Nat.le_refl _) hB I (xs (i + 1))
  refine L_aload_n (pc := 382) C dL_law_382 rfl ?_
  refine L_aload_n (pc := 383) C dL_law_383 rfl ?_
  refine L_iload (pc := 384) C dL_law_384 rfl ?_
  refine L_iconst (pc := 386) (v := 1) C dL_law_386 (by decide) ?_
  refine L_iaddE (pc := 387) C dL_law_387 (la_1 i) ?_
  refine L_sld (pc := 388) C dL_law_388 (by omega) hL ?_
  refine L_callI (pc := 389) (As := [.int (xs (i + 1))]) (rest := []) C dL_law_389 lm_L_40 mk_X11_press okL0 rfl (M_X11_press (xE X) e1) rfl pd_X11_press (by omega) (by omega) (by omega) rfl (Nat.le_of_ble_eq_true rfl) hkc hks ?_
  refine L_aload_n (pc := 392) C dL_law_392 rfl ?_
  refine L_aload_n (pc := 393) C dL_law_393 rfl ?_
  refine L_iload (pc := 394) C dL_law_394 rfl ?_
  refine L_iconst (pc := 396) (v := 1) C dL_law_396 (by decide) ?_
  refine L_iaddE (pc := 397) C dL_law_397 (la_1 i) ?_
  refine L_sld (pc := 398) C dL_law_398 (by omega) hL ?_
  refine L_callI (pc := 399) (As := [.int (xs (i + 1))]) (rest := [.int r]) C dL_law_399 lm_L_43 mk_X12_press ok_103 rfl (M_X12_press (xE X) e2) rfl pd_X12_press (by omega) (by omega) (by omega) rfl (Nat.le_of_ble_eq_true rfl) hkc hks ?_
  refine L_icmp_eq (pc := 402) (tgt := 1342) C dL_law_402 (by decide) (fun _ => ?_) (fun z => absurd rfl z)
  exact k h2 I2
set_option maxHeartbeats 2000000 in
theorem LC_5 (C : CLW X Ln xs) (hL : Ln < 2 ^ 31) {i : Nat} (hi : i + 7 ≤ Ln) (hB : B < 512) (I : Inv B h) (hkc : kc ≤ 601024) (hks : ks ≤ 7293034) (k : ∀ h2, Inv (B + 1) h2 → VL X kc ks Q h2 1342 (lvL i) []) : VL X kc ks Q h 407 (lvL i) [] := by
  obtain ⟨r, h1, h2, e1, e2, I2⟩ := S_again (N := 5000) (Nat.le_refl _) hB I 
  refine L_aload_n (pc := 407) C dL_law_407 rfl ?_
  refine L_callI (pc := 408) (As := []) (rest := []) C dL_law_408 lm_L_44 mk_X11_again okL0 rfl (M_X11_again (xE X) e1) rfl pd_X11_again (by omega) (by omega) (by omega) rfl (Nat.le_of_ble_eq_true rfl) hkc hks ?_
  refine L_aload_n (pc := 411) C dL_law_411 rfl ?_
  refine L_callI (pc := 412) (As := []) (rest := [.int r]) C dL_law_412 lm_L_48 mk_X12_again ok_103 rfl (M_X12_again (xE X) e2) rfl pd_X12_again (by omega) (by omega) (by omega) rfl (Nat.le_of_ble_eq_true rfl) hkc hks ?_
  refine L_icmp_eq (pc := 415) (tgt := 1342) C dL_law_415 (by decide) (fun _ => ?_) (fun z => absurd rfl z)
  exact k h2 I2
set_option maxHeartbeats 2000000 in
theorem LC_7 (C : CLW X Ln xs) (hL : Ln < 2 ^ 31) {i : Nat} (hi : i + 7 ≤ Ln) (hB : B < 512) (I : Inv B h) (hkc : kc ≤ 601024) (hks : ks ≤ 7293034) (k : ∀ h2, Inv (B + 1) h2 → VL X kc ks Q h2 1342 (lvL i) []) : VL X kc ks Q h 476 (lvL i) [] := by
  obtain ⟨r, h1, h2, e1, e2, I2⟩ := S_never (N := 5000) (Nat.le_refl _) hB I (xs (i + 1)) (xs (i + 2))
  refine L_aload_n (pc := 476) C dL_law_476 rfl ?_
  refine L_aload_n (pc := 477) C dL_law_477 rfl ?_
  refine L_iload (pc := 478) C dL_law_478 rfl ?_
  refine L_iconst (pc := 480) (v := 1) C dL_law_480 (by decide) ?_
  refine L_iaddE (pc := 481) C dL_law_481 (la_1 i) ?_
  refine L_sld (pc := 482) C dL_law_482 (by omega) hL ?_
  refine L_aload_n (pc := 483) C dL_law_483 rfl ?_
  refine L_iload (pc := 484) C dL_law_484 rfl ?_
  refine L_iconst (pc := 486) (v := 2) C dL_law_486 (by decide) ?_
  refine L_iaddE (pc := 487) C dL_law_487 (la_2 i) ?_
  refine L_sld (pc := 488) C dL_law_488 (by omega) hL ?_
  refine L_callI (pc := 489) (As := [.int (xs (i + 1)), .int (xs (i + 2))]) (rest := []) C dL_law_489 lm_L_58 mk_X11_never okL0 rfl (M_X11_never (xE X) e1) rfl pd_X11_never (by omega) (by omega) (by omega) rfl (Nat.le_of_ble_eq_true rfl) hkc hks ?_
  refine L_aload_n (pc := 492) C dL_law_492 rfl ?_
  refine L_aload_n (pc := 493) C dL_law_493 rfl ?_
  refine L_iload (pc := 494) C dL_law_494 rfl ?_
  refine L_iconst (pc := 496) (v := 1) C dL_law_496 (by decide) ?_
  refine L_iaddE (pc := 497) C dL_law_497 (la_1 i) ?_
  refine L_sld (pc := 498) C dL_law_498 (by omega) hL ?_
  refine L_aload_n (pc := 499) C dL_law_499 rfl ?_
  refine L_iload (pc := 500) C dL_law_500 rfl ?_
  refine L_iconst (pc := 502) (v := 2) C dL_law_502 (by decide) ?_
  refine L_iaddE (pc := 503) C dL_law_503 (la_2 i) ?_
  refine L_sld (pc := 504) C dL_law_504 (by omega) hL ?_
  refine L_callI (pc := 505) (As := [.int (xs (i + 1)), .int (xs (i + 2))]) (rest := [.int r]) C dL_law_505 lm_L_62 mk_X12_never ok_103 rfl (M_X12_never (xE X) e2) rfl pd_X12_never (by omega) (by omega) (by omega) rfl (Nat.le_of_ble_eq_true rfl) hkc hks ?_
  refine L_icmp_eq (pc := 508) (tgt := 1342) C dL_law_508 (by decide) (fun _ => ?_) (fun z => absurd rfl z)
  exact k h2 I2
set_option maxHeartbeats 2000000 in
theorem LC_8 (C : CLW X Ln xs) (hL : Ln < 2 ^ 31) {i : Nat} (hi : i + 7 ≤ Ln) (hB : B < 512) (I : Inv B h) (hkc : kc ≤ 601024) (hks : ks ≤ 7293034) (k : ∀ h2, Inv (B + 1) h2 → VL X kc ks Q h2 1342 (lvL i) []) : VL X kc ks Q h 513 (lvL i) [] := by
  obtain ⟨r, h1, h2, e1, e2, I2⟩ := S_neverRow (N := 5000) (Nat.le_refl _) hB I (xs (i + 1)) (xs (i + 2))
  refine L_aload_n (pc := 513) C dL_law_513 rfl ?_
  refine L_aload_n (pc := 514) C dL_law_514 rfl ?_
  refine L_iload (pc := 515) C dL_law_515 rfl ?_
  refine L_iconst (pc := 517) (v := 1) C dL_law_517 (by decide) ?_
  refine L_iaddE (pc := 518) C dL_law_518 (la_1 i) ?_
  refine L_sld (pc := 519) C dL_law_519 (by omega) hL ?_
  refine L_aload_n (pc := 520) C dL_law_520 rfl ?_
  refine L_iload (pc := 521) C dL_law_521 rfl ?_
  refine L_iconst (pc := 523) (v := 2) C dL_law_523 (by decide) ?_
  refine L_iaddE (pc := 524) C dL_law_524 (la_2 i) ?_
  refine L_sld (pc := 525) C dL_law_525 (by omega) hL ?_
  refine L_callI (pc := 526) (As := [.int (xs (i + 1)), .int (xs (i + 2))]) (rest := []) C dL_law_526 lm_L_63 mk_X11_neverRow okL0 rfl (M_X11_neverRow (xE X) e1) rfl pd_X11_neverRow (by omega) (by omega) (by omega) rfl (Nat.le_of_ble_eq_true rfl) hkc hks ?_
  refine L_aload_n (pc := 529) C dL_law_529 rfl ?_
  refine L_aload_n (pc := 530) C dL_law_530 rfl ?_
  refine L_iload (pc := 531) C dL_law_531 rfl ?_
  refine L_iconst (pc := 533) (v := 1) C dL_law_533 (by decide) ?_
  refine L_iaddE (pc := 534) C dL_law_534 (la_1 i) ?_
  refine L_sld (pc := 535) C dL_law_535 (by omega) hL ?_
  refine L_aload_n (pc := 536) C dL_law_536 rfl ?_
  refine L_iload (pc := 537) C dL_law_537 rfl ?_
  refine L_iconst (pc := 539) (v := 2) C dL_law_539 (by decide) ?_
  refine L_iaddE (pc := 540) C dL_law_540 (la_2 i) ?_
  refine L_sld (pc := 541) C dL_law_541 (by omega) hL ?_
  refine L_callI (pc := 542) (As := [.int (xs (i + 1)), .int (xs (i + 2))]) (rest := [.int r]) C dL_law_542 lm_L_66 mk_X12_neverRow ok_103 rfl (M_X12_neverRow (xE X) e2) rfl pd_X12_neverRow (by omega) (by omega) (by omega) rfl (Nat.le_of_ble_eq_true rfl) hkc hks ?_
  refine L_icmp_eq (pc := 545) (tgt := 1342) C dL_law_545 (by decide) (fun _ => ?_) (fun z => absurd rfl z)
  exact k h2 I2
set_option maxHeartbeats 2000000 in
theorem LC_9 (C : CLW X Ln xs) (hL : Ln < 2 ^ 31) {i : Nat} (hi : i + 7 ≤ Ln) (hB : B < 512) (I : Inv B h) (hkc : kc ≤ 601024) (hks : ks ≤ 7293034) (k : ∀ h2, Inv (B + 1) h2 → VL X kc ks Q h2 1342 (lvL i) []) : VL X kc ks Q h 550 (lvL i) [] := by
  obtain ⟨r, h1, h2, e1, e2, I2⟩ := S_forgets (N := 5000) (Nat.le_refl _) hB I (xs (i + 1)) (xs (i + 2)) (xs (i + 3))
  refine L_aload_n (pc := 550) C dL_law_550 rfl ?_
  refine L_aload_n (pc := 551) C dL_law_551 rfl ?_
  refine L_iload (pc := 552) C dL_law_552 rfl ?_
  refine L_iconst (pc := 554) (v := 1) C dL_law_554 (by decide) ?_
  refine L_iaddE (pc := 555) C dL_law_555 (la_1 i) ?_
  refine L_sld (pc := 556) C dL_law_556 (by omega) hL ?_
  refine L_aload_n (pc := 557) C dL_law_557 rfl ?_
  refine L_iload (pc := 558) C dL_law_558 rfl ?_
  refine L_iconst (pc := 560) (v := 2) C dL_law_560 (by decide) ?_
  refine L_iaddE (pc := 561) C dL_law_561 (la_2 i) ?_
  refine L_sld (pc := 562) C dL_law_562 (by omega) hL ?_
  refine L_aload_n (pc := 563) C dL_law_563 rfl ?_
  refine L_iload (pc := 564) C dL_law_564 rfl ?_
  refine L_iconst (pc := 566) (v := 3) C dL_law_566 (by decide) ?_
  refine L_iaddE (pc := 567) C dL_law_567 (la_3 i) ?_
  refine L_sld (pc := 568) C dL_law_568 (by omega) hL ?_
  refine L_callI (pc := 569) (As := [.int (xs (i + 1)), .int (xs (i + 2)), .int (xs (i + 3))]) (rest := []) C dL_law_569 lm_L_67 mk_X11_forgets okL0 rfl (M_X11_forgets (xE X) e1) rfl pd_X11_forgets (by omega) (by omega) (by omega) rfl (Nat.le_of_ble_eq_true rfl) hkc hks ?_
  refine L_aload_n (pc := 572) C dL_law_572 rfl ?_
  refine L_aload_n (pc := 573) C dL_law_573 rfl ?_
  refine L_iload (pc := 574) C dL_law_574 rfl ?_
  refine L_iconst (pc := 576) (v := 1) C dL_law_576 (by decide) ?_
  refine L_iaddE (pc := 577) C dL_law_577 (la_1 i) ?_
  refine L_sld (pc := 578) C dL_law_578 (by omega) hL ?_
  refine L_aload_n (pc := 579) C dL_law_579 rfl ?_
  refine L_iload (pc := 580) C dL_law_580 rfl ?_
  refine L_iconst (pc := 582) (v := 2) C dL_law_582 (by decide) ?_
  refine L_iaddE (pc := 583) C dL_law_583 (la_2 i) ?_
  refine L_sld (pc := 584) C dL_law_584 (by omega) hL ?_
  refine L_aload_n (pc := 585) C dL_law_585 rfl ?_
  refine L_iload (pc := 586) C dL_law_586 rfl ?_
  refine L_iconst (pc := 588) (v := 3) C dL_law_588 (by decide) ?_
  refine L_iaddE (pc := 589) C dL_law_589 (la_3 i) ?_
  refine L_sld (pc := 590) C dL_law_590 (by omega) hL ?_
  refine L_callI (pc := 591) (As := [.int (xs (i + 1)), .int (xs (i + 2)), .int (xs (i + 3))]) (rest := [.int r]) C dL_law_591 lm_L_71 mk_X12_forgets ok_103 rfl (M_X12_forgets (xE X) e2) rfl pd_X12_forgets (by omega) (by omega) (by omega) rfl (Nat.le_of_ble_eq_true rfl) hkc hks ?_
  refine L_icmp_eq (pc := 594) (tgt := 1342) C dL_law_594 (by decide) (fun _ => ?_) (fun z => absurd rfl z)
  exact k h2 I2
set_option maxHeartbeats 2000000 in
theorem LC_10 (C : CLW X Ln xs) (hL : Ln < 2 ^ 31) {i : Nat} (hi : i + 7 ≤ Ln) (hB : B < 512) (I : Inv B h) (hkc : kc ≤ 601024) (hks : ks ≤ 7293034) (k : ∀ h2, Inv (B + 1) h2 → VL X kc ks Q h2 1342 (lvL i) []) : VL X kc ks Q h 599 (lvL i) [] := by
  obtain ⟨r, h1, h2, e1, e2, I2⟩ := S_forgetsRow (N := 5000) (Nat.le_refl _) hB I (xs (i + 1)) (xs (i + 2)) (xs (i + 3))
  refine L_aload_n (pc := 599) C dL_law_599 rfl ?_
  refine L_aload_n (pc := 600) C dL_law_600 rfl ?_
  refine L_iload (pc := 601) C dL_law_601 rfl ?_
  refine L_iconst (pc := 603) (v := 1) C dL_law_603 (by decide) ?_
  refine L_iaddE (pc := 604) C dL_law_604 (la_1 i) ?_
  refine L_sld (pc := 605) C dL_law_605 (by omega) hL ?_
  refine L_aload_n (pc := 606) C dL_law_606 rfl ?_
  refine L_iload (pc := 607) C dL_law_607 rfl ?_
  refine L_iconst (pc := 609) (v := 2) C dL_law_609 (by decide) ?_
  refine L_iaddE (pc := 610) C dL_law_610 (la_2 i) ?_
  refine L_sld (pc := 611) C dL_law_611 (by omega) hL ?_
  refine L_aload_n (pc := 612) C dL_law_612 rfl ?_
  refine L_iload (pc := 613) C dL_law_613 rfl ?_
  refine L_iconst (pc := 615) (v := 3) C dL_law_615 (by decide) ?_
  refine L_iaddE (pc := 616) C dL_law_616 (la_3 i) ?_
  refine L_sld (pc := 617) C dL_law_617 (by omega) hL ?_
  refine L_callI (pc := 618) (As := [.int (xs (i + 1)), .int (xs (i + 2)), .int (xs (i + 3))]) (rest := []) C dL_law_618 lm_L_72 mk_X11_forgetsRow okL0 rfl (M_X11_forgetsRow (xE X) e1) rfl pd_X11_forgetsRow (by omega) (by omega) (by omega) rfl (Nat.le_of_ble_eq_true rfl) hkc hks ?_
  refine L_aload_n (pc := 621) C dL_law_621 rfl ?_
  refine L_aload_n (pc := 622) C dL_law_622 rfl ?_
  refine L_iload (pc := 623) C dL_law_623 rfl ?_
  refine L_iconst (pc := 625) (v := 1) C dL_law_625 (by decide) ?_
  refine L_iaddE (pc := 626) C dL_law_626 (la_1 i) ?_
  refine L_sld (pc := 627) C dL_law_627 (by omega) hL ?_
  refine L_aload_n (pc := 628) C dL_law_628 rfl ?_
  refine L_iload (pc := 629) C dL_law_629 rfl ?_
  refine L_iconst (pc := 631) (v := 2) C dL_law_631 (by decide) ?_
  refine L_iaddE (pc := 632) C dL_law_632 (la_2 i) ?_
  refine L_sld (pc := 633) C dL_law_633 (by omega) hL ?_
  refine L_aload_n (pc := 634) C dL_law_634 rfl ?_
  refine L_iload (pc := 635) C dL_law_635 rfl ?_
  refine L_iconst (pc := 637) (v := 3) C dL_law_637 (by decide) ?_
  refine L_iaddE (pc := 638) C dL_law_638 (la_3 i) ?_
  refine L_sld (pc := 639) C dL_law_639 (by omega) hL ?_
  refine L_callI (pc := 640) (As := [.int (xs (i + 1)), .int (xs (i + 2)), .int (xs (i + 3))]) (rest := [.int r]) C dL_law_640 lm_L_75 mk_X12_forgetsRow ok_103 rfl (M_X12_forgetsRow (xE X) e2) rfl pd_X12_forgetsRow (by omega) (by omega) (by omega) rfl (Nat.le_of_ble_eq_true rfl) hkc hks ?_
  refine L_icmp_eq (pc := 643) (tgt := 1342) C dL_law_643 (by decide) (fun _ => ?_) (fun z => absurd rfl z)
  exact k h2 I2
set_option maxHeartbeats 2000000 in
theorem LC_11 (C : CLW X Ln xs) (hL : Ln < 2 ^ 31) {i : Nat} (hi : i + 7 ≤ Ln) (hB : B < 512) (I : Inv B h) (hkc : kc ≤ 601024) (hks : ks ≤ 7293034) (k : ∀ h2, Inv (B + 1) h2 → VL X kc ks Q h2 1342 (lvL i) []) : VL X kc ks Q h 648 (lvL i) [] := by
  obtain ⟨r, h1, h2, e1, e2, I2⟩ := S_stuck (N := 5000) (Nat.le_refl _) hB I (xs (i + 1))
  refine L_aload_n (pc := 648) C dL_law_648 rfl ?_
  refine L_aload_n (pc := 649) C dL_law_649 rfl ?_
  refine L_iload (pc := 650) C dL_law_650 rfl ?_
  refine L_iconst (pc := 652) (v := 1) C dL_law_652 (by decide) ?_
  refine L_iaddE (pc := 653) C dL_law_653 (la_1 i) ?_
  refine L_sld (pc := 654) C dL_law_654 (by omega) hL ?_
  refine L_callI (pc := 655) (As := [.int (xs (i + 1))]) (rest := []) C dL_law_655 lm_L_76 mk_X11_stuck okL0 rfl (M_X11_stuck (xE X) e1) rfl pd_X11_stuck (by omega) (by omega) (by omega) rfl (Nat.le_of_ble_eq_true rfl) hkc hks ?_
  refine L_aload_n (pc := 658) C dL_law_658 rfl ?_
  refine L_aload_n (pc := 659) C dL_law_659 rfl ?_
  refine L_iload (pc := 660) C dL_law_660 rfl ?_
  refine L_iconst (pc := 662) (v := 1) C dL_law_662 (by decide) ?_
  refine L_iaddE (pc := 663) C dL_law_663 (la_1 i) ?_
  refine L_sld (pc := 664) C dL_law_664 (by omega) hL ?_
  refine L_callI (pc := 665) (As := [.int (xs (i + 1))]) (rest := [.int r]) C dL_law_665 lm_L_79 mk_X12_stuck ok_103 rfl (M_X12_stuck (xE X) e2) rfl pd_X12_stuck (by omega) (by omega) (by omega) rfl (Nat.le_of_ble_eq_true rfl) hkc hks ?_
  refine L_icmp_eq (pc := 668) (tgt := 1342) C dL_law_668 (by decide) (fun _ => ?_) (fun z => absurd rfl z)
  exact k h2 I2
set_option maxHeartbeats 2000000 in
theorem LC_12 (C : CLW X Ln xs) (hL : Ln < 2 ^ 31) {i : Nat} (hi : i + 7 ≤ Ln) (hB : B < 512) (I : Inv B h) (hkc : kc ≤ 601024) (hks : ks ≤ 7293034) (k : ∀ h2, Inv (B + 1) h2 → VL X kc ks Q h2 1342 (lvL i) []) : VL X kc ks Q h 673 (lvL i) [] := by
  obtain ⟨r, h1, h2, e1, e2, I2⟩ := S_tried (N := 5000) (Nat.le_refl _) hB I (xs (i + 1)) (xs (i + 2))
  refine L_aload_n (pc := 673) C dL_law_673 rfl ?_
  refine L_aload_n (pc := 674) C dL_law_674 rfl ?_
  refine L_iload (pc := 675) C dL_law_675 rfl ?_
  refine L_iconst (pc := 677) (v := 1) C dL_law_677 (by decide) ?_
  refine L_iaddE (pc := 678) C dL_law_678 (la_1 i) ?_
  refine L_sld (pc := 679) C dL_law_679 (by omega) hL ?_
  refine L_aload_n (pc := 680) C dL_law_680 rfl ?_
  refine L_iload (pc := 681) C dL_law_681 rfl ?_
  refine L_iconst (pc := 683) (v := 2) C dL_law_683 (by decide) ?_
  refine L_iaddE (pc := 684) C dL_law_684 (la_2 i) ?_
  refine L_sld (pc := 685) C dL_law_685 (by omega) hL ?_
  refine L_callI (pc := 686) (As := [.int (xs (i + 1)), .int (xs (i + 2))]) (rest := []) C dL_law_686 lm_L_80 mk_X11_tried okL0 rfl (M_X11_tried (xE X) e1) rfl pd_X11_tried (by omega) (by omega) (by omega) rfl (Nat.le_of_ble_eq_true rfl) hkc hks ?_
  refine L_aload_n (pc := 689) C dL_law_689 rfl ?_
  refine L_aload_n (pc := 690) C dL_law_690 rfl ?_
  refine L_iload (pc := 691) C dL_law_691 rfl ?_
  refine L_iconst (pc := 693) (v := 1) C dL_law_693 (by decide) ?_
  refine L_iaddE (pc := 694) C dL_law_694 (la_1 i) ?_
  refine L_sld (pc := 695) C dL_law_695 (by omega) hL ?_
  refine L_aload_n (pc := 696) C dL_law_696 rfl ?_
  refine L_iload (pc := 697) C dL_law_697 rfl ?_
  refine L_iconst (pc := 699) (v := 2) C dL_law_699 (by decide) ?_
  refine L_iaddE (pc := 700) C dL_law_700 (la_2 i) ?_
  refine L_sld (pc := 701) C dL_law_701 (by omega) hL ?_
  refine L_callI (pc := 702) (As := [.int (xs (i + 1)), .int (xs (i + 2))]) (rest := [.int r]) C dL_law_702 lm_L_83 mk_X12_tried ok_103 rfl (M_X12_tried (xE X) e2) rfl pd_X12_tried (by omega) (by omega) (by omega) rfl (Nat.le_of_ble_eq_true rfl) hkc hks ?_
  refine L_icmp_eq (pc := 705) (tgt := 1342) C dL_law_705 (by decide) (fun _ => ?_) (fun z => absurd rfl z)
  exact k h2 I2
set_option maxHeartbeats 2000000 in
theorem LC_13 (C : CLW X Ln xs) (hL : Ln < 2 ^ 31) {i : Nat} (hi : i + 7 ≤ Ln) (hB : B < 512) (I : Inv B h) (hkc : kc ≤ 601024) (hks : ks ≤ 7293034) (k : ∀ h2, Inv (B + 1) h2 → VL X kc ks Q h2 1342 (lvL i) []) : VL X kc ks Q h 710 (lvL i) [] := by
  obtain ⟨r, h1, h2, e1, e2, I2⟩ := S_thought (N := 5000) (Nat.le_refl _) hB I (xs (i + 1))
  refine L_aload_n (pc := 710) C dL_law_710 rfl ?_
  refine L_aload_n (pc := 711) C dL_law_711 rfl ?_
  refine L_iload (pc := 712) C dL_law_712 rfl ?_
  refine L_iconst (pc := 714) (v := 1) C dL_law_714 (by decide) ?_
  refine L_iaddE (pc := 715) C dL_law_715 (la_1 i) ?_
  refine L_sld (pc := 716) C dL_law_716 (by omega) hL ?_
  refine L_callI (pc := 717) (As := [.int (xs (i + 1))]) (rest := []) C dL_law_717 lm_L_84 mk_X11_thought okL0 rfl (M_X11_thought (xE X) e1) rfl pd_X11_thought (by omega) (by omega) (by omega) rfl (Nat.le_of_ble_eq_true rfl) hkc hks ?_
  refine L_aload_n (pc := 720) C dL_law_720 rfl ?_
  refine L_aload_n (pc := 721) C dL_law_721 rfl ?_
  refine L_iload (pc := 722) C dL_law_722 rfl ?_
  refine L_iconst (pc := 724) (v := 1) C dL_law_724 (by decide) ?_
  refine L_iaddE (pc := 725) C dL_law_725 (la_1 i) ?_
  refine L_sld (pc := 726) C dL_law_726 (by omega) hL ?_
  refine L_callI (pc := 727) (As := [.int (xs (i + 1))]) (rest := [.int r]) C dL_law_727 lm_L_87 mk_X12_thought ok_103 rfl (M_X12_thought (xE X) e2) rfl pd_X12_thought (by omega) (by omega) (by omega) rfl (Nat.le_of_ble_eq_true rfl) hkc hks ?_
  refine L_icmp_eq (pc := 730) (tgt := 1342) C dL_law_730 (by decide) (fun _ => ?_) (fun z => absurd rfl z)
  exact k h2 I2
set_option maxHeartbeats 2000000 in
theorem LC_14 (C : CLW X Ln xs) (hL : Ln < 2 ^ 31) {i : Nat} (hi : i + 7 ≤ Ln) (hB : B < 512) (I : Inv B h) (hkc : kc ≤ 601024) (hks : ks ≤ 7293034) (k : ∀ h2, Inv (B + 1) h2 → VL X kc ks Q h2 1342 (lvL i) []) : VL X kc ks Q h 735 (lvL i) [] := by
  obtain ⟨r, h1, h2, e1, e2, I2⟩ := S_tests (N := 5000) (Nat.le_refl _) hB I (xs (i + 1))
  refine L_aload_n (pc := 735) C dL_law_735 rfl ?_
  refine L_aload_n (pc := 736) C dL_law_736 rfl ?_
  refine L_iload (pc := 737) C dL_law_737 rfl ?_
  refine L_iconst (pc := 739) (v := 1) C dL_law_739 (by decide) ?_
  refine L_iaddE (pc := 740) C dL_law_740 (la_1 i) ?_
  refine L_sld (pc := 741) C dL_law_741 (by omega) hL ?_
  refine L_callI (pc := 742) (As := [.int (xs (i + 1))]) (rest := []) C dL_law_742 lm_L_88 mk_X11_tests okL0 rfl (M_X11_tests (xE X) e1) rfl pd_X11_tests (by omega) (by omega) (by omega) rfl (Nat.le_of_ble_eq_true rfl) hkc hks ?_
  refine L_aload_n (pc := 745) C dL_law_745 rfl ?_
  refine L_aload_n (pc := 746) C dL_law_746 rfl ?_
  refine L_iload (pc := 747) C dL_law_747 rfl ?_
  refine L_iconst (pc := 749) (v := 1) C dL_law_749 (by decide) ?_
  refine L_iaddE (pc := 750) C dL_law_750 (la_1 i) ?_
  refine L_sld (pc := 751) C dL_law_751 (by omega) hL ?_
  refine L_callI (pc := 752) (As := [.int (xs (i + 1))]) (rest := [.int r]) C dL_law_752 lm_L_91 mk_X12_tests ok_103 rfl (M_X12_tests (xE X) e2) rfl pd_X12_tests (by omega) (by omega) (by omega) rfl (Nat.le_of_ble_eq_true rfl) hkc hks ?_
  refine L_icmp_eq (pc := 755) (tgt := 1342) C dL_law_755 (by decide) (fun _ => ?_) (fun z => absurd rfl z)
  exact k h2 I2
set_option maxHeartbeats 2000000 in
theorem LC_15 (C : CLW X Ln xs) (hL : Ln < 2 ^ 31) {i : Nat} (hi : i + 7 ≤ Ln) (hB : B < 512) (I : Inv B h) (hkc : kc ≤ 601024) (hks : ks ≤ 7293034) (k : ∀ h2, Inv (B + 1) h2 → VL X kc ks Q h2 1342 (lvL i) []) : VL X kc ks Q h 760 (lvL i) [] := by
  obtain ⟨r, h1, h2, e1, e2, I2⟩ := S_cars (N := 5000) (Nat.le_refl _) hB I (xs (i + 1)) (xs (i + 2)) (xs (i + 3)) (xs (i + 4))
  refine L_aload_n (pc := 760) C dL_law_760 rfl ?_
  refine L_aload_n (pc := 761) C dL_law_761 rfl ?_
  refine L_iload (pc := 762) C dL_law_762 rfl ?_
  refine L_iconst (pc := 764) (v := 1) C dL_law_764 (by decide) ?_
  refine L_iaddE (pc := 765) C dL_law_765 (la_1 i) ?_
  refine L_sld (pc := 766) C dL_law_766 (by omega) hL ?_
  refine L_aload_n (pc := 767) C dL_law_767 rfl ?_
  refine L_iload (pc := 768) C dL_law_768 rfl ?_
  refine L_iconst (pc := 770) (v := 2) C dL_law_770 (by decide) ?_
  refine L_iaddE (pc := 771) C dL_law_771 (la_2 i) ?_
  refine L_sld (pc := 772) C dL_law_772 (by omega) hL ?_
  refine L_aload_n (pc := 773) C dL_law_773 rfl ?_
  refine L_iload (pc := 774) C dL_law_774 rfl ?_
  refine L_iconst (pc := 776) (v := 3) C dL_law_776 (by decide) ?_
  refine L_iaddE (pc := 777) C dL_law_777 (la_3 i) ?_
  refine L_sld (pc := 778) C dL_law_778 (by omega) hL ?_
  refine L_aload_n (pc := 779) C dL_law_779 rfl ?_
  refine L_iload (pc := 780) C dL_law_780 rfl ?_
  refine L_iconst (pc := 782) (v := 4) C dL_law_782 (by decide) ?_
  refine L_iaddE (pc := 783) C dL_law_783 (la_4 i) ?_
  refine L_sld (pc := 784) C dL_law_784 (by omega) hL ?_
  refine L_callI (pc := 785) (As := [.int (xs (i + 1)), .int (xs (i + 2)), .int (xs (i + 3)), .int (xs (i + 4))]) (rest := []) C dL_law_785 lm_L_92 mk_X11_cars okL0 rfl (M_X11_cars (xE X) e1) rfl pd_X11_cars (by omega) (by omega) (by omega) rfl (Nat.le_of_ble_eq_true rfl) hkc hks ?_
  refine L_aload_n (pc := 788) C dL_law_788 rfl ?_
  refine L_aload_n (pc := 789) C dL_law_789 rfl ?_
  refine L_iload (pc := 790) C dL_law_790 rfl ?_
  refine L_iconst (pc := 792) (v := 1) C dL_law_792 (by decide) ?_
  refine L_iaddE (pc := 793) C dL_law_793 (la_1 i) ?_
  refine L_sld (pc := 794) C dL_law_794 (by omega) hL ?_
  refine L_aload_n (pc := 795) C dL_law_795 rfl ?_
  refine L_iload (pc := 796) C dL_law_796 rfl ?_
  refine L_iconst (pc := 798) (v := 2) C dL_law_798 (by decide) ?_
  refine L_iaddE (pc := 799) C dL_law_799 (la_2 i) ?_
  refine L_sld (pc := 800) C dL_law_800 (by omega) hL ?_
  refine L_aload_n (pc := 801) C dL_law_801 rfl ?_
  refine L_iload (pc := 802) C dL_law_802 rfl ?_
  refine L_iconst (pc := 804) (v := 3) C dL_law_804 (by decide) ?_
  refine L_iaddE (pc := 805) C dL_law_805 (la_3 i) ?_
  refine L_sld (pc := 806) C dL_law_806 (by omega) hL ?_
  refine L_aload_n (pc := 807) C dL_law_807 rfl ?_
  refine L_iload (pc := 808) C dL_law_808 rfl ?_
  refine L_iconst (pc := 810) (v := 4) C dL_law_810 (by decide) ?_
  refine L_iaddE (pc := 811) C dL_law_811 (la_4 i) ?_
  refine L_sld (pc := 812) C dL_law_812 (by omega) hL ?_
  refine L_callI (pc := 813) (As := [.int (xs (i + 1)), .int (xs (i + 2)), .int (xs (i + 3)), .int (xs (i + 4))]) (rest := [.int r]) C dL_law_813 lm_L_96 mk_X12_cars ok_103 rfl (M_X12_cars (xE X) e2) rfl pd_X12_cars (by omega) (by omega) (by omega) rfl (Nat.le_of_ble_eq_true rfl) hkc hks ?_
  refine L_icmp_eq (pc := 816) (tgt := 1342) C dL_law_816 (by decide) (fun _ => ?_) (fun z => absurd rfl z)
  exact k h2 I2
set_option maxHeartbeats 2000000 in
theorem LC_16 (C : CLW X Ln xs) (hL : Ln < 2 ^ 31) {i : Nat} (hi : i + 7 ≤ Ln) (hB : B < 512) (I : Inv B h) (hkc : kc ≤ 601024) (hks : ks ≤ 7293034) (k : ∀ h2, Inv (B + 1) h2 → VL X kc ks Q h2 1342 (lvL i) []) : VL X kc ks Q h 821 (lvL i) [] := by
  obtain ⟨r, h1, h2, e1, e2, I2⟩ := S_person (N := 5000) (Nat.le_refl _) hB I (xs (i + 1)) (xs (i + 2)) (xs (i + 3))
  refine L_aload_n (pc := 821) C dL_law_821 rfl ?_
  refine L_aload_n (pc := 822) C dL_law_822 rfl ?_
  refine L_iload (pc := 823) C dL_law_823 rfl ?_
  refine L_iconst (pc := 825) (v := 1) C dL_law_825 (by decide) ?_
  refine L_iaddE (pc := 826) C dL_law_826 (la_1 i) ?_
  refine L_sld (pc := 827) C dL_law_827 (by omega) hL ?_
  refine L_aload_n (pc := 828) C dL_law_828 rfl ?_
  refine L_iload (pc := 829) C dL_law_829 rfl ?_
  refine L_iconst (pc := 831) (v := 2) C dL_law_831 (by decide) ?_
  refine L_iaddE (pc := 832) C dL_law_832 (la_2 i) ?_
  refine L_sld (pc := 833) C dL_law_833 (by omega) hL ?_
  refine L_aload_n (pc := 834) C dL_law_834 rfl ?_
  refine L_iload (pc := 835) C dL_law_835 rfl ?_
  refine L_iconst (pc := 837) (v := 3) C dL_law_837 (by decide) ?_
  refine L_iaddE (pc := 838) C dL_law_838 (la_3 i) ?_
  refine L_sld (pc := 839) C dL_law_839 (by omega) hL ?_
  refine L_callI (pc := 840) (As := [.int (xs (i + 1)), .int (xs (i + 2)), .int (xs (i + 3))]) (rest := []) C dL_law_840 lm_L_97 mk_X11_person okL0 rfl (M_X11_person (xE X) e1) rfl pd_X11_person (by omega) (by omega) (by omega) rfl (Nat.le_of_ble_eq_true rfl) hkc hks ?_
  refine L_aload_n (pc := 843) C dL_law_843 rfl ?_
  refine L_aload_n (pc := 844) C dL_law_844 rfl ?_
  refine L_iload (pc := 845) C dL_law_845 rfl ?_
  refine L_iconst (pc := 847) (v := 1) C dL_law_847 (by decide) ?_
  refine L_iaddE (pc := 848) C dL_law_848 (la_1 i) ?_
  refine L_sld (pc := 849) C dL_law_849 (by omega) hL ?_
  refine L_aload_n (pc := 850) C dL_law_850 rfl ?_
  refine L_iload (pc := 851) C dL_law_851 rfl ?_
  refine L_iconst (pc := 853) (v := 2) C dL_law_853 (by decide) ?_
  refine L_iaddE (pc := 854) C dL_law_854 (la_2 i) ?_
  refine L_sld (pc := 855) C dL_law_855 (by omega) hL ?_
  refine L_aload_n (pc := 856) C dL_law_856 rfl ?_
  refine L_iload (pc := 857) C dL_law_857 rfl ?_
  refine L_iconst (pc := 859) (v := 3) C dL_law_859 (by decide) ?_
  refine L_iaddE (pc := 860) C dL_law_860 (la_3 i) ?_
  refine L_sld (pc := 861) C dL_law_861 (by omega) hL ?_
  refine L_callI (pc := 862) (As := [.int (xs (i + 1)), .int (xs (i + 2)), .int (xs (i + 3))]) (rest := [.int r]) C dL_law_862 lm_L_100 mk_X12_person ok_103 rfl (M_X12_person (xE X) e2) rfl pd_X12_person (by omega) (by omega) (by omega) rfl (Nat.le_of_ble_eq_true rfl) hkc hks ?_
  refine L_icmp_eq (pc := 865) (tgt := 1342) C dL_law_865 (by decide) (fun _ => ?_) (fun z => absurd rfl z)
  exact k h2 I2
set_option maxHeartbeats 2000000 in
theorem LC_17 (C : CLW X Ln xs) (hL : Ln < 2 ^ 31) {i : Nat} (hi : i + 7 ≤ Ln) (hB : B < 512) (I : Inv B h) (hkc : kc ≤ 601024) (hks : ks ≤ 7293034) (k : ∀ h2, Inv (B + 1) h2 → VL X kc ks Q h2 1342 (lvL i) []) : VL X kc ks Q h 870 (lvL i) [] := by
  obtain ⟨r, h1, h2, e1, e2, I2⟩ := S_hold (N := 5000) (Nat.le_refl _) hB I (xs (i + 1)) (xs (i + 2)) (xs (i + 3))
  refine L_aload_n (pc := 870) C dL_law_870 rfl ?_
  refine L_aload_n (pc := 871) C dL_law_871 rfl ?_
  refine L_iload (pc := 872) C dL_law_872 rfl ?_
  refine L_iconst (pc := 874) (v := 1) C dL_law_874 (by decide) ?_
  refine L_iaddE (pc := 875) C dL_law_875 (la_1 i) ?_
  refine L_sld (pc := 876) C dL_law_876 (by omega) hL ?_
  refine L_aload_n (pc := 877) C dL_law_877 rfl ?_
  refine L_iload (pc := 878) C dL_law_878 rfl ?_
  refine L_iconst (pc := 880) (v := 2) C dL_law_880 (by decide) ?_
  refine L_iaddE (pc := 881) C dL_law_881 (la_2 i) ?_
  refine L_sld (pc := 882) C dL_law_882 (by omega) hL ?_
  refine L_aload_n (pc := 883) C dL_law_883 rfl ?_
  refine L_iload (pc := 884) C dL_law_884 rfl ?_
  refine L_iconst (pc := 886) (v := 3) C dL_law_886 (by decide) ?_
  refine L_iaddE (pc := 887) C dL_law_887 (la_3 i) ?_
  refine L_sld (pc := 888) C dL_law_888 (by omega) hL ?_
  refine L_callI (pc := 889) (As := [.int (xs (i + 1)), .int (xs (i + 2)), .int (xs (i + 3))]) (rest := []) C dL_law_889 lm_L_101 mk_X11_hold okL0 rfl (M_X11_hold (xE X) e1) rfl pd_X11_hold (by omega) (by omega) (by omega) rfl (Nat.le_of_ble_eq_true rfl) hkc hks ?_
  refine L_aload_n (pc := 892) C dL_law_892 rfl ?_
  refine L_aload_n (pc := 893) C dL_law_893 rfl ?_
  refine L_iload (pc := 894) C dL_law_894 rfl ?_
  refine L_iconst (pc := 896) (v := 1) C dL_law_896 (by decide) ?_
  refine L_iaddE (pc := 897) C dL_law_897 (la_1 i) ?_
  refine L_sld (pc := 898) C dL_law_898 (by omega) hL ?_
  refine L_aload_n (pc := 899) C dL_law_899 rfl ?_
  refine L_iload (pc := 900) C dL_law_900 rfl ?_
  refine L_iconst (pc := 902) (v := 2) C dL_law_902 (by decide) ?_
  refine L_iaddE (pc := 903) C dL_law_903 (la_2 i) ?_
  refine L_sld (pc := 904) C dL_law_904 (by omega) hL ?_
  refine L_aload_n (pc := 905) C dL_law_905 rfl ?_
  refine L_iload (pc := 906) C dL_law_906 rfl ?_
  refine L_iconst (pc := 908) (v := 3) C dL_law_908 (by decide) ?_
  refine L_iaddE (pc := 909) C dL_law_909 (la_3 i) ?_
  refine L_sld (pc := 910) C dL_law_910 (by omega) hL ?_
  refine L_callI (pc := 911) (As := [.int (xs (i + 1)), .int (xs (i + 2)), .int (xs (i + 3))]) (rest := [.int r]) C dL_law_911 lm_L_105 mk_X12_hold ok_103 rfl (M_X12_hold (xE X) e2) rfl pd_X12_hold (by omega) (by omega) (by omega) rfl (Nat.le_of_ble_eq_true rfl) hkc hks ?_
  refine L_icmp_eq (pc := 914) (tgt := 1342) C dL_law_914 (by decide) (fun _ => ?_) (fun z => absurd rfl z)
  exact k h2 I2
set_option maxHeartbeats 2000000 in
theorem LC_18 (C : CLW X Ln xs) (hL : Ln < 2 ^ 31) {i : Nat} (hi : i + 7 ≤ Ln) (hB : B < 512) (I : Inv B h) (hkc : kc ≤ 601024) (hks : ks ≤ 7293034) (k : ∀ h2, Inv (B + 1) h2 → VL X kc ks Q h2 1342 (lvL i) []) : VL X kc ks Q h 919 (lvL i) [] := by
  obtain ⟨r, h1, h2, e1, e2, I2⟩ := S_fire (N := 5000) (Nat.le_refl _) hB I (xs (i + 1))
  refine L_aload_n (pc := 919) C dL_law_919 rfl ?_
  refine L_aload_n (pc := 920) C dL_law_920 rfl ?_
  refine L_iload (pc := 921) C dL_law_921 rfl ?_
  refine L_iconst (pc := 923) (v := 1) C dL_law_923 (by decide) ?_
  refine L_iaddE (pc := 924) C dL_law_924 (la_1 i) ?_
  refine L_sld (pc := 925) C dL_law_925 (by omega) hL ?_
  refine L_callI (pc := 926) (As := [.int (xs (i + 1))]) (rest := []) C dL_law_926 lm_L_106 mk_X11_fire okL0 rfl (M_X11_fire (xE X) e1) rfl pd_X11_fire (by omega) (by omega) (by omega) rfl (Nat.le_of_ble_eq_true rfl) hkc hks ?_
  refine L_aload_n (pc := 929) C dL_law_929 rfl ?_
  refine L_aload_n (pc := 930) C dL_law_930 rfl ?_
  refine L_iload (pc := 931) C dL_law_931 rfl ?_
  refine L_iconst (pc := 933) (v := 1) C dL_law_933 (by decide) ?_
  refine L_iaddE (pc := 934) C dL_law_934 (la_1 i) ?_
  refine L_sld (pc := 935) C dL_law_935 (by omega) hL ?_
  refine L_callI (pc := 936) (As := [.int (xs (i + 1))]) (rest := [.int r]) C dL_law_936 lm_L_109 mk_X12_fire ok_103 rfl (M_X12_fire (xE X) e2) rfl pd_X12_fire (by omega) (by omega) (by omega) rfl (Nat.le_of_ble_eq_true rfl) hkc hks ?_
  refine L_icmp_eq (pc := 939) (tgt := 1342) C dL_law_939 (by decide) (fun _ => ?_) (fun z => absurd rfl z)
  exact k h2 I2
set_option maxHeartbeats 2000000 in
theorem LC_19 (C : CLW X Ln xs) (hL : Ln < 2 ^ 31) {i : Nat} (hi : i + 7 ≤ Ln) (hB : B < 512) (I : Inv B h) (hkc : kc ≤ 601024) (hks : ks ≤ 7293034) (k : ∀ h2, Inv (B + 1) h2 → VL X kc ks Q h2 1342 (lvL i) []) : VL X kc ks Q h 944 (lvL i) [] := by
  obtain ⟨r, h1, h2, e1, e2, I2⟩ := S_nobody (N := 5000) (Nat.le_refl _) hB I 
  refine L_aload_n (pc := 944) C dL_law_944 rfl ?_
  refine L_callI (pc := 945) (As := []) (rest := []) C dL_law_945 lm_L_110 mk_X11_nobody okL0 rfl (M_X11_nobody (xE X) e1) rfl pd_X11_nobody (by omega) (by omega) (by omega) rfl (Nat.le_of_ble_eq_true rfl) hkc hks ?_
  refine L_aload_n (pc := 948) C dL_law_948 rfl ?_
  refine L_callI (pc := 949) (As := []) (rest := [.int r]) C dL_law_949 lm_L_113 mk_X12_nobody ok_103 rfl (M_X12_nobody (xE X) e2) rfl pd_X12_nobody (by omega) (by omega) (by omega) rfl (Nat.le_of_ble_eq_true rfl) hkc hks ?_
  refine L_icmp_eq (pc := 952) (tgt := 1342) C dL_law_952 (by decide) (fun _ => ?_) (fun z => absurd rfl z)
  exact k h2 I2
set_option maxHeartbeats 2000000 in
theorem LC_20 (C : CLW X Ln xs) (hL : Ln < 2 ^ 31) {i : Nat} (hi : i + 7 ≤ Ln) (hB : B < 512) (I : Inv B h) (hkc : kc ≤ 601024) (hks : ks ≤ 7293034) (k : ∀ h2, Inv (B + 1) h2 → VL X kc ks Q h2 1342 (lvL i) []) : VL X kc ks Q h 957 (lvL i) [] := by
  obtain ⟨r, h1, h2, e1, e2, I2⟩ := S_run (N := 5000) (Nat.le_refl _) hB I 
  refine L_aload_n (pc := 957) C dL_law_957 rfl ?_
  refine L_callI (pc := 958) (As := []) (rest := []) C dL_law_958 lm_L_114 mk_X11_run okL0 rfl (M_X11_run (xE X) e1) rfl pd_X11_run (by omega) (by omega) (by omega) rfl (Nat.le_of_ble_eq_true rfl) hkc hks ?_
  refine L_aload_n (pc := 961) C dL_law_961 rfl ?_
  refine L_callI (pc := 962) (As := []) (rest := [.int r]) C dL_law_962 lm_L_117 mk_X12_run ok_103 rfl (M_X12_run (xE X) e2) rfl pd_X12_run (by omega) (by omega) (by omega) rfl (Nat.le_of_ble_eq_true rfl) hkc hks ?_
  refine L_icmp_eq (pc := 965) (tgt := 1342) C dL_law_965 (by decide) (fun _ => ?_) (fun z => absurd rfl z)
  exact k h2 I2
set_option maxHeartbeats 2000000 in
theorem LC_21 (C : CLW X Ln xs) (hL : Ln < 2 ^ 31) {i : Nat} (hi : i + 7 ≤ Ln) (hB : B < 512) (I : Inv B h) (hkc : kc ≤ 601024) (hks : ks ≤ 7293034) (k : ∀ h2, Inv (B + 1) h2 → VL X kc ks Q h2 1342 (lvL i) []) : VL X kc ks Q h 970 (lvL i) [] := by
  obtain ⟨r, h1, h2, e1, e2, I2⟩ := S_rode (N := 5000) (Nat.le_refl _) hB I (xs (i + 1)) (xs (i + 2))
  refine L_aload_n (pc := 970) C dL_law_970 rfl ?_
  refine L_aload_n (pc := 971) C dL_law_971 rfl ?_
  refine L_iload (pc := 972) C dL_law_972 rfl ?_
  refine L_iconst (pc := 974) (v := 1) C dL_law_974 (by decide) ?_
  refine L_iaddE (pc := 975) C dL_law_975 (la_1 i) ?_
  refine L_sld (pc := 976) C dL_law_976 (by omega) hL ?_
  refine L_aload_n (pc := 977) C dL_law_977 rfl ?_
  refine L_iload (pc := 978) C dL_law_978 rfl ?_
  refine L_iconst (pc := 980) (v := 2) C dL_law_980 (by decide) ?_
  refine L_iaddE (pc := 981) C dL_law_981 (la_2 i) ?_
  refine L_sld (pc := 982) C dL_law_982 (by omega) hL ?_
  refine L_callI (pc := 983) (As := [.int (xs (i + 1)), .int (xs (i + 2))]) (rest := []) C dL_law_983 lm_L_118 mk_X11_rode okL0 rfl (M_X11_rode (xE X) e1) rfl pd_X11_rode (by omega) (by omega) (by omega) rfl (Nat.le_of_ble_eq_true rfl) hkc hks ?_
  refine L_aload_n (pc := 986) C dL_law_986 rfl ?_
  refine L_aload_n (pc := 987) C dL_law_987 rfl ?_
  refine L_iload (pc := 988) C dL_law_988 rfl ?_
  refine L_iconst (pc := 990) (v := 1) C dL_law_990 (by decide) ?_
  refine L_iaddE (pc := 991) C dL_law_991 (la_1 i) ?_
  refine L_sld (pc := 992) C dL_law_992 (by omega) hL ?_
  refine L_aload_n (pc := 993) C dL_law_993 rfl ?_
  refine L_iload (pc := 994) C dL_law_994 rfl ?_
  refine L_iconst (pc := 996) (v := 2) C dL_law_996 (by decide) ?_
  refine L_iaddE (pc := 997) C dL_law_997 (la_2 i) ?_
  refine L_sld (pc := 998) C dL_law_998 (by omega) hL ?_
  refine L_callI (pc := 999) (As := [.int (xs (i + 1)), .int (xs (i + 2))]) (rest := [.int r]) C dL_law_999 lm_L_121 mk_X12_rode ok_103 rfl (M_X12_rode (xE X) e2) rfl pd_X12_rode (by omega) (by omega) (by omega) rfl (Nat.le_of_ble_eq_true rfl) hkc hks ?_
  refine L_icmp_eq (pc := 1002) (tgt := 1342) C dL_law_1002 (by decide) (fun _ => ?_) (fun z => absurd rfl z)
  exact k h2 I2
set_option maxHeartbeats 2000000 in
theorem LC_22 (C : CLW X Ln xs) (hL : Ln < 2 ^ 31) {i : Nat} (hi : i + 7 ≤ Ln) (hB : B < 512) (I : Inv B h) (hkc : kc ≤ 601024) (hks : ks ≤ 7293034) (k : ∀ h2, Inv (B + 1) h2 → VL X kc ks Q h2 1342 (lvL i) []) : VL X kc ks Q h 1007 (lvL i) [] := by
  obtain ⟨r, h1, h2, e1, e2, I2⟩ := S_waits (N := 5000) (Nat.le_refl _) hB I (xs (i + 1))
  refine L_aload_n (pc := 1007) C dL_law_1007 rfl ?_
  refine L_aload_n (pc := 1008) C dL_law_1008 rfl ?_
  refine L_iload (pc := 1009) C dL_law_1009 rfl ?_
  refine L_iconst (pc := 1011) (v := 1) C dL_law_1011 (by decide) ?_
  refine L_iaddE (pc := 1012) C dL_law_1012 (la_1 i) ?_
  refine L_sld (pc := 1013) C dL_law_1013 (by omega) hL ?_
  refine L_callI (pc := 1014) (As := [.int (xs (i + 1))]) (rest := []) C dL_law_1014 lm_L_122 mk_X11_waits okL0 rfl (M_X11_waits (xE X) e1) rfl pd_X11_waits (by omega) (by omega) (by omega) rfl (Nat.le_of_ble_eq_true rfl) hkc hks ?_
  refine L_aload_n (pc := 1017) C dL_law_1017 rfl ?_
  refine L_aload_n (pc := 1018) C dL_law_1018 rfl ?_
  refine L_iload (pc := 1019) C dL_law_1019 rfl ?_
  refine L_iconst (pc := 1021) (v := 1) C dL_law_1021 (by decide) ?_
  refine L_iaddE (pc := 1022) C dL_law_1022 (la_1 i) ?_
  refine L_sld (pc := 1023) C dL_law_1023 (by omega) hL ?_
  refine L_callI (pc := 1024) (As := [.int (xs (i + 1))]) (rest := [.int r]) C dL_law_1024 lm_L_125 mk_X12_waits ok_103 rfl (M_X12_waits (xE X) e2) rfl pd_X12_waits (by omega) (by omega) (by omega) rfl (Nat.le_of_ble_eq_true rfl) hkc hks ?_
  refine L_icmp_eq (pc := 1027) (tgt := 1342) C dL_law_1027 (by decide) (fun _ => ?_) (fun z => absurd rfl z)
  exact k h2 I2
set_option maxHeartbeats 2000000 in
theorem LC_23 (C : CLW X Ln xs) (hL : Ln < 2 ^ 31) {i : Nat} (hi : i + 7 ≤ Ln) (hB : B < 512) (I : Inv B h) (hkc : kc ≤ 601024) (hks : ks ≤ 7293034) (k : ∀ h2, Inv (B + 1) h2 → VL X kc ks Q h2 1342 (lvL i) []) : VL X kc ks Q h 1032 (lvL i) [] := by
  obtain ⟨r, h1, h2, e1, e2, I2⟩ := S_moved (N := 5000) (Nat.le_refl _) hB I (xs (i + 1)) (xs (i + 2))
  refine L_aload_n (pc := 1032) C dL_law_1032 rfl ?_
  refine L_aload_n (pc := 1033) C dL_law_1033 rfl ?_
  refine L_iload (pc := 1034) C dL_law_1034 rfl ?_
  refine L_iconst (pc := 1036) (v := 1) C dL_law_1036 (by decide) ?_
  refine L_iaddE (pc := 1037) C dL_law_1037 (la_1 i) ?_
  refine L_sld (pc := 1038) C dL_law_1038 (by omega) hL ?_
  refine L_aload_n (pc := 1039) C dL_law_1039 rfl ?_
  refine L_iload (pc := 1040) C dL_law_1040 rfl ?_
  refine L_iconst (pc := 1042) (v := 2) C dL_law_1042 (by decide) ?_
  refine L_iaddE (pc := 1043) C dL_law_1043 (la_2 i) ?_
  refine L_sld (pc := 1044) C dL_law_1044 (by omega) hL ?_
  refine L_callI (pc := 1045) (As := [.int (xs (i + 1)), .int (xs (i + 2))]) (rest := []) C dL_law_1045 lm_L_126 mk_X11_moved okL0 rfl (M_X11_moved (xE X) e1) rfl pd_X11_moved (by omega) (by omega) (by omega) rfl (Nat.le_of_ble_eq_true rfl) hkc hks ?_
  refine L_aload_n (pc := 1048) C dL_law_1048 rfl ?_
  refine L_aload_n (pc := 1049) C dL_law_1049 rfl ?_
  refine L_iload (pc := 1050) C dL_law_1050 rfl ?_
  refine L_iconst (pc := 1052) (v := 1) C dL_law_1052 (by decide) ?_
  refine L_iaddE (pc := 1053) C dL_law_1053 (la_1 i) ?_
  refine L_sld (pc := 1054) C dL_law_1054 (by omega) hL ?_
  refine L_aload_n (pc := 1055) C dL_law_1055 rfl ?_
  refine L_iload (pc := 1056) C dL_law_1056 rfl ?_
  refine L_iconst (pc := 1058) (v := 2) C dL_law_1058 (by decide) ?_
  refine L_iaddE (pc := 1059) C dL_law_1059 (la_2 i) ?_
  refine L_sld (pc := 1060) C dL_law_1060 (by omega) hL ?_
  refine L_callI (pc := 1061) (As := [.int (xs (i + 1)), .int (xs (i + 2))]) (rest := [.int r]) C dL_law_1061 lm_L_129 mk_X12_moved ok_103 rfl (M_X12_moved (xE X) e2) rfl pd_X12_moved (by omega) (by omega) (by omega) rfl (Nat.le_of_ble_eq_true rfl) hkc hks ?_
  refine L_icmp_eq (pc := 1064) (tgt := 1342) C dL_law_1064 (by decide) (fun _ => ?_) (fun z => absurd rfl z)
  exact k h2 I2
set_option maxHeartbeats 2000000 in
theorem LC_24 (C : CLW X Ln xs) (hL : Ln < 2 ^ 31) {i : Nat} (hi : i + 7 ≤ Ln) (hB : B < 512) (I : Inv B h) (hkc : kc ≤ 601024) (hks : ks ≤ 7293034) (k : ∀ h2, Inv (B + 1) h2 → VL X kc ks Q h2 1342 (lvL i) []) : VL X kc ks Q h 1069 (lvL i) [] := by
  obtain ⟨r, h1, h2, e1, e2, I2⟩ := S_stopped (N := 5000) (Nat.le_refl _) hB I (xs (i + 1))
  refine L_aload_n (pc := 1069) C dL_law_1069 rfl ?_
  refine L_aload_n (pc := 1070) C dL_law_1070 rfl ?_
  refine L_iload (pc := 1071) C dL_law_1071 rfl ?_
  refine L_iconst (pc := 1073) (v := 1) C dL_law_1073 (by decide) ?_
  refine L_iaddE (pc := 1074) C dL_law_1074 (la_1 i) ?_
  refine L_sld (pc := 1075) C dL_law_1075 (by omega) hL ?_
  refine L_callI (pc := 1076) (As := [.int (xs (i + 1))]) (rest := []) C dL_law_1076 lm_L_130 mk_X11_stopped okL0 rfl (M_X11_stopped (xE X) e1) rfl pd_X11_stopped (by omega) (by omega) (by omega) rfl (Nat.le_of_ble_eq_true rfl) hkc hks ?_
  refine L_aload_n (pc := 1079) C dL_law_1079 rfl ?_
  refine L_aload_n (pc := 1080) C dL_law_1080 rfl ?_
  refine L_iload (pc := 1081) C dL_law_1081 rfl ?_
  refine L_iconst (pc := 1083) (v := 1) C dL_law_1083 (by decide) ?_
  refine L_iaddE (pc := 1084) C dL_law_1084 (la_1 i) ?_
  refine L_sld (pc := 1085) C dL_law_1085 (by omega) hL ?_
  refine L_callI (pc := 1086) (As := [.int (xs (i + 1))]) (rest := [.int r]) C dL_law_1086 lm_L_133 mk_X12_stopped ok_103 rfl (M_X12_stopped (xE X) e2) rfl pd_X12_stopped (by omega) (by omega) (by omega) rfl (Nat.le_of_ble_eq_true rfl) hkc hks ?_
  refine L_icmp_eq (pc := 1089) (tgt := 1342) C dL_law_1089 (by decide) (fun _ => ?_) (fun z => absurd rfl z)
  exact k h2 I2
set_option maxHeartbeats 2000000 in
theorem LC_25 (C : CLW X Ln xs) (hL : Ln < 2 ^ 31) {i : Nat} (hi : i + 7 ≤ Ln) (hB : B < 512) (I : Inv B h) (hkc : kc ≤ 601024) (hks : ks ≤ 7293034) (k : ∀ h2, Inv (B + 1) h2 → VL X kc ks Q h2 1342 (lvL i) []) : VL X kc ks Q h 1094 (lvL i) [] := by
  obtain ⟨r, h1, h2, e1, e2, I2⟩ := S_best (N := 5000) (Nat.le_refl _) hB I (xs (i + 1)) (xs (i + 2))
  refine L_aload_n (pc := 1094) C dL_law_1094 rfl ?_
  refine L_aload_n (pc := 1095) C dL_law_1095 rfl ?_
  refine L_iload (pc := 1096) C dL_law_1096 rfl ?_
  refine L_iconst (pc := 1098) (v := 1) C dL_law_1098 (by decide) ?_
  refine L_iaddE (pc := 1099) C dL_law_1099 (la_1 i) ?_
  refine L_sld (pc := 1100) C dL_law_1100 (by omega) hL ?_
  refine L_aload_n (pc := 1101) C dL_law_1101 rfl ?_
  refine L_iload (pc := 1102) C dL_law_1102 rfl ?_
  refine L_iconst (pc := 1104) (v := 2) C dL_law_1104 (by decide) ?_
  refine L_iaddE (pc := 1105) C dL_law_1105 (la_2 i) ?_
  refine L_sld (pc := 1106) C dL_law_1106 (by omega) hL ?_
  refine L_callI (pc := 1107) (As := [.int (xs (i + 1)), .int (xs (i + 2))]) (rest := []) C dL_law_1107 lm_L_134 mk_X11_best okL0 rfl (M_X11_best (xE X) e1) rfl pd_X11_best (by omega) (by omega) (by omega) rfl (Nat.le_of_ble_eq_true rfl) hkc hks ?_
  refine L_aload_n (pc := 1110) C dL_law_1110 rfl ?_
  refine L_aload_n (pc := 1111) C dL_law_1111 rfl ?_
  refine L_iload (pc := 1112) C dL_law_1112 rfl ?_
  refine L_iconst (pc := 1114) (v := 1) C dL_law_1114 (by decide) ?_
  refine L_iaddE (pc := 1115) C dL_law_1115 (la_1 i) ?_
  refine L_sld (pc := 1116) C dL_law_1116 (by omega) hL ?_
  refine L_aload_n (pc := 1117) C dL_law_1117 rfl ?_
  refine L_iload (pc := 1118) C dL_law_1118 rfl ?_
  refine L_iconst (pc := 1120) (v := 2) C dL_law_1120 (by decide) ?_
  refine L_iaddE (pc := 1121) C dL_law_1121 (la_2 i) ?_
  refine L_sld (pc := 1122) C dL_law_1122 (by omega) hL ?_
  refine L_callI (pc := 1123) (As := [.int (xs (i + 1)), .int (xs (i + 2))]) (rest := [.int r]) C dL_law_1123 lm_L_137 mk_X12_best ok_103 rfl (M_X12_best (xE X) e2) rfl pd_X12_best (by omega) (by omega) (by omega) rfl (Nat.le_of_ble_eq_true rfl) hkc hks ?_
  refine L_icmp_eq (pc := 1126) (tgt := 1342) C dL_law_1126 (by decide) (fun _ => ?_) (fun z => absurd rfl z)
  exact k h2 I2
set_option maxHeartbeats 2000000 in
theorem LC_26 (C : CLW X Ln xs) (hL : Ln < 2 ^ 31) {i : Nat} (hi : i + 7 ≤ Ln) (hB : B < 512) (I : Inv B h) (hkc : kc ≤ 601024) (hks : ks ≤ 7293034) (k : ∀ h2, Inv (B + 1) h2 → VL X kc ks Q h2 1342 (lvL i) []) : VL X kc ks Q h 1131 (lvL i) [] := by
  obtain ⟨r, h1, h2, e1, e2, I2⟩ := S_trip (N := 5000) (Nat.le_refl _) hB I (xs (i + 1)) (xs (i + 2)) (xs (i + 3))
  refine L_aload_n (pc := 1131) C dL_law_1131 rfl ?_
  refine L_aload_n (pc := 1132) C dL_law_1132 rfl ?_
  refine L_iload (pc := 1133) C dL_law_1133 rfl ?_
  refine L_iconst (pc := 1135) (v := 1) C dL_law_1135 (by decide) ?_
  refine L_iaddE (pc := 1136) C dL_law_1136 (la_1 i) ?_
  refine L_sld (pc := 1137) C dL_law_1137 (by omega) hL ?_
  refine L_aload_n (pc := 1138) C dL_law_1138 rfl ?_
  refine L_iload (pc := 1139) C dL_law_1139 rfl ?_
  refine L_iconst (pc := 1141) (v := 2) C dL_law_1141 (by decide) ?_
  refine L_iaddE (pc := 1142) C dL_law_1142 (la_2 i) ?_
  refine L_sld (pc := 1143) C dL_law_1143 (by omega) hL ?_
  refine L_aload_n (pc := 1144) C dL_law_1144 rfl ?_
  refine L_iload (pc := 1145) C dL_law_1145 rfl ?_
  refine L_iconst (pc := 1147) (v := 3) C dL_law_1147 (by decide) ?_
  refine L_iaddE (pc := 1148) C dL_law_1148 (la_3 i) ?_
  refine L_sld (pc := 1149) C dL_law_1149 (by omega) hL ?_
  refine L_callI (pc := 1150) (As := [.int (xs (i + 1)), .int (xs (i + 2)), .int (xs (i + 3))]) (rest := []) C dL_law_1150 lm_L_138 mk_X11_trip okL0 rfl (M_X11_trip (xE X) e1) rfl pd_X11_trip (by omega) (by omega) (by omega) rfl (Nat.le_of_ble_eq_true rfl) hkc hks ?_
  refine L_aload_n (pc := 1153) C dL_law_1153 rfl ?_
  refine L_aload_n (pc := 1154) C dL_law_1154 rfl ?_
  refine L_iload (pc := 1155) C dL_law_1155 rfl ?_
  refine L_iconst (pc := 1157) (v := 1) C dL_law_1157 (by decide) ?_
  refine L_iaddE (pc := 1158) C dL_law_1158 (la_1 i) ?_
  refine L_sld (pc := 1159) C dL_law_1159 (by omega) hL ?_
  refine L_aload_n (pc := 1160) C dL_law_1160 rfl ?_
  refine L_iload (pc := 1161) C dL_law_1161 rfl ?_
  refine L_iconst (pc := 1163) (v := 2) C dL_law_1163 (by decide) ?_
  refine L_iaddE (pc := 1164) C dL_law_1164 (la_2 i) ?_
  refine L_sld (pc := 1165) C dL_law_1165 (by omega) hL ?_
  refine L_aload_n (pc := 1166) C dL_law_1166 rfl ?_
  refine L_iload (pc := 1167) C dL_law_1167 rfl ?_
  refine L_iconst (pc := 1169) (v := 3) C dL_law_1169 (by decide) ?_
  refine L_iaddE (pc := 1170) C dL_law_1170 (la_3 i) ?_
  refine L_sld (pc := 1171) C dL_law_1171 (by omega) hL ?_
  refine L_callI (pc := 1172) (As := [.int (xs (i + 1)), .int (xs (i + 2)), .int (xs (i + 3))]) (rest := [.int r]) C dL_law_1172 lm_L_141 mk_X12_trip ok_103 rfl (M_X12_trip (xE X) e2) rfl pd_X12_trip (by omega) (by omega) (by omega) rfl (Nat.le_of_ble_eq_true rfl) hkc hks ?_
  refine L_icmp_eq (pc := 1175) (tgt := 1342) C dL_law_1175 (by decide) (fun _ => ?_) (fun z => absurd rfl z)
  exact k h2 I2
set_option maxHeartbeats 2000000 in
theorem LC_27 (C : CLW X Ln xs) (hL : Ln < 2 ^ 31) {i : Nat} (hi : i + 7 ≤ Ln) (hB : B < 512) (I : Inv B h) (hkc : kc ≤ 601024) (hks : ks ≤ 7293034) (k : ∀ h2, Inv (B + 1) h2 → VL X kc ks Q h2 1342 (lvL i) []) : VL X kc ks Q h 1180 (lvL i) [] := by
  obtain ⟨r, h1, h2, e1, e2, I2⟩ := S_gauge (N := 5000) (Nat.le_refl _) hB I (xs (i + 1)) (xs (i + 2))
  refine L_aload_n (pc := 1180) C dL_law_1180 rfl ?_
  refine L_aload_n (pc := 1181) C dL_law_1181 rfl ?_
  refine L_iload (pc := 1182) C dL_law_1182 rfl ?_
  refine L_iconst (pc := 1184) (v := 1) C dL_law_1184 (by decide) ?_
  refine L_iaddE (pc := 1185) C dL_law_1185 (la_1 i) ?_
  refine L_sld (pc := 1186) C dL_law_1186 (by omega) hL ?_
  refine L_aload_n (pc := 1187) C dL_law_1187 rfl ?_
  refine L_iload (pc := 1188) C dL_law_1188 rfl ?_
  refine L_iconst (pc := 1190) (v := 2) C dL_law_1190 (by decide) ?_
  refine L_iaddE (pc := 1191) C dL_law_1191 (la_2 i) ?_
  refine L_sld (pc := 1192) C dL_law_1192 (by omega) hL ?_
  refine L_callI (pc := 1193) (As := [.int (xs (i + 1)), .int (xs (i + 2))]) (rest := []) C dL_law_1193 lm_L_142 mk_X11_gauge okL0 rfl (M_X11_gauge (xE X) e1) rfl pd_X11_gauge (by omega) (by omega) (by omega) rfl (Nat.le_of_ble_eq_true rfl) hkc hks ?_
  refine L_aload_n (pc := 1196) C dL_law_1196 rfl ?_
  refine L_aload_n (pc := 1197) C dL_law_1197 rfl ?_
  refine L_iload (pc := 1198) C dL_law_1198 rfl ?_
  refine L_iconst (pc := 1200) (v := 1) C dL_law_1200 (by decide) ?_
  refine L_iaddE (pc := 1201) C dL_law_1201 (la_1 i) ?_
  refine L_sld (pc := 1202) C dL_law_1202 (by omega) hL ?_
  refine L_aload_n (pc := 1203) C dL_law_1203 rfl ?_
  refine L_iload (pc := 1204) C dL_law_1204 rfl ?_
  refine L_iconst (pc := 1206) (v := 2) C dL_law_1206 (by decide) ?_
  refine L_iaddE (pc := 1207) C dL_law_1207 (la_2 i) ?_
  refine L_sld (pc := 1208) C dL_law_1208 (by omega) hL ?_
  refine L_callI (pc := 1209) (As := [.int (xs (i + 1)), .int (xs (i + 2))]) (rest := [.int r]) C dL_law_1209 lm_L_146 mk_X12_gauge ok_103 rfl (M_X12_gauge (xE X) e2) rfl pd_X12_gauge (by omega) (by omega) (by omega) rfl (Nat.le_of_ble_eq_true rfl) hkc hks ?_
  refine L_icmp_eq (pc := 1212) (tgt := 1342) C dL_law_1212 (by decide) (fun _ => ?_) (fun z => absurd rfl z)
  exact k h2 I2
set_option maxHeartbeats 2000000 in
theorem LC_28 (C : CLW X Ln xs) (hL : Ln < 2 ^ 31) {i : Nat} (hi : i + 7 ≤ Ln) (hB : B < 512) (I : Inv B h) (hkc : kc ≤ 601024) (hks : ks ≤ 7293034) (k : ∀ h2, Inv (B + 1) h2 → VL X kc ks Q h2 1342 (lvL i) []) : VL X kc ks Q h 1217 (lvL i) [] := by
  obtain ⟨r, h1, h2, e1, e2, I2⟩ := S_rope (N := 5000) (Nat.le_refl _) hB I (xs (i + 1)) (xs (i + 2))
  refine L_aload_n (pc := 1217) C dL_law_1217 rfl ?_
  refine L_aload_n (pc := 1218) C dL_law_1218 rfl ?_
  refine L_iload (pc := 1219) C dL_law_1219 rfl ?_
  refine L_iconst (pc := 1221) (v := 1) C dL_law_1221 (by decide) ?_
  refine L_iaddE (pc := 1222) C dL_law_1222 (la_1 i) ?_
  refine L_sld (pc := 1223) C dL_law_1223 (by omega) hL ?_
  refine L_aload_n (pc := 1224) C dL_law_1224 rfl ?_
  refine L_iload (pc := 1225) C dL_law_1225 rfl ?_
  refine L_iconst (pc := 1227) (v := 2) C dL_law_1227 (by decide) ?_
  refine L_iaddE (pc := 1228) C dL_law_1228 (la_2 i) ?_
  refine L_sld (pc := 1229) C dL_law_1229 (by omega) hL ?_
  refine L_callI (pc := 1230) (As := [.int (xs (i + 1)), .int (xs (i + 2))]) (rest := []) C dL_law_1230 lm_L_147 mk_X11_rope okL0 rfl (M_X11_rope (xE X) e1) rfl pd_X11_rope (by omega) (by omega) (by omega) rfl (Nat.le_of_ble_eq_true rfl) hkc hks ?_
  refine L_aload_n (pc := 1233) C dL_law_1233 rfl ?_
  refine L_aload_n (pc := 1234) C dL_law_1234 rfl ?_
  refine L_iload (pc := 1235) C dL_law_1235 rfl ?_
  refine L_iconst (pc := 1237) (v := 1) C dL_law_1237 (by decide) ?_
  refine L_iaddE (pc := 1238) C dL_law_1238 (la_1 i) ?_
  refine L_sld (pc := 1239) C dL_law_1239 (by omega) hL ?_
  refine L_aload_n (pc := 1240) C dL_law_1240 rfl ?_
  refine L_iload (pc := 1241) C dL_law_1241 rfl ?_
  refine L_iconst (pc := 1243) (v := 2) C dL_law_1243 (by decide) ?_
  refine L_iaddE (pc := 1244) C dL_law_1244 (la_2 i) ?_
  refine L_sld (pc := 1245) C dL_law_1245 (by omega) hL ?_
  refine L_callI (pc := 1246) (As := [.int (xs (i + 1)), .int (xs (i + 2))]) (rest := [.int r]) C dL_law_1246 lm_L_150 mk_X12_rope ok_103 rfl (M_X12_rope (xE X) e2) rfl pd_X12_rope (by omega) (by omega) (by omega) rfl (Nat.le_of_ble_eq_true rfl) hkc hks ?_
  refine L_icmp_eq (pc := 1249) (tgt := 1342) C dL_law_1249 (by decide) (fun _ => ?_) (fun z => absurd rfl z)
  exact k h2 I2
set_option maxHeartbeats 2000000 in
theorem LC_29 (C : CLW X Ln xs) (hL : Ln < 2 ^ 31) {i : Nat} (hi : i + 7 ≤ Ln) (hB : B < 512) (I : Inv B h) (hkc : kc ≤ 601024) (hks : ks ≤ 7293034) (k : ∀ h2, Inv (B + 1) h2 → VL X kc ks Q h2 1342 (lvL i) []) : VL X kc ks Q h 1254 (lvL i) [] := by
  obtain ⟨r, h1, h2, e1, e2, I2⟩ := S_first (N := 5000) (Nat.le_refl _) hB I (xs (i + 1))
  refine L_aload_n (pc := 1254) C dL_law_1254 rfl ?_
  refine L_aload_n (pc := 1255) C dL_law_1255 rfl ?_
  refine L_iload (pc := 1256) C dL_law_1256 rfl ?_
  refine L_iconst (pc := 1258) (v := 1) C dL_law_1258 (by decide) ?_
  refine L_iaddE (pc := 1259) C dL_law_1259 (la_1 i) ?_
  refine L_sld (pc := 1260) C dL_law_1260 (by omega) hL ?_
  refine L_callI (pc := 1261) (As := [.int (xs (i + 1))]) (rest := []) C dL_law_1261 lm_L_151 mk_X11_first okL0 rfl (M_X11_first (xE X) e1) rfl pd_X11_first (by omega) (by omega) (by omega) rfl (Nat.le_of_ble_eq_true rfl) hkc hks ?_
  refine L_aload_n (pc := 1264) C dL_law_1264 rfl ?_
  refine L_aload_n (pc := 1265) C dL_law_1265 rfl ?_
  refine L_iload (pc := 1266) C dL_law_1266 rfl ?_
  refine L_iconst (pc := 1268) (v := 1) C dL_law_1268 (by decide) ?_
  refine L_iaddE (pc := 1269) C dL_law_1269 (la_1 i) ?_
  refine L_sld (pc := 1270) C dL_law_1270 (by omega) hL ?_
  refine L_callI (pc := 1271) (As := [.int (xs (i + 1))]) (rest := [.int r]) C dL_law_1271 lm_L_154 mk_X12_first ok_103 rfl (M_X12_first (xE X) e2) rfl pd_X12_first (by omega) (by omega) (by omega) rfl (Nat.le_of_ble_eq_true rfl) hkc hks ?_
  refine L_icmp_eq (pc := 1274) (tgt := 1342) C dL_law_1274 (by decide) (fun _ => ?_) (fun z => absurd rfl z)
  exact k h2 I2
set_option maxHeartbeats 2000000 in
theorem LC_30 (C : CLW X Ln xs) (hL : Ln < 2 ^ 31) {i : Nat} (hi : i + 7 ≤ Ln) (hB : B < 512) (I : Inv B h) (hkc : kc ≤ 601024) (hks : ks ≤ 7293034) (k : ∀ h2, Inv (B + 1) h2 → VL X kc ks Q h2 1342 (lvL i) []) : VL X kc ks Q h 1279 (lvL i) [] := by
  obtain ⟨r, h1, h2, e1, e2, I2⟩ := S_lasts (N := 5000) (Nat.le_refl _) hB I (xs (i + 1)) (xs (i + 2))
  refine L_aload_n (pc := 1279) C dL_law_1279 rfl ?_
  refine L_aload_n (pc := 1280) C dL_law_1280 rfl ?_
  refine L_iload (pc := 1281) C dL_law_1281 rfl ?_
  refine L_iconst (pc := 1283) (v := 1) C dL_law_1283 (by decide) ?_
  refine L_iaddE (pc := 1284) C dL_law_1284 (la_1 i) ?_
  refine L_sld (pc := 1285) C dL_law_1285 (by omega) hL ?_
  refine L_aload_n (pc := 1286) C dL_law_1286 rfl ?_
  refine L_iload (pc := 1287) C dL_law_1287 rfl ?_
  refine L_iconst (pc := 1289) (v := 2) C dL_law_1289 (by decide) ?_
  refine L_iaddE (pc := 1290) C dL_law_1290 (la_2 i) ?_
  refine L_sld (pc := 1291) C dL_law_1291 (by omega) hL ?_
  refine L_callL (pc := 1292) (As := [.int (xs (i + 1)), .int (xs (i + 2))]) (rest := []) C dL_law_1292 lm_L_155 mk_X11_lasts okL0 rfl (M_X11_lasts (xE X) e1) rfl pd_X11_lasts (by omega) (by omega) (by omega) rfl (Nat.le_of_ble_eq_true rfl) hkc hks ?_
  refine L_aload_n (pc := 1295) C dL_law_1295 rfl ?_
  refine L_aload_n (pc := 1296) C dL_law_1296 rfl ?_
  refine L_iload (pc := 1297) C dL_law_1297 rfl ?_
  refine L_iconst (pc := 1299) (v := 1) C dL_law_1299 (by decide) ?_
  refine L_iaddE (pc := 1300) C dL_law_1300 (la_1 i) ?_
  refine L_sld (pc := 1301) C dL_law_1301 (by omega) hL ?_
  refine L_aload_n (pc := 1302) C dL_law_1302 rfl ?_
  refine L_iload (pc := 1303) C dL_law_1303 rfl ?_
  refine L_iconst (pc := 1305) (v := 2) C dL_law_1305 (by decide) ?_
  refine L_iaddE (pc := 1306) C dL_law_1306 (la_2 i) ?_
  refine L_sld (pc := 1307) C dL_law_1307 (by omega) hL ?_
  refine L_callL (pc := 1308) (As := [.int (xs (i + 1)), .int (xs (i + 2))]) (rest := [.long r]) C dL_law_1308 lm_L_159 mk_X12_lasts ok_103 rfl (M_X12_lasts (xE X) e2) rfl pd_X12_lasts (by omega) (by omega) (by omega) rfl (Nat.le_of_ble_eq_true rfl) hkc hks ?_
  refine L_lcmp (pc := 1311) C dL_law_1311 ?_
  refine L_if_eq (pc := 1312) (tgt := 1342) C dL_law_1312 (by decide) (fun _ => ?_) (fun z => absurd (by simp [lg_cmp]) z)
  exact k h2 I2
set_option maxHeartbeats 2000000 in
theorem LC_31 (C : CLW X Ln xs) (hL : Ln < 2 ^ 31) {i : Nat} (hi : i + 7 ≤ Ln) (hB : B < 512) (I : Inv B h) (hkc : kc ≤ 601024) (hks : ks ≤ 7293034) (k : ∀ h2, Inv (B + 1) h2 → VL X kc ks Q h2 1342 (lvL i) []) : VL X kc ks Q h 1317 (lvL i) [] := by
  obtain ⟨r, h1, h2, e1, e2, I2⟩ := S_count (N := 5000) (Nat.le_refl _) hB I (xs (i + 1))
  refine L_aload_n (pc := 1317) C dL_law_1317 rfl ?_
  refine L_aload_n (pc := 1318) C dL_law_1318 rfl ?_
  refine L_iload (pc := 1319) C dL_law_1319 rfl ?_
  refine L_iconst (pc := 1321) (v := 1) C dL_law_1321 (by decide) ?_
  refine L_iaddE (pc := 1322) C dL_law_1322 (la_1 i) ?_
  refine L_sld (pc := 1323) C dL_law_1323 (by omega) hL ?_
  refine L_callI (pc := 1324) (As := [.int (xs (i + 1))]) (rest := []) C dL_law_1324 lm_L_160 mk_X11_count okL0 rfl (M_X11_count (xE X) e1) rfl pd_X11_count (by omega) (by omega) (by omega) rfl (Nat.le_of_ble_eq_true rfl) hkc hks ?_
  refine L_aload_n (pc := 1327) C dL_law_1327 rfl ?_
  refine L_aload_n (pc := 1328) C dL_law_1328 rfl ?_
  refine L_iload (pc := 1329) C dL_law_1329 rfl ?_
  refine L_iconst (pc := 1331) (v := 1) C dL_law_1331 (by decide) ?_
  refine L_iaddE (pc := 1332) C dL_law_1332 (la_1 i) ?_
  refine L_sld (pc := 1333) C dL_law_1333 (by omega) hL ?_
  refine L_callI (pc := 1334) (As := [.int (xs (i + 1))]) (rest := [.int r]) C dL_law_1334 lm_L_163 mk_X12_count ok_103 rfl (M_X12_count (xE X) e2) rfl pd_X12_count (by omega) (by omega) (by omega) rfl (Nat.le_of_ble_eq_true rfl) hkc hks ?_
  refine L_icmp_eq (pc := 1337) (tgt := 1342) C dL_law_1337 (by decide) (fun _ => ?_) (fun z => absurd rfl z)
  exact k h2 I2
end LCS
