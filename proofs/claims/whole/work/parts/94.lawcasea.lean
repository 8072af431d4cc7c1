/-! ===== the law: its cases, 1 ===== -/
theorem lw_char (x : Int32) : vp_nar .char ((x.toUInt32 % 65536).toInt32) = (x.toUInt32 % 65536).toInt32 := by
  show (((x.toUInt32 % 65536).toInt32).toUInt32 % 65536).toInt32 = _
  rw [UInt32.toUInt32_toInt32]
  congr 1
  apply UInt32.toNat_inj.mp
  simp only [UInt32.toNat_mod]
  exact Nat.mod_mod _ _
theorem h_outD {Y : JY} (hY : YH Y) : j_g (0 : Int32) (j_ln Y 175) := by
  rw [hY.2.2.2.2.2.2.2.2.2.2.2, ← nI_0]
  exact j_g_nI (by decide) (by decide)
section LWX
variable {p : Program} {l : Launch} {e : Env} {R : Room} {s : State} {m : MethodId} {args : Array Value} {below : List Frame} {meth : Method} {c : Code} {H : Heap} {locs : List Loc} {cells slots : Nat} {Q : State → Prop}
variable {ls : Array Slot} {D : va_G} {Y : JY} {ty : Nat → ClassId} {ad : Nat → Nat} {A : Nat → Prop} {M : JM} {L b i : Nat} {xs : Nat → Int32}
theorem lw_c204 (K : lw_C p l R s m args c D Y ty A L b xs) (w : JW D Y ty ad A s.heap M H locs) (hR : RLL M) (hi : 4 * i + 4 ≤ L) (hl : lv_has ls 9 (lw_ls ad b i)) (hcR : cells + 4 ≤ R.cells) (hsR : slots + 24 ≤ R.slots) (kk : lw_K p l e R s m args below meth c cells slots Q D Y ty ad A b i) : W p l e R s m args below meth c H locs cells slots Q (F0 m 204 ls []) := by
  have K9 := K
  obtain ⟨jc, jx, hA, -, hYH, ⟨k9, k10, k104, k105⟩, hl9, hRf, hRl⟩ := K
  have hx := jc.1
  have hb := jc.2.1
  have hok := jc.2.2.2.2.2.2
  obtain ⟨k, M1, bv, M2, e1, e2, h0, hv, hR2⟩ := r_append hYH hR (lw_x xs i 1) (lw_x xs i 2)
  refine lv_aload_n hx hb dL_law_204 rfl (lv_at hl 1 rfl) ?_
  refine lw_arg 1 K9 w hi (by decide) (by decide) (lv_at hl 0 rfl) (lv_at hl 5 rfl) dL_law_205 dL_law_206 dL_law_208 dL_law_209 dL_law_210 ?_
  refine lw_arg 2 K9 w hi (by decide) (by decide) (lv_at hl 0 rfl) (lv_at hl 5 rfl) dL_law_211 dL_law_212 dL_law_214 dL_law_215 dL_law_216 ?_
  refine lv_aload_n hx hb dL_law_217 rfl (lv_at hl 3 rfl) ?_
  refine jw_call (r := k) (M' := M1) [.ref (ad 0), .int (lw_x xs i 1), .int (lw_x xs i 2), .ref (ad 174)] [] jc jx w hA (c_L_append hl9 hok k9 k104 e1) sd_W_135 rfl hl.1 (lw_hR hRf hRl rfl rfl (by omega) (by omega)) (Nat.le_of_ble_eq_true rfl) dL_law_218 (fun H1 L1 w1 => ?_)
  refine lv_istore (lv' := (6, .int k) :: lw_ls ad b i) hx hb dL_law_221 hl (by decide) rfl (fun ls hl => ?_)
  refine lv_aload_n hx hb dL_law_223 rfl (lv_at hl 3 rfl) ?_
  refine lw_arg 1 K9 w1 hi (by decide) (by decide) (lv_at hl 1 rfl) (lv_at hl 6 rfl) dL_law_224 dL_law_225 dL_law_227 dL_law_228 dL_law_229 ?_
  refine lw_arg 2 K9 w1 hi (by decide) (by decide) (lv_at hl 1 rfl) (lv_at hl 6 rfl) dL_law_230 dL_law_231 dL_law_233 dL_law_234 dL_law_235 ?_
  refine jc_vi (r := bv) (M' := M2) (o := 140) (ci := 10) [.int (lw_x xs i 1), .int (lw_x xs i 2)] [] jc w1 hA k10 (by decide) rfl (c_X10_append hok k10 e2) sd_W_140 rfl hl.1 (lw_hR hRf hRl rfl rfl (by omega) (by omega)) (Nat.le_of_ble_eq_true rfl) dL_law_236 (fun H2 L2 w2 => ?_)
  refine lv_istore (lv' := (7, .int bv) :: (6, .int k) :: lw_ls ad b i) hx hb dL_law_239 hl (by decide) rfl (fun ls hl => ?_)
  exact lw_tail K9 w2 hR2 h0 hv hl (Nat.add_le_add_left (by decide) _) (Nat.add_le_add_left (by decide) _) (by omega) (by omega) dL_law_241 dL_law_242 dL_law_245 dL_law_247 dL_law_252 dL_law_254 dL_law_257 dL_law_258 dL_law_259 dL_law_260 dL_law_262 dL_law_263 dL_law_264 dL_law_269 (by decide) kk
theorem lw_c272 (K : lw_C p l R s m args c D Y ty A L b xs) (w : JW D Y ty ad A s.heap M H locs) (hR : RLL M) (hi : 4 * i + 4 ≤ L) (hl : lv_has ls 9 (lw_ls ad b i)) (hcR : cells + 4 ≤ R.cells) (hsR : slots + 24 ≤ R.slots) (kk : lw_K p l e R s m args below meth c cells slots Q D Y ty ad A b i) : W p l e R s m args below meth c H locs cells slots Q (F0 m 272 ls []) := by
  have K9 := K
  obtain ⟨jc, jx, hA, -, hYH, ⟨k9, k10, k104, k105⟩, hl9, hRf, hRl⟩ := K
  have hx := jc.1
  have hb := jc.2.1
  have hok := jc.2.2.2.2.2.2
  obtain ⟨k, M1, bv, M2, e1, e2, h0, hv, hR2⟩ := r_insert hYH hR (lw_x xs i 1) (lw_x xs i 2) (lw_x xs i 3)
  refine lv_aload_n hx hb dL_law_272 rfl (lv_at hl 1 rfl) ?_
  refine lw_arg 1 K9 w hi (by decide) (by decide) (lv_at hl 0 rfl) (lv_at hl 5 rfl) dL_law_273 dL_law_274 dL_law_276 dL_law_277 dL_law_278 ?_
  refine lw_arg 2 K9 w hi (by decide) (by decide) (lv_at hl 0 rfl) (lv_at hl 5 rfl) dL_law_279 dL_law_280 dL_law_282 dL_law_283 dL_law_284 ?_
  refine lw_arg 3 K9 w hi (by decide) (by decide) (lv_at hl 0 rfl) (lv_at hl 5 rfl) dL_law_285 dL_law_286 dL_law_288 dL_law_289 dL_law_290 ?_
  refine lv_aload_n hx hb dL_law_291 rfl (lv_at hl 3 rfl) ?_
  refine jw_call (r := k) (M' := M1) [.ref (ad 0), .int (lw_x xs i 1), .int (lw_x xs i 2), .int (lw_x xs i 3), .ref (ad 174)] [] jc jx w hA (c_L_insert hl9 hok k9 k104 e1) sd_W_144 rfl hl.1 (lw_hR hRf hRl rfl rfl (by omega) (by omega)) (Nat.le_of_ble_eq_true rfl) dL_law_292 (fun H1 L1 w1 => ?_)
  refine lv_istore (lv' := (6, .int k) :: lw_ls ad b i) hx hb dL_law_295 hl (by decide) rfl (fun ls hl => ?_)
  refine lv_aload_n hx hb dL_law_297 rfl (lv_at hl 3 rfl) ?_
  refine lw_arg 1 K9 w1 hi (by decide) (by decide) (lv_at hl 1 rfl) (lv_at hl 6 rfl) dL_law_298 dL_law_299 dL_law_301 dL_law_302 dL_law_303 ?_
  refine lw_arg 2 K9 w1 hi (by decide) (by decide) (lv_at hl 1 rfl) (lv_at hl 6 rfl) dL_law_304 dL_law_305 dL_law_307 dL_law_308 dL_law_309 ?_
  refine lw_arg 3 K9 w1 hi (by decide) (by decide) (lv_at hl 1 rfl) (lv_at hl 6 rfl) dL_law_310 dL_law_311 dL_law_313 dL_law_314 dL_law_315 ?_
  refine jc_vi (r := bv) (M' := M2) (o := 140) (ci := 10) [.int (lw_x xs i 1), .int (lw_x xs i 2), .int (lw_x xs i 3)] [] jc w1 hA k10 (by decide) rfl (c_X10_insert hok k10 e2) sd_W_147 rfl hl.1 (lw_hR hRf hRl rfl rfl (by omega) (by omega)) (Nat.le_of_ble_eq_true rfl) dL_law_316 (fun H2 L2 w2 => ?_)
  refine lv_istore (lv' := (7, .int bv) :: (6, .int k) :: lw_ls ad b i) hx hb dL_law_319 hl (by decide) rfl (fun ls hl => ?_)
  exact lw_tail K9 w2 hR2 h0 hv hl (Nat.add_le_add_left (by decide) _) (Nat.add_le_add_left (by decide) _) (by omega) (by omega) dL_law_321 dL_law_322 dL_law_325 dL_law_327 dL_law_332 dL_law_334 dL_law_337 dL_law_338 dL_law_339 dL_law_340 dL_law_342 dL_law_343 dL_law_344 dL_law_349 (by decide) kk
theorem lw_c352 (K : lw_C p l R s m args c D Y ty A L b xs) (w : JW D Y ty ad A s.heap M H locs) (hR : RLL M) (hi : 4 * i + 4 ≤ L) (hl : lv_has ls 9 (lw_ls ad b i)) (hcR : cells + 4 ≤ R.cells) (hsR : slots + 24 ≤ R.slots) (kk : lw_K p l e R s m args below meth c cells slots Q D Y ty ad A b i) : W p l e R s m args below meth c H locs cells slots Q (F0 m 352 ls []) := by
  have K9 := K
  obtain ⟨jc, jx, hA, -, hYH, ⟨k9, k10, k104, k105⟩, hl9, hRf, hRl⟩ := K
  have hx := jc.1
  have hb := jc.2.1
  have hok := jc.2.2.2.2.2.2
  obtain ⟨k, M1, bv, M2, e1, e2, h0, hv, hR2⟩ := r_delete hYH hR (lw_x xs i 1) (lw_x xs i 2)
  refine lv_aload_n hx hb dL_law_352 rfl (lv_at hl 1 rfl) ?_
  refine lw_arg 1 K9 w hi (by decide) (by decide) (lv_at hl 0 rfl) (lv_at hl 5 rfl) dL_law_353 dL_law_354 dL_law_356 dL_law_357 dL_law_358 ?_
  refine lw_arg 2 K9 w hi (by decide) (by decide) (lv_at hl 0 rfl) (lv_at hl 5 rfl) dL_law_359 dL_law_360 dL_law_362 dL_law_363 dL_law_364 ?_
  refine lv_aload_n hx hb dL_law_365 rfl (lv_at hl 3 rfl) ?_
  refine jw_call (r := k) (M' := M1) [.ref (ad 0), .int (lw_x xs i 1), .int (lw_x xs i 2), .ref (ad 174)] [] jc jx w hA (c_L_delete hl9 hok k9 k104 e1) sd_W_148 rfl hl.1 (lw_hR hRf hRl rfl rfl (by omega) (by omega)) (Nat.le_of_ble_eq_true rfl) dL_law_366 (fun H1 L1 w1 => ?_)
  refine lv_istore (lv' := (6, .int k) :: lw_ls ad b i) hx hb dL_law_369 hl (by decide) rfl (fun ls hl => ?_)
  refine lv_aload_n hx hb dL_law_371 rfl (lv_at hl 3 rfl) ?_
  refine lw_arg 1 K9 w1 hi (by decide) (by decide) (lv_at hl 1 rfl) (lv_at hl 6 rfl) dL_law_372 dL_law_373 dL_law_375 dL_law_376 dL_law_377 ?_
  refine lw_arg 2 K9 w1 hi (by decide) (by decide) (lv_at hl 1 rfl) (lv_at hl 6 rfl) dL_law_378 dL_law_379 dL_law_381 dL_law_382 dL_law_383 ?_
  refine jc_vi (r := bv) (M' := M2) (o := 140) (ci := 10) [.int (lw_x xs i 1), .int (lw_x xs i 2)] [] jc w1 hA k10 (by decide) rfl (c_X10_delete hok k10 e2) sd_W_150 rfl hl.1 (lw_hR hRf hRl rfl rfl (by omega) (by omega)) (Nat.le_of_ble_eq_true rfl) dL_law_384 (fun H2 L2 w2 => ?_)
  refine lv_istore (lv' := (7, .int bv) :: (6, .int k) :: lw_ls ad b i) hx hb dL_law_387 hl (by decide) rfl (fun ls hl => ?_)
  exact lw_tail K9 w2 hR2 h0 hv hl (Nat.add_le_add_left (by decide) _) (Nat.add_le_add_left (by decide) _) (by omega) (by omega) dL_law_389 dL_law_390 dL_law_393 dL_law_395 dL_law_400 dL_law_402 dL_law_405 dL_law_406 dL_law_407 dL_law_408 dL_law_410 dL_law_411 dL_law_412 dL_law_417 (by decide) kk
theorem lw_c420 (K : lw_C p l R s m args c D Y ty A L b xs) (w : JW D Y ty ad A s.heap M H locs) (hR : RLL M) (hi : 4 * i + 4 ≤ L) (hl : lv_has ls 9 (lw_ls ad b i)) (hcR : cells + 4 ≤ R.cells) (hsR : slots + 24 ≤ R.slots) (kk : lw_K p l e R s m args below meth c cells slots Q D Y ty ad A b i) : W p l e R s m args below meth c H locs cells slots Q (F0 m 420 ls []) := by
  have K9 := K
  obtain ⟨jc, jx, hA, -, hYH, ⟨k9, k10, k104, k105⟩, hl9, hRf, hRl⟩ := K
  have hx := jc.1
  have hb := jc.2.1
  have hok := jc.2.2.2.2.2.2
  obtain ⟨k, M1, bv, M2, e1, e2, h0, hv, hR2⟩ := r_length hYH hR (lw_x xs i 1)
  refine lv_aload_n hx hb dL_law_420 rfl (lv_at hl 1 rfl) ?_
  refine lw_arg 1 K9 w hi (by decide) (by decide) (lv_at hl 0 rfl) (lv_at hl 5 rfl) dL_law_421 dL_law_422 dL_law_424 dL_law_425 dL_law_426 ?_
  refine lv_aload_n hx hb dL_law_427 rfl (lv_at hl 3 rfl) ?_
  refine jw_call (r := k) (M' := M1) [.ref (ad 0), .int (lw_x xs i 1), .ref (ad 174)] [] jc jx w hA (c_L_length hl9 hok k9 k104 e1) sd_W_151 rfl hl.1 (lw_hR hRf hRl rfl rfl (by omega) (by omega)) (Nat.le_of_ble_eq_true rfl) dL_law_428 (fun H1 L1 w1 => ?_)
  refine lv_istore (lv' := (6, .int k) :: lw_ls ad b i) hx hb dL_law_431 hl (by decide) rfl (fun ls hl => ?_)
  refine lv_aload_n hx hb dL_law_433 rfl (lv_at hl 3 rfl) ?_
  refine lw_arg 1 K9 w1 hi (by decide) (by decide) (lv_at hl 1 rfl) (lv_at hl 6 rfl) dL_law_434 dL_law_435 dL_law_437 dL_law_438 dL_law_439 ?_
  refine jc_vi (r := bv) (M' := M2) (o := 140) (ci := 10) [.int (lw_x xs i 1)] [] jc w1 hA k10 (by decide) rfl (c_X10_length hok k10 e2) sd_W_154 rfl hl.1 (lw_hR hRf hRl rfl rfl (by omega) (by omega)) (Nat.le_of_ble_eq_true rfl) dL_law_440 (fun H2 L2 w2 => ?_)
  refine lv_istore (lv' := (7, .int bv) :: (6, .int k) :: lw_ls ad b i) hx hb dL_law_443 hl (by decide) rfl (fun ls hl => ?_)
  exact lw_tail K9 w2 hR2 h0 hv hl (Nat.add_le_add_left (by decide) _) (Nat.add_le_add_left (by decide) _) (by omega) (by omega) dL_law_445 dL_law_446 dL_law_449 dL_law_451 dL_law_456 dL_law_458 dL_law_461 dL_law_462 dL_law_463 dL_law_464 dL_law_466 dL_law_467 dL_law_468 dL_law_473 (by decide) kk
theorem lw_c476 (K : lw_C p l R s m args c D Y ty A L b xs) (w : JW D Y ty ad A s.heap M H locs) (hR : RLL M) (hi : 4 * i + 4 ≤ L) (hl : lv_has ls 9 (lw_ls ad b i)) (hcR : cells + 4 ≤ R.cells) (hsR : slots + 24 ≤ R.slots) (kk : lw_K p l e R s m args below meth c cells slots Q D Y ty ad A b i) : W p l e R s m args below meth c H locs cells slots Q (F0 m 476 ls []) := by
  have K9 := K
  obtain ⟨jc, jx, hA, -, hYH, ⟨k9, k10, k104, k105⟩, hl9, hRf, hRl⟩ := K
  have hx := jc.1
  have hb := jc.2.1
  have hok := jc.2.2.2.2.2.2
  obtain ⟨k, M1, bv, M2, e1, e2, h0, hv, hR2⟩ := r_line hYH hR (lw_x xs i 1) (lw_x xs i 2)
  refine lv_aload_n hx hb dL_law_476 rfl (lv_at hl 1 rfl) ?_
  refine lw_arg 1 K9 w hi (by decide) (by decide) (lv_at hl 0 rfl) (lv_at hl 5 rfl) dL_law_477 dL_law_478 dL_law_480 dL_law_481 dL_law_482 ?_
  refine lw_arg 2 K9 w hi (by decide) (by decide) (lv_at hl 0 rfl) (lv_at hl 5 rfl) dL_law_483 dL_law_484 dL_law_486 dL_law_487 dL_law_488 ?_
  refine lv_aload_n hx hb dL_law_489 rfl (lv_at hl 3 rfl) ?_
  refine jw_call (r := k) (M' := M1) [.ref (ad 0), .int (lw_x xs i 1), .int (lw_x xs i 2), .ref (ad 174)] [] jc jx w hA (c_L_line hl9 hok k9 k104 e1) sd_W_155 rfl hl.1 (lw_hR hRf hRl rfl rfl (by omega) (by omega)) (Nat.le_of_ble_eq_true rfl) dL_law_490 (fun H1 L1 w1 => ?_)
  refine lv_istore (lv' := (6, .int k) :: lw_ls ad b i) hx hb dL_law_493 hl (by decide) rfl (fun ls hl => ?_)
  refine lv_aload_n hx hb dL_law_495 rfl (lv_at hl 3 rfl) ?_
  refine lw_arg 1 K9 w1 hi (by decide) (by decide) (lv_at hl 1 rfl) (lv_at hl 6 rfl) dL_law_496 dL_law_497 dL_law_499 dL_law_500 dL_law_501 ?_
  refine lw_arg 2 K9 w1 hi (by decide) (by decide) (lv_at hl 1 rfl) (lv_at hl 6 rfl) dL_law_502 dL_law_503 dL_law_505 dL_law_506 dL_law_507 ?_
  refine jc_vi (r := bv) (M' := M2) (o := 140) (ci := 10) [.int (lw_x xs i 1), .int (lw_x xs i 2)] [] jc w1 hA k10 (by decide) rfl (c_X10_line hok k10 e2) sd_W_157 rfl hl.1 (lw_hR hRf hRl rfl rfl (by omega) (by omega)) (Nat.le_of_ble_eq_true rfl) dL_law_508 (fun H2 L2 w2 => ?_)
  refine lv_istore (lv' := (7, .int bv) :: (6, .int k) :: lw_ls ad b i) hx hb dL_law_511 hl (by decide) rfl (fun ls hl => ?_)
  exact lw_tail K9 w2 hR2 h0 hv hl (Nat.add_le_add_left (by decide) _) (Nat.add_le_add_left (by decide) _) (by omega) (by omega) dL_law_513 dL_law_514 dL_law_517 dL_law_519 dL_law_524 dL_law_526 dL_law_529 dL_law_530 dL_law_531 dL_law_532 dL_law_534 dL_law_535 dL_law_536 dL_law_541 (by decide) kk
theorem lw_c544 (K : lw_C p l R s m args c D Y ty A L b xs) (w : JW D Y ty ad A s.heap M H locs) (hR : RLL M) (hi : 4 * i + 4 ≤ L) (hl : lv_has ls 9 (lw_ls ad b i)) (hcR : cells + 4 ≤ R.cells) (hsR : slots + 24 ≤ R.slots) (kk : lw_K p l e R s m args below meth c cells slots Q D Y ty ad A b i) : W p l e R s m args below meth c H locs cells slots Q (F0 m 544 ls []) := by
  have K9 := K
  obtain ⟨jc, jx, hA, -, hYH, ⟨k9, k10, k104, k105⟩, hl9, hRf, hRl⟩ := K
  have hx := jc.1
  have hb := jc.2.1
  have hok := jc.2.2.2.2.2.2
  obtain ⟨k, M1, bv, M2, e1, e2, h0, hv, hR2⟩ := r_copy hYH hR (lw_x xs i 1) (lw_x xs i 2)
  refine lv_aload_n hx hb dL_law_544 rfl (lv_at hl 1 rfl) ?_
  refine lw_arg 1 K9 w hi (by decide) (by decide) (lv_at hl 0 rfl) (lv_at hl 5 rfl) dL_law_545 dL_law_546 dL_law_548 dL_law_549 dL_law_550 ?_
  refine lw_arg 2 K9 w hi (by decide) (by decide) (lv_at hl 0 rfl) (lv_at hl 5 rfl) dL_law_551 dL_law_552 dL_law_554 dL_law_555 dL_law_556 ?_
  refine lv_aload_n hx hb dL_law_557 rfl (lv_at hl 3 rfl) ?_
  refine jw_call (r := k) (M' := M1) [.ref (ad 0), .int (lw_x xs i 1), .int (lw_x xs i 2), .ref (ad 174)] [] jc jx w hA (c_L_copy hl9 hok k9 k104 e1) sd_W_158 rfl hl.1 (lw_hR hRf hRl rfl rfl (by omega) (by omega)) (Nat.le_of_ble_eq_true rfl) dL_law_558 (fun H1 L1 w1 => ?_)
  refine lv_istore (lv' := (6, .int k) :: lw_ls ad b i) hx hb dL_law_561 hl (by decide) rfl (fun ls hl => ?_)
  refine lv_aload_n hx hb dL_law_563 rfl (lv_at hl 3 rfl) ?_
  refine lw_arg 1 K9 w1 hi (by decide) (by decide) (lv_at hl 1 rfl) (lv_at hl 6 rfl) dL_law_564 dL_law_565 dL_law_567 dL_law_568 dL_law_569 ?_
  refine lw_arg 2 K9 w1 hi (by decide) (by decide) (lv_at hl 1 rfl) (lv_at hl 6 rfl) dL_law_570 dL_law_571 dL_law_573 dL_law_574 dL_law_575 ?_
  refine jc_vi (r := bv) (M' := M2) (o := 140) (ci := 10) [.int (lw_x xs i 1), .int (lw_x xs i 2)] [] jc w1 hA k10 (by decide) rfl (c_X10_copy hok k10 e2) sd_W_160 rfl hl.1 (lw_hR hRf hRl rfl rfl (by omega) (by omega)) (Nat.le_of_ble_eq_true rfl) dL_law_576 (fun H2 L2 w2 => ?_)
  refine lv_istore (lv' := (7, .int bv) :: (6, .int k) :: lw_ls ad b i) hx hb dL_law_579 hl (by decide) rfl (fun ls hl => ?_)
  exact lw_tail K9 w2 hR2 h0 hv hl (Nat.add_le_add_left (by decide) _) (Nat.add_le_add_left (by decide) _) (by omega) (by omega) dL_law_581 dL_law_582 dL_law_585 dL_law_587 dL_law_592 dL_law_594 dL_law_597 dL_law_598 dL_law_599 dL_law_600 dL_law_602 dL_law_603 dL_law_604 dL_law_609 (by decide) kk
theorem lw_c612 (K : lw_C p l R s m args c D Y ty A L b xs) (w : JW D Y ty ad A s.heap M H locs) (hR : RLL M) (hi : 4 * i + 4 ≤ L) (hl : lv_has ls 9 (lw_ls ad b i)) (hcR : cells + 4 ≤ R.cells) (hsR : slots + 24 ≤ R.slots) (kk : lw_K p l e R s m args below meth c cells slots Q D Y ty ad A b i) : W p l e R s m args below meth c H locs cells slots Q (F0 m 612 ls []) := by
  have K9 := K
  obtain ⟨jc, jx, hA, -, hYH, ⟨k9, k10, k104, k105⟩, hl9, hRf, hRl⟩ := K
  have hx := jc.1
  have hb := jc.2.1
  have hok := jc.2.2.2.2.2.2
  obtain ⟨k, M1, bv, M2, e1, e2, h0, hv, hR2⟩ := r_isSame hYH hR (lw_x xs i 1) (lw_x xs i 2)
  refine lv_aload_n hx hb dL_law_612 rfl (lv_at hl 1 rfl) ?_
  refine lw_arg 1 K9 w hi (by decide) (by decide) (lv_at hl 0 rfl) (lv_at hl 5 rfl) dL_law_613 dL_law_614 dL_law_616 dL_law_617 dL_law_618 ?_
  refine lw_arg 2 K9 w hi (by decide) (by decide) (lv_at hl 0 rfl) (lv_at hl 5 rfl) dL_law_619 dL_law_620 dL_law_622 dL_law_623 dL_law_624 ?_
  refine lv_aload_n hx hb dL_law_625 rfl (lv_at hl 3 rfl) ?_
  refine jw_call (r := k) (M' := M1) [.ref (ad 0), .int (lw_x xs i 1), .int (lw_x xs i 2), .ref (ad 174)] [] jc jx w hA (c_L_isSame hl9 hok k9 k104 e1) sd_W_161 rfl hl.1 (lw_hR hRf hRl rfl rfl (by omega) (by omega)) (Nat.le_of_ble_eq_true rfl) dL_law_626 (fun H1 L1 w1 => ?_)
  refine lv_istore (lv' := (6, .int k) :: lw_ls ad b i) hx hb dL_law_629 hl (by decide) rfl (fun ls hl => ?_)
  refine lv_aload_n hx hb dL_law_631 rfl (lv_at hl 3 rfl) ?_
  refine lw_arg 1 K9 w1 hi (by decide) (by decide) (lv_at hl 1 rfl) (lv_at hl 6 rfl) dL_law_632 dL_law_633 dL_law_635 dL_law_636 dL_law_637 ?_
  refine lw_arg 2 K9 w1 hi (by decide) (by decide) (lv_at hl 1 rfl) (lv_at hl 6 rfl) dL_law_638 dL_law_639 dL_law_641 dL_law_642 dL_law_643 ?_
  refine jc_vz (r := bv) (M' := M2) (o := 140) (ci := 10) [.int (lw_x xs i 1), .int (lw_x xs i 2)] [] jc w1 hA k10 (by decide) rfl (c_X10_isSame hok k10 e2) sd_W_163 rfl hl.1 (lw_hR hRf hRl rfl rfl (by omega) (by omega)) (Nat.le_of_ble_eq_true rfl) dL_law_644 (fun H2 L2 w2 hz => ?_)
  refine lv_istore (lv' := (7, .int bv) :: (6, .int k) :: lw_ls ad b i) hx hb dL_law_647 hl (by decide) rfl (fun ls hl => ?_)
  have hlb : lv_has ls 9 (lw_ls ad b i) := lv_sub hl [2, 3, 4, 5, 6, 7] rfl
  refine lv_aload_n hx hb dL_law_649 rfl (lv_at hl 4 rfl) ?_
  refine jc_vi (o := 140) (ci := 10) [] [] jc w2 hA k10 (by decide) rfl (c_X10_thrown hok k10 rfl) sd_W_141 rfl hl.1 (lw_hR hRf hRl rfl rfl (by omega) (by omega)) (Nat.le_of_ble_eq_true rfl) dL_law_650 (fun H3 L3 w3 => ?_)
  have fin : W p l e R s m args below meth c H3 L3 (cells + 2) (slots + 12) Q (F0 m 684 ls []) := lv_goto (tgt := 2340) hx hb dL_law_684 (by decide) (kk _ _ _ _ _ M2 w3 hR2 hlb (Nat.add_le_add_left (by decide) _) (Nat.add_le_add_left (by decide) _))
  refine lv_iload hx hb dL_law_653 (lv_at hl 1 rfl) ?_
  refine lv_icmp_eq (tgt := 660) hx hb dL_law_655 (by decide) (fun _ => ?_) (fun c1 => absurd h0 c1)
  refine lv_iload hx hb dL_law_660 (lv_at hl 1 rfl) ?_
  refine lv_if_ne (tgt := 684) hx hb dL_law_662 (by decide) (fun _ => fin) (fun c1 => ?_)
  refine lv_aload_n hx hb dL_law_665 rfl (lv_at hl 5 rfl) ?_
  refine lv_iconst (v := 0) hx hb dL_law_666 (by decide) ?_
  refine jr_lald jc w3 k104 (j_g_in (h_out hYH.2.2.2.2.2.2.2.2.2.2.1)) dL_law_667 ?_
  refine lv_iload hx hb dL_law_668 (lv_at hl 0 rfl) ?_
  have e9 : M2 174 (0 : Int32).toNatClampNeg = bv := hv c1
  rw [e9]
  refine lv_if_eq (tgt := 677) hx hb dL_law_670 (by decide) (fun c2 => ?_) (fun c2 => ?_)
  · refine lv_lconst (v := 0) hx hb dL_law_677 (by decide) ?_
    refine W.lcmp hx hb dL_law_678 ?_
    exact lv_if_eq (tgt := 684) hx hb dL_law_679 (by decide) (fun _ => fin) (fun c3 => absurd ((lg_cmp_eq _ _).mpr (by rw [c2]; rfl)) c3)
  · refine lv_lconst (v := 1) hx hb dL_law_673 (by decide) ?_
    refine lv_goto (tgt := 678) hx hb dL_law_674 (by decide) ?_
    refine W.lcmp hx hb dL_law_678 ?_
    exact lv_if_eq (tgt := 684) hx hb dL_law_679 (by decide) (fun _ => fin) (fun c3 => absurd ((lg_cmp_eq _ _).mpr (by rw [hz.resolve_left c2]; rfl)) c3)
theorem lw_c687 (K : lw_C p l R s m args c D Y ty A L b xs) (w : JW D Y ty ad A s.heap M H locs) (hR : RLL M) (hi : 4 * i + 4 ≤ L) (hl : lv_has ls 9 (lw_ls ad b i)) (hcR : cells + 4 ≤ R.cells) (hsR : slots + 24 ≤ R.slots) (kk : lw_K p l e R s m args below meth c cells slots Q D Y ty ad A b i) : W p l e R s m args below meth c H locs cells slots Q (F0 m 687 ls []) := by
  have K9 := K
  obtain ⟨jc, jx, hA, -, hYH, ⟨k9, k10, k104, k105⟩, hl9, hRf, hRl⟩ := K
  have hx := jc.1
  have hb := jc.2.1
  have hok := jc.2.2.2.2.2.2
  obtain ⟨k, M1, bv, M2, e1, e2, h0, hv, hR2⟩ := r_distance hYH hR (lw_x xs i 1) (lw_x xs i 2)
  refine lv_aload_n hx hb dL_law_687 rfl (lv_at hl 1 rfl) ?_
  refine lw_arg 1 K9 w hi (by decide) (by decide) (lv_at hl 0 rfl) (lv_at hl 5 rfl) dL_law_688 dL_law_689 dL_law_691 dL_law_692 dL_law_693 ?_
  refine lw_arg 2 K9 w hi (by decide) (by decide) (lv_at hl 0 rfl) (lv_at hl 5 rfl) dL_law_694 dL_law_695 dL_law_697 dL_law_698 dL_law_699 ?_
  refine lv_aload_n hx hb dL_law_700 rfl (lv_at hl 3 rfl) ?_
  refine jw_call (r := k) (M' := M1) [.ref (ad 0), .int (lw_x xs i 1), .int (lw_x xs i 2), .ref (ad 174)] [] jc jx w hA (c_L_distance hl9 hok k9 k104 e1) sd_W_164 rfl hl.1 (lw_hR hRf hRl rfl rfl (by omega) (by omega)) (Nat.le_of_ble_eq_true rfl) dL_law_701 (fun H1 L1 w1 => ?_)
  refine lv_istore (lv' := (6, .int k) :: lw_ls ad b i) hx hb dL_law_704 hl (by decide) rfl (fun ls hl => ?_)
  refine lv_aload_n hx hb dL_law_706 rfl (lv_at hl 3 rfl) ?_
  refine lw_arg 1 K9 w1 hi (by decide) (by decide) (lv_at hl 1 rfl) (lv_at hl 6 rfl) dL_law_707 dL_law_708 dL_law_710 dL_law_711 dL_law_712 ?_
  refine lw_arg 2 K9 w1 hi (by decide) (by decide) (lv_at hl 1 rfl) (lv_at hl 6 rfl) dL_law_713 dL_law_714 dL_law_716 dL_law_717 dL_law_718 ?_
  refine jc_vi (r := bv) (M' := M2) (o := 140) (ci := 10) [.int (lw_x xs i 1), .int (lw_x xs i 2)] [] jc w1 hA k10 (by decide) rfl (c_X10_distance hok k10 e2) sd_W_166 rfl hl.1 (lw_hR hRf hRl rfl rfl (by omega) (by omega)) (Nat.le_of_ble_eq_true rfl) dL_law_719 (fun H2 L2 w2 => ?_)
  refine lv_istore (lv' := (7, .int bv) :: (6, .int k) :: lw_ls ad b i) hx hb dL_law_722 hl (by decide) rfl (fun ls hl => ?_)
  exact lw_tail K9 w2 hR2 h0 hv hl (Nat.add_le_add_left (by decide) _) (Nat.add_le_add_left (by decide) _) (by omega) (by omega) dL_law_724 dL_law_725 dL_law_728 dL_law_730 dL_law_735 dL_law_737 dL_law_740 dL_law_741 dL_law_742 dL_law_743 dL_law_745 dL_law_746 dL_law_747 dL_law_752 (by decide) kk
theorem lw_c755 (K : lw_C p l R s m args c D Y ty A L b xs) (w : JW D Y ty ad A s.heap M H locs) (hR : RLL M) (hi : 4 * i + 4 ≤ L) (hl : lv_has ls 9 (lw_ls ad b i)) (hcR : cells + 4 ≤ R.cells) (hsR : slots + 24 ≤ R.slots) (kk : lw_K p l e R s m args below meth c cells slots Q D Y ty ad A b i) : W p l e R s m args below meth c H locs cells slots Q (F0 m 755 ls []) := by
  have K9 := K
  obtain ⟨jc, jx, hA, -, hYH, ⟨k9, k10, k104, k105⟩, hl9, hRf, hRl⟩ := K
  have hx := jc.1
  have hb := jc.2.1
  have hok := jc.2.2.2.2.2.2
  obtain ⟨k, M1, bv, M2, e1, e2, h0, hv, hR2⟩ := r_feed hYH hR (((lw_x xs i 1).toUInt32 % 65536).toInt32) (lw_char _)
  refine lv_aload_n hx hb dL_law_755 rfl (lv_at hl 1 rfl) ?_
  refine lw_arg 1 K9 w hi (by decide) (by decide) (lv_at hl 0 rfl) (lv_at hl 5 rfl) dL_law_756 dL_law_757 dL_law_759 dL_law_760 dL_law_761 ?_
  refine lv_i2c hx hb dL_law_762 rfl ?_
  refine lv_aload_n hx hb dL_law_763 rfl (lv_at hl 3 rfl) ?_
  refine jw_call (r := k) (M' := M1) [.ref (ad 0), .int (((lw_x xs i 1).toUInt32 % 65536).toInt32), .ref (ad 174)] [] jc jx w hA (c_L_feed hl9 hok k9 k104 e1) sd_W_167 rfl hl.1 (lw_hR hRf hRl rfl rfl (by omega) (by omega)) (Nat.le_of_ble_eq_true rfl) dL_law_764 (fun H1 L1 w1 => ?_)
  refine lv_istore (lv' := (6, .int k) :: lw_ls ad b i) hx hb dL_law_767 hl (by decide) rfl (fun ls hl => ?_)
  refine lv_aload_n hx hb dL_law_769 rfl (lv_at hl 3 rfl) ?_
  refine lw_arg 1 K9 w1 hi (by decide) (by decide) (lv_at hl 1 rfl) (lv_at hl 6 rfl) dL_law_770 dL_law_771 dL_law_773 dL_law_774 dL_law_775 ?_
  refine lv_i2c hx hb dL_law_776 rfl ?_
  refine jc_vi (r := bv) (M' := M2) (o := 140) (ci := 10) [.int (((lw_x xs i 1).toUInt32 % 65536).toInt32)] [] jc w1 hA k10 (by decide) rfl (c_X10_feed hok k10 e2) sd_W_170 rfl hl.1 (lw_hR hRf hRl rfl rfl (by omega) (by omega)) (Nat.le_of_ble_eq_true rfl) dL_law_777 (fun H2 L2 w2 => ?_)
  refine lv_istore (lv' := (7, .int bv) :: (6, .int k) :: lw_ls ad b i) hx hb dL_law_780 hl (by decide) rfl (fun ls hl => ?_)
  exact lw_tail K9 w2 hR2 h0 hv hl (Nat.add_le_add_left (by decide) _) (Nat.add_le_add_left (by decide) _) (by omega) (by omega) dL_law_782 dL_law_783 dL_law_786 dL_law_788 dL_law_793 dL_law_795 dL_law_798 dL_law_799 dL_law_800 dL_law_801 dL_law_803 dL_law_804 dL_law_805 dL_law_810 (by decide) kk
theorem lw_c813 (K : lw_C p l R s m args c D Y ty A L b xs) (w : JW D Y ty ad A s.heap M H locs) (hR : RLL M) (hi : 4 * i + 4 ≤ L) (hl : lv_has ls 9 (lw_ls ad b i)) (hcR : cells + 4 ≤ R.cells) (hsR : slots + 24 ≤ R.slots) (kk : lw_K p l e R s m args below meth c cells slots Q D Y ty ad A b i) : W p l e R s m args below meth c H locs cells slots Q (F0 m 813 ls []) := by
  have K9 := K
  obtain ⟨jc, jx, hA, -, hYH, ⟨k9, k10, k104, k105⟩, hl9, hRf, hRl⟩ := K
  have hx := jc.1
  have hb := jc.2.1
  have hok := jc.2.2.2.2.2.2
  obtain ⟨k, M1, bv, M2, e1, e2, h0, hv, hR2⟩ := r_readDocument hYH hR (lw_x xs i 1)
  refine lv_aload_n hx hb dL_law_813 rfl (lv_at hl 1 rfl) ?_
  refine lw_arg 1 K9 w hi (by decide) (by decide) (lv_at hl 0 rfl) (lv_at hl 5 rfl) dL_law_814 dL_law_815 dL_law_817 dL_law_818 dL_law_819 ?_
  refine lv_aload_n hx hb dL_law_820 rfl (lv_at hl 3 rfl) ?_
  refine jw_call (r := k) (M' := M1) [.ref (ad 0), .int (lw_x xs i 1), .ref (ad 174)] [] jc jx w hA (c_L_readDocument hl9 hok k9 k104 e1) sd_W_171 rfl hl.1 (lw_hR hRf hRl rfl rfl (by omega) (by omega)) (Nat.le_of_ble_eq_true rfl) dL_law_821 (fun H1 L1 w1 => ?_)
  refine lv_istore (lv' := (6, .int k) :: lw_ls ad b i) hx hb dL_law_824 hl (by decide) rfl (fun ls hl => ?_)
  refine lv_aload_n hx hb dL_law_826 rfl (lv_at hl 3 rfl) ?_
  refine lw_arg 1 K9 w1 hi (by decide) (by decide) (lv_at hl 1 rfl) (lv_at hl 6 rfl) dL_law_827 dL_law_828 dL_law_830 dL_law_831 dL_law_832 ?_
  refine jc_vi (r := bv) (M' := M2) (o := 140) (ci := 10) [.int (lw_x xs i 1)] [] jc w1 hA k10 (by decide) rfl (c_X10_readDocument hok k10 e2) sd_W_173 rfl hl.1 (lw_hR hRf hRl rfl rfl (by omega) (by omega)) (Nat.le_of_ble_eq_true rfl) dL_law_833 (fun H2 L2 w2 => ?_)
  refine lv_istore (lv' := (7, .int bv) :: (6, .int k) :: lw_ls ad b i) hx hb dL_law_836 hl (by decide) rfl (fun ls hl => ?_)
  exact lw_tail K9 w2 hR2 h0 hv hl (Nat.add_le_add_left (by decide) _) (Nat.add_le_add_left (by decide) _) (by omega) (by omega) dL_law_838 dL_law_839 dL_law_842 dL_law_844 dL_law_849 dL_law_851 dL_law_854 dL_law_855 dL_law_856 dL_law_857 dL_law_859 dL_law_860 dL_law_861 dL_law_866 (by decide) kk
theorem lw_c869 (K : lw_C p l R s m args c D Y ty A L b xs) (w : JW D Y ty ad A s.heap M H locs) (hR : RLL M) (hi : 4 * i + 4 ≤ L) (hl : lv_has ls 9 (lw_ls ad b i)) (hcR : cells + 4 ≤ R.cells) (hsR : slots + 24 ≤ R.slots) (kk : lw_K p l e R s m args below meth c cells slots Q D Y ty ad A b i) : W p l e R s m args below meth c H locs cells slots Q (F0 m 869 ls []) := by
  have K9 := K
  obtain ⟨jc, jx, hA, -, hYH, ⟨k9, k10, k104, k105⟩, hl9, hRf, hRl⟩ := K
  have hx := jc.1
  have hb := jc.2.1
  have hok := jc.2.2.2.2.2.2
  obtain ⟨k, M1, bv, M2, e1, e2, h0, hv, hR2⟩ := r_setMode hYH hR (lw_x xs i 1)
  refine lv_aload_n hx hb dL_law_869 rfl (lv_at hl 1 rfl) ?_
  refine lw_arg 1 K9 w hi (by decide) (by decide) (lv_at hl 0 rfl) (lv_at hl 5 rfl) dL_law_870 dL_law_871 dL_law_873 dL_law_874 dL_law_875 ?_
  refine lv_aload_n hx hb dL_law_876 rfl (lv_at hl 3 rfl) ?_
  refine jw_call (r := k) (M' := M1) [.ref (ad 0), .int (lw_x xs i 1), .ref (ad 174)] [] jc jx w hA (c_L_setMode hl9 hok k9 k104 e1) sd_W_174 rfl hl.1 (lw_hR hRf hRl rfl rfl (by omega) (by omega)) (Nat.le_of_ble_eq_true rfl) dL_law_877 (fun H1 L1 w1 => ?_)
  refine lv_istore (lv' := (6, .int k) :: lw_ls ad b i) hx hb dL_law_880 hl (by decide) rfl (fun ls hl => ?_)
  refine lv_aload_n hx hb dL_law_882 rfl (lv_at hl 3 rfl) ?_
  refine lw_arg 1 K9 w1 hi (by decide) (by decide) (lv_at hl 1 rfl) (lv_at hl 6 rfl) dL_law_883 dL_law_884 dL_law_886 dL_law_887 dL_law_888 ?_
  refine jc_vi (r := bv) (M' := M2) (o := 140) (ci := 10) [.int (lw_x xs i 1)] [] jc w1 hA k10 (by decide) rfl (c_X10_setMode hok k10 (Option.some.inj e2)) sd_W_176 rfl hl.1 (lw_hR hRf hRl rfl rfl (by omega) (by omega)) (Nat.le_of_ble_eq_true rfl) dL_law_889 (fun H2 L2 w2 => ?_)
  refine lv_istore (lv' := (7, .int bv) :: (6, .int k) :: lw_ls ad b i) hx hb dL_law_892 hl (by decide) rfl (fun ls hl => ?_)
  exact lw_tail K9 w2 hR2 h0 hv hl (Nat.add_le_add_left (by decide) _) (Nat.add_le_add_left (by decide) _) (by omega) (by omega) dL_law_894 dL_law_895 dL_law_898 dL_law_900 dL_law_905 dL_law_907 dL_law_910 dL_law_911 dL_law_912 dL_law_913 dL_law_915 dL_law_916 dL_law_917 dL_law_922 (by decide) kk
theorem lw_c925 (K : lw_C p l R s m args c D Y ty A L b xs) (w : JW D Y ty ad A s.heap M H locs) (hR : RLL M) (hi : 4 * i + 4 ≤ L) (hl : lv_has ls 9 (lw_ls ad b i)) (hcR : cells + 4 ≤ R.cells) (hsR : slots + 24 ≤ R.slots) (kk : lw_K p l e R s m args below meth c cells slots Q D Y ty ad A b i) : W p l e R s m args below meth c H locs cells slots Q (F0 m 925 ls []) := by
  have K9 := K
  obtain ⟨jc, jx, hA, -, hYH, ⟨k9, k10, k104, k105⟩, hl9, hRf, hRl⟩ := K
  have hx := jc.1
  have hb := jc.2.1
  have hok := jc.2.2.2.2.2.2
  obtain ⟨k, M1, bv, M2, e1, e2, h0, hv, hR2⟩ := r_compare hYH hR (lw_x xs i 1) (lw_x xs i 2)
  refine lv_aload_n hx hb dL_law_925 rfl (lv_at hl 1 rfl) ?_
  refine lw_arg 1 K9 w hi (by decide) (by decide) (lv_at hl 0 rfl) (lv_at hl 5 rfl) dL_law_926 dL_law_927 dL_law_929 dL_law_930 dL_law_931 ?_
  refine lw_arg 2 K9 w hi (by decide) (by decide) (lv_at hl 0 rfl) (lv_at hl 5 rfl) dL_law_932 dL_law_933 dL_law_935 dL_law_936 dL_law_937 ?_
  refine lv_aload_n hx hb dL_law_938 rfl (lv_at hl 3 rfl) ?_
  refine jw_call (r := k) (M' := M1) [.ref (ad 0), .int (lw_x xs i 1), .int (lw_x xs i 2), .ref (ad 174)] [] jc jx w hA (c_L_compare hl9 hok k9 k104 e1) sd_W_177 rfl hl.1 (lw_hR hRf hRl rfl rfl (by omega) (by omega)) (Nat.le_of_ble_eq_true rfl) dL_law_939 (fun H1 L1 w1 => ?_)
  refine lv_istore (lv' := (6, .int k) :: lw_ls ad b i) hx hb dL_law_942 hl (by decide) rfl (fun ls hl => ?_)
  refine lv_aload_n hx hb dL_law_944 rfl (lv_at hl 3 rfl) ?_
  refine lw_arg 1 K9 w1 hi (by decide) (by decide) (lv_at hl 1 rfl) (lv_at hl 6 rfl) dL_law_945 dL_law_946 dL_law_948 dL_law_949 dL_law_950 ?_
  refine lw_arg 2 K9 w1 hi (by decide) (by decide) (lv_at hl 1 rfl) (lv_at hl 6 rfl) dL_law_951 dL_law_952 dL_law_954 dL_law_955 dL_law_956 ?_
  refine jc_vi (r := bv) (M' := M2) (o := 140) (ci := 10) [.int (lw_x xs i 1), .int (lw_x xs i 2)] [] jc w1 hA k10 (by decide) rfl (c_X10_compare hok k10 e2) sd_W_179 rfl hl.1 (lw_hR hRf hRl rfl rfl (by omega) (by omega)) (Nat.le_of_ble_eq_true rfl) dL_law_957 (fun H2 L2 w2 => ?_)
  refine lv_istore (lv' := (7, .int bv) :: (6, .int k) :: lw_ls ad b i) hx hb dL_law_960 hl (by decide) rfl (fun ls hl => ?_)
  exact lw_tail K9 w2 hR2 h0 hv hl (Nat.add_le_add_left (by decide) _) (Nat.add_le_add_left (by decide) _) (by omega) (by omega) dL_law_962 dL_law_963 dL_law_966 dL_law_968 dL_law_973 dL_law_975 dL_law_978 dL_law_979 dL_law_980 dL_law_981 dL_law_983 dL_law_984 dL_law_985 dL_law_990 (by decide) kk
end LWX
