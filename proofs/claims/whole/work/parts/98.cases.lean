/-- one int of the script -/
theorem l_arg {Λ : LX} (h : LC Λ) {μ : MM} {H : Heap} {locs : List Loc} {ls : Array Slot} {j k pc : Nat} {n : Int} {st : List Value} (hk : k < 6) (hn : Int32.ofInt n = nI k) (hj : j + 6 ≤ ΛL Λ) (hX : XW (ΛG Λ) (A0 (Λs Λ)) (Λs Λ) H locs μ) (hl : lv_has ls 4 (LSs Λ j)) (d1 : decode cL_law pc = .ok (.aload_n 0, 1)) (d2 : decode cL_law (pc + 1) = .ok (.iload_n 3, 1)) (d3 : decode cL_law (pc + 2) = .ok (.iconst n, 1)) (d4 : decode cL_law (pc + 3) = .ok (.iadd, 1)) (d5 : decode cL_law (pc + 4) = .ok (.iaload, 1)) (kk : LW Λ H locs (pc + 5) ls (.int (Λx Λ (j + k)) :: st)) : LW Λ H locs pc ls st := by
  have hx := h.1.1
  have hb := h.1.2.1
  have hL : ΛL Λ ≤ 3072 := h.2
  refine lv_aload_n hx hb d1 rfl (lv_at hl 3 rfl) ?_
  refine lv_iload_n hx hb d2 rfl (lv_at hl 0 rfl) ?_
  refine lv_iconst (v := nI k) hx hb d3 hn ?_
  refine lv_iadd hx hb d4 ?_
  rw [nI_add]
  refine va_sld hx hb h.1.2.2.2.2.2.2.1 h.1.2.2.2.2.2.2.2.1 (A0_n _ _ h.1.2.2.2.2.2.2.2.1) hX.2.2.1 (inb_n (show j + k < ΛL Λ by omega) (show ΛL Λ < 2 ^ 31 by omega)) d5 ?_
  rw [nI_clamp (by omega)]
  exact kk
set_option maxHeartbeats 1000000 in
theorem law_0 {Λ : LX} (h : LC Λ) {μ : MM} {H : Heap} {locs : List Loc} {ls : Array Slot} {j : Nat} (hj : j + 6 ≤ ΛL Λ) (hR : Rel μ) (hX : XW (ΛG Λ) (A0 (Λs Λ)) (Λs Λ) H locs μ) (hl : lv_has ls 4 (LSs Λ j)) (K : ∀ (μ2 : MM) (H : Heap) (locs : List Loc), Rel μ2 → XW (ΛG Λ) (A0 (Λs Λ)) (Λs Λ) H locs μ2 → LW Λ H locs 1694 ls []) : LW Λ H locs 256 ls [] := by
  obtain ⟨r, μ1, μ2, e1, e2, hR2⟩ := s_cat (Λx Λ (j + 1)) μ hR
  have hx := h.1.1
  have hb := h.1.2.1
  refine lv_aload_n hx hb dL_law_256 rfl (lv_at hl 2 rfl) ?_
  refine l_arg (k := 1) h (by decide) (by decide) hj hX hl dL_law_257 dL_law_258 dL_law_259 dL_law_260 dL_law_261 ?_
  refine l_call (lc_fix h) hX (fg_0_0 (ΛG Λ)) (c_X4_cat Λ.2.1 (ΛG Λ) e1) [] rfl hl tw1_194 tw1_195 tw1_196 tw1_1 tw1_197 rfl nd_X4_cat ⟨Nat.le_of_ble_eq_true rfl, Nat.le_of_ble_eq_true rfl⟩ (Nat.le_of_ble_eq_true rfl) dL_law_262 ⟨Nat.le_refl _, Nat.le_refl _⟩ (fun H locs hX => ?_)
  show LW Λ H locs 265 ls [.int r]
  refine lv_aload_n hx hb dL_law_265 rfl (lv_at hl 1 rfl) ?_
  refine l_arg (k := 1) h (by decide) (by decide) hj hX hl dL_law_266 dL_law_267 dL_law_268 dL_law_269 dL_law_270 ?_
  refine l_call (lc_fix h) hX (fg_37_0 (ΛG Λ)) (c_X5_cat Λ.2.1 (ΛG Λ) e2) [.int r] rfl hl tw4_162 tw4_163 tw4_164 tw1_7 tw4_165 rfl nd_X5_cat ⟨Nat.le_of_ble_eq_true rfl, Nat.le_of_ble_eq_true rfl⟩ (Nat.le_of_ble_eq_true rfl) dL_law_271 ⟨Nat.le_refl _, Nat.le_refl _⟩ (fun H locs hX => ?_)
  show LW Λ H locs 274 ls [.int r, .int r]
  exact lv_icmp_eq (tgt := 1694) hx hb dL_law_274 (by decide) (fun _ => K μ2 H locs hR2 hX) (fun z => absurd rfl z)
set_option maxHeartbeats 1000000 in
theorem law_1 {Λ : LX} (h : LC Λ) {μ : MM} {H : Heap} {locs : List Loc} {ls : Array Slot} {j : Nat} (hj : j + 6 ≤ ΛL Λ) (hR : Rel μ) (hX : XW (ΛG Λ) (A0 (Λs Λ)) (Λs Λ) H locs μ) (hl : lv_has ls 4 (LSs Λ j)) (K : ∀ (μ2 : MM) (H : Heap) (locs : List Loc), Rel μ2 → XW (ΛG Λ) (A0 (Λs Λ)) (Λs Λ) H locs μ2 → LW Λ H locs 1694 ls []) : LW Λ H locs 279 ls [] := by
  obtain ⟨r, μ1, μ2, e1, e2, hR2⟩ := s_of (Λx Λ (j + 1)) (Λx Λ (j + 2)) μ hR
  have hx := h.1.1
  have hb := h.1.2.1
  refine lv_aload_n hx hb dL_law_279 rfl (lv_at hl 2 rfl) ?_
  refine l_arg (k := 1) h (by decide) (by decide) hj hX hl dL_law_280 dL_law_281 dL_law_282 dL_law_283 dL_law_284 ?_
  refine l_arg (k := 2) h (by decide) (by decide) hj hX hl dL_law_285 dL_law_286 dL_law_287 dL_law_288 dL_law_289 ?_
  refine l_call (lc_fix h) hX (fg_0_0 (ΛG Λ)) (c_X4_of Λ.2.1 (ΛG Λ) e1) [] rfl hl tw1_214 tw1_215 tw1_216 tw1_1 tw1_217 rfl nd_X4_of ⟨Nat.le_of_ble_eq_true rfl, Nat.le_of_ble_eq_true rfl⟩ (Nat.le_of_ble_eq_true rfl) dL_law_290 ⟨Nat.le_refl _, Nat.le_refl _⟩ (fun H locs hX => ?_)
  show LW Λ H locs 293 ls [.int r]
  refine lv_aload_n hx hb dL_law_293 rfl (lv_at hl 1 rfl) ?_
  refine l_arg (k := 1) h (by decide) (by decide) hj hX hl dL_law_294 dL_law_295 dL_law_296 dL_law_297 dL_law_298 ?_
  refine l_arg (k := 2) h (by decide) (by decide) hj hX hl dL_law_299 dL_law_300 dL_law_301 dL_law_302 dL_law_303 ?_
  refine l_call (lc_fix h) hX (fg_37_0 (ΛG Λ)) (c_X5_of Λ.2.1 (ΛG Λ) e2) [.int r] rfl hl tw4_185 tw4_186 tw4_187 tw1_7 tw4_188 rfl nd_X5_of ⟨Nat.le_of_ble_eq_true rfl, Nat.le_of_ble_eq_true rfl⟩ (Nat.le_of_ble_eq_true rfl) dL_law_304 ⟨Nat.le_refl _, Nat.le_refl _⟩ (fun H locs hX => ?_)
  show LW Λ H locs 307 ls [.int r, .int r]
  exact lv_icmp_eq (tgt := 1694) hx hb dL_law_307 (by decide) (fun _ => K μ2 H locs hR2 hX) (fun z => absurd rfl z)
set_option maxHeartbeats 1000000 in
theorem law_2 {Λ : LX} (h : LC Λ) {μ : MM} {H : Heap} {locs : List Loc} {ls : Array Slot} {j : Nat} (hj : j + 6 ≤ ΛL Λ) (hR : Rel μ) (hX : XW (ΛG Λ) (A0 (Λs Λ)) (Λs Λ) H locs μ) (hl : lv_has ls 4 (LSs Λ j)) (K : ∀ (μ2 : MM) (H : Heap) (locs : List Loc), Rel μ2 → XW (ΛG Λ) (A0 (Λs Λ)) (Λs Λ) H locs μ2 → LW Λ H locs 1694 ls []) : LW Λ H locs 312 ls [] := by
  obtain ⟨r, μ1, μ2, e1, e2, hR2⟩ := s_change (Λx Λ (j + 1)) (Λx Λ (j + 2)) (Λx Λ (j + 3)) μ hR
  have hx := h.1.1
  have hb := h.1.2.1
  refine lv_aload_n hx hb dL_law_312 rfl (lv_at hl 2 rfl) ?_
  refine l_arg (k := 1) h (by decide) (by decide) hj hX hl dL_law_313 dL_law_314 dL_law_315 dL_law_316 dL_law_317 ?_
  refine l_arg (k := 2) h (by decide) (by decide) hj hX hl dL_law_318 dL_law_319 dL_law_320 dL_law_321 dL_law_322 ?_
  refine l_arg (k := 3) h (by decide) (by decide) hj hX hl dL_law_323 dL_law_324 dL_law_325 dL_law_326 dL_law_327 ?_
  refine l_call (lc_fix h) hX (fg_0_0 (ΛG Λ)) (c_X4_change Λ.2.1 (ΛG Λ) e1) [] rfl hl tw1_233 tw1_234 tw1_235 tw1_1 tw1_236 rfl nd_X4_change ⟨Nat.le_of_ble_eq_true rfl, Nat.le_of_ble_eq_true rfl⟩ (Nat.le_of_ble_eq_true rfl) dL_law_328 ⟨Nat.le_refl _, Nat.le_refl _⟩ (fun H locs hX => ?_)
  show LW Λ H locs 331 ls [.int r]
  refine lv_aload_n hx hb dL_law_331 rfl (lv_at hl 1 rfl) ?_
  refine l_arg (k := 1) h (by decide) (by decide) hj hX hl dL_law_332 dL_law_333 dL_law_334 dL_law_335 dL_law_336 ?_
  refine l_arg (k := 2) h (by decide) (by decide) hj hX hl dL_law_337 dL_law_338 dL_law_339 dL_law_340 dL_law_341 ?_
  refine l_arg (k := 3) h (by decide) (by decide) hj hX hl dL_law_342 dL_law_343 dL_law_344 dL_law_345 dL_law_346 ?_
  refine l_call (lc_fix h) hX (fg_37_0 (ΛG Λ)) (c_X5_change Λ.2.1 (ΛG Λ) e2) [.int r] rfl hl tw4_204 tw4_205 tw4_206 tw1_7 tw4_207 rfl nd_X5_change ⟨Nat.le_of_ble_eq_true rfl, Nat.le_of_ble_eq_true rfl⟩ (Nat.le_of_ble_eq_true rfl) dL_law_347 ⟨Nat.le_refl _, Nat.le_refl _⟩ (fun H locs hX => ?_)
  show LW Λ H locs 350 ls [.int r, .int r]
  exact lv_icmp_eq (tgt := 1694) hx hb dL_law_350 (by decide) (fun _ => K μ2 H locs hR2 hX) (fun z => absurd rfl z)
set_option maxHeartbeats 1000000 in
theorem law_3 {Λ : LX} (h : LC Λ) {μ : MM} {H : Heap} {locs : List Loc} {ls : Array Slot} {j : Nat} (hj : j + 6 ≤ ΛL Λ) (hR : Rel μ) (hX : XW (ΛG Λ) (A0 (Λs Λ)) (Λs Λ) H locs μ) (hl : lv_has ls 4 (LSs Λ j)) (K : ∀ (μ2 : MM) (H : Heap) (locs : List Loc), Rel μ2 → XW (ΛG Λ) (A0 (Λs Λ)) (Λs Λ) H locs μ2 → LW Λ H locs 1694 ls []) : LW Λ H locs 355 ls [] := by
  obtain ⟨r, μ1, μ2, e1, e2, hR2⟩ := s_ship (Λx Λ (j + 1)) (Λx Λ (j + 2)) μ hR
  have hx := h.1.1
  have hb := h.1.2.1
  refine lv_aload_n hx hb dL_law_355 rfl (lv_at hl 2 rfl) ?_
  refine l_arg (k := 1) h (by decide) (by decide) hj hX hl dL_law_356 dL_law_357 dL_law_358 dL_law_359 dL_law_360 ?_
  refine l_arg (k := 2) h (by decide) (by decide) hj hX hl dL_law_361 dL_law_362 dL_law_363 dL_law_364 dL_law_365 ?_
  refine l_call (lc_fix h) hX (fg_0_0 (ΛG Λ)) (c_X4_ship Λ.2.1 (ΛG Λ) e1) [] rfl hl tw2_0 tw2_1 tw2_2 tw1_1 tw2_3 rfl nd_X4_ship ⟨Nat.le_of_ble_eq_true rfl, Nat.le_of_ble_eq_true rfl⟩ (Nat.le_of_ble_eq_true rfl) dL_law_366 ⟨Nat.le_refl _, Nat.le_refl _⟩ (fun H locs hX => ?_)
  show LW Λ H locs 369 ls [.int r]
  refine lv_aload_n hx hb dL_law_369 rfl (lv_at hl 1 rfl) ?_
  refine l_arg (k := 1) h (by decide) (by decide) hj hX hl dL_law_370 dL_law_371 dL_law_372 dL_law_373 dL_law_374 ?_
  refine l_arg (k := 2) h (by decide) (by decide) hj hX hl dL_law_375 dL_law_376 dL_law_377 dL_law_378 dL_law_379 ?_
  refine l_call (lc_fix h) hX (fg_37_0 (ΛG Λ)) (c_X5_ship Λ.2.1 (ΛG Λ) e2) [.int r] rfl hl tw4_212 tw4_213 tw4_214 tw1_7 tw4_215 rfl nd_X5_ship ⟨Nat.le_of_ble_eq_true rfl, Nat.le_of_ble_eq_true rfl⟩ (Nat.le_of_ble_eq_true rfl) dL_law_380 ⟨Nat.le_refl _, Nat.le_refl _⟩ (fun H locs hX => ?_)
  show LW Λ H locs 383 ls [.int r, .int r]
  exact lv_icmp_eq (tgt := 1694) hx hb dL_law_383 (by decide) (fun _ => K μ2 H locs hR2 hX) (fun z => absurd rfl z)
set_option maxHeartbeats 1000000 in
theorem law_4 {Λ : LX} (h : LC Λ) {μ : MM} {H : Heap} {locs : List Loc} {ls : Array Slot} {j : Nat} (hj : j + 6 ≤ ΛL Λ) (hR : Rel μ) (hX : XW (ΛG Λ) (A0 (Λs Λ)) (Λs Λ) H locs μ) (hl : lv_has ls 4 (LSs Λ j)) (K : ∀ (μ2 : MM) (H : Heap) (locs : List Loc), Rel μ2 → XW (ΛG Λ) (A0 (Λs Λ)) (Λs Λ) H locs μ2 → LW Λ H locs 1694 ls []) : LW Λ H locs 388 ls [] := by
  obtain ⟨r, μ1, μ2, e1, e2, hR2⟩ := s_steer (Λx Λ (j + 1)) (Λx Λ (j + 2)) (Λx Λ (j + 3)) μ hR
  have hx := h.1.1
  have hb := h.1.2.1
  refine lv_aload_n hx hb dL_law_388 rfl (lv_at hl 2 rfl) ?_
  refine l_arg (k := 1) h (by decide) (by decide) hj hX hl dL_law_389 dL_law_390 dL_law_391 dL_law_392 dL_law_393 ?_
  refine l_arg (k := 2) h (by decide) (by decide) hj hX hl dL_law_394 dL_law_395 dL_law_396 dL_law_397 dL_law_398 ?_
  refine l_arg (k := 3) h (by decide) (by decide) hj hX hl dL_law_399 dL_law_400 dL_law_401 dL_law_402 dL_law_403 ?_
  refine l_call (lc_fix h) hX (fg_0_0 (ΛG Λ)) (c_X4_steer Λ.2.1 (ΛG Λ) e1) [] rfl hl tw2_44 tw2_45 tw2_46 tw1_1 tw2_47 rfl nd_X4_steer ⟨Nat.le_of_ble_eq_true rfl, Nat.le_of_ble_eq_true rfl⟩ (Nat.le_of_ble_eq_true rfl) dL_law_404 ⟨Nat.le_refl _, Nat.le_refl _⟩ (fun H locs hX => ?_)
  show LW Λ H locs 407 ls [.int r]
  refine lv_aload_n hx hb dL_law_407 rfl (lv_at hl 1 rfl) ?_
  refine l_arg (k := 1) h (by decide) (by decide) hj hX hl dL_law_408 dL_law_409 dL_law_410 dL_law_411 dL_law_412 ?_
  refine l_arg (k := 2) h (by decide) (by decide) hj hX hl dL_law_413 dL_law_414 dL_law_415 dL_law_416 dL_law_417 ?_
  refine l_arg (k := 3) h (by decide) (by decide) hj hX hl dL_law_418 dL_law_419 dL_law_420 dL_law_421 dL_law_422 ?_
  refine l_call (lc_fix h) hX (fg_37_0 (ΛG Λ)) (c_X5_steer Λ.2.1 (ΛG Λ) e2) [.int r] rfl hl tw5_17 tw5_18 tw5_19 tw1_7 tw5_20 rfl nd_X5_steer ⟨Nat.le_of_ble_eq_true rfl, Nat.le_of_ble_eq_true rfl⟩ (Nat.le_of_ble_eq_true rfl) dL_law_423 ⟨Nat.le_refl _, Nat.le_refl _⟩ (fun H locs hX => ?_)
  show LW Λ H locs 426 ls [.int r, .int r]
  exact lv_icmp_eq (tgt := 1694) hx hb dL_law_426 (by decide) (fun _ => K μ2 H locs hR2 hX) (fun z => absurd rfl z)
set_option maxHeartbeats 1000000 in
theorem law_5 {Λ : LX} (h : LC Λ) {μ : MM} {H : Heap} {locs : List Loc} {ls : Array Slot} {j : Nat} (hj : j + 6 ≤ ΛL Λ) (hR : Rel μ) (hX : XW (ΛG Λ) (A0 (Λs Λ)) (Λs Λ) H locs μ) (hl : lv_has ls 4 (LSs Λ j)) (K : ∀ (μ2 : MM) (H : Heap) (locs : List Loc), Rel μ2 → XW (ΛG Λ) (A0 (Λs Λ)) (Λs Λ) H locs μ2 → LW Λ H locs 1694 ls []) : LW Λ H locs 431 ls [] := by
  obtain ⟨r, μ1, μ2, e1, e2, hR2⟩ := s_island (Λx Λ (j + 1)) (Λx Λ (j + 2)) μ hR
  have hx := h.1.1
  have hb := h.1.2.1
  refine lv_aload_n hx hb dL_law_431 rfl (lv_at hl 2 rfl) ?_
  refine l_arg (k := 1) h (by decide) (by decide) hj hX hl dL_law_432 dL_law_433 dL_law_434 dL_law_435 dL_law_436 ?_
  refine l_arg (k := 2) h (by decide) (by decide) hj hX hl dL_law_437 dL_law_438 dL_law_439 dL_law_440 dL_law_441 ?_
  refine l_call (lc_fix h) hX (fg_0_0 (ΛG Λ)) (c_X4_island Λ.2.1 (ΛG Λ) e1) [] rfl hl tw2_55 tw2_56 tw2_57 tw1_1 tw2_58 rfl nd_X4_island ⟨Nat.le_of_ble_eq_true rfl, Nat.le_of_ble_eq_true rfl⟩ (Nat.le_of_ble_eq_true rfl) dL_law_442 ⟨Nat.le_refl _, Nat.le_refl _⟩ (fun H locs hX => ?_)
  show LW Λ H locs 445 ls [.int r]
  refine lv_aload_n hx hb dL_law_445 rfl (lv_at hl 1 rfl) ?_
  refine l_arg (k := 1) h (by decide) (by decide) hj hX hl dL_law_446 dL_law_447 dL_law_448 dL_law_449 dL_law_450 ?_
  refine l_arg (k := 2) h (by decide) (by decide) hj hX hl dL_law_451 dL_law_452 dL_law_453 dL_law_454 dL_law_455 ?_
  refine l_call (lc_fix h) hX (fg_37_0 (ΛG Λ)) (c_X5_island Λ.2.1 (ΛG Λ) e2) [.int r] rfl hl tw5_28 tw5_29 tw5_30 tw1_7 tw5_31 rfl nd_X5_island ⟨Nat.le_of_ble_eq_true rfl, Nat.le_of_ble_eq_true rfl⟩ (Nat.le_of_ble_eq_true rfl) dL_law_456 ⟨Nat.le_refl _, Nat.le_refl _⟩ (fun H locs hX => ?_)
  show LW Λ H locs 459 ls [.int r, .int r]
  exact lv_icmp_eq (tgt := 1694) hx hb dL_law_459 (by decide) (fun _ => K μ2 H locs hR2 hX) (fun z => absurd rfl z)
set_option maxHeartbeats 1000000 in
theorem law_6 {Λ : LX} (h : LC Λ) {μ : MM} {H : Heap} {locs : List Loc} {ls : Array Slot} {j : Nat} (hj : j + 6 ≤ ΛL Λ) (hR : Rel μ) (hX : XW (ΛG Λ) (A0 (Λs Λ)) (Λs Λ) H locs μ) (hl : lv_has ls 4 (LSs Λ j)) (K : ∀ (μ2 : MM) (H : Heap) (locs : List Loc), Rel μ2 → XW (ΛG Λ) (A0 (Λs Λ)) (Λs Λ) H locs μ2 → LW Λ H locs 1694 ls []) : LW Λ H locs 464 ls [] := by
  obtain ⟨r, μ1, μ2, e1, e2, hR2⟩ := s_wind (Λx Λ (j + 1)) μ hR
  have hx := h.1.1
  have hb := h.1.2.1
  refine lv_aload_n hx hb dL_law_464 rfl (lv_at hl 2 rfl) ?_
  refine l_arg (k := 1) h (by decide) (by decide) hj hX hl dL_law_465 dL_law_466 dL_law_467 dL_law_468 dL_law_469 ?_
  refine l_call (lc_fix h) hX (fg_0_0 (ΛG Λ)) (c_X4_wind Λ.2.1 (ΛG Λ) e1) [] rfl hl tw2_59 tw2_60 tw2_61 tw1_1 tw2_62 rfl nd_X4_wind ⟨Nat.le_of_ble_eq_true rfl, Nat.le_of_ble_eq_true rfl⟩ (Nat.le_of_ble_eq_true rfl) dL_law_470 ⟨Nat.le_refl _, Nat.le_refl _⟩ (fun H locs hX => ?_)
  show LW Λ H locs 473 ls [.int r]
  refine lv_aload_n hx hb dL_law_473 rfl (lv_at hl 1 rfl) ?_
  refine l_arg (k := 1) h (by decide) (by decide) hj hX hl dL_law_474 dL_law_475 dL_law_476 dL_law_477 dL_law_478 ?_
  refine l_call (lc_fix h) hX (fg_37_0 (ΛG Λ)) (c_X5_wind Λ.2.1 (ΛG Λ) e2) [.int r] rfl hl tw5_32 tw5_33 tw5_34 tw1_7 tw5_35 rfl nd_X5_wind ⟨Nat.le_of_ble_eq_true rfl, Nat.le_of_ble_eq_true rfl⟩ (Nat.le_of_ble_eq_true rfl) dL_law_479 ⟨Nat.le_refl _, Nat.le_refl _⟩ (fun H locs hX => ?_)
  show LW Λ H locs 482 ls [.int r, .int r]
  exact lv_icmp_eq (tgt := 1694) hx hb dL_law_482 (by decide) (fun _ => K μ2 H locs hR2 hX) (fun z => absurd rfl z)
set_option maxHeartbeats 1000000 in
theorem law_7 {Λ : LX} (h : LC Λ) {μ : MM} {H : Heap} {locs : List Loc} {ls : Array Slot} {j : Nat} (hj : j + 6 ≤ ΛL Λ) (hR : Rel μ) (hX : XW (ΛG Λ) (A0 (Λs Λ)) (Λs Λ) H locs μ) (hl : lv_has ls 4 (LSs Λ j)) (K : ∀ (μ2 : MM) (H : Heap) (locs : List Loc), Rel μ2 → XW (ΛG Λ) (A0 (Λs Λ)) (Λs Λ) H locs μ2 → LW Λ H locs 1694 ls []) : LW Λ H locs 487 ls [] := by
  obtain ⟨r, μ1, μ2, e1, e2, hR2⟩ := s_fish (Λx Λ (j + 1)) μ hR
  have hx := h.1.1
  have hb := h.1.2.1
  refine lv_aload_n hx hb dL_law_487 rfl (lv_at hl 2 rfl) ?_
  refine l_arg (k := 1) h (by decide) (by decide) hj hX hl dL_law_488 dL_law_489 dL_law_490 dL_law_491 dL_law_492 ?_
  refine l_call (lc_fix h) hX (fg_0_0 (ΛG Λ)) (c_X4_fish Λ.2.1 (ΛG Λ) e1) [] rfl hl tw2_63 tw2_64 tw2_65 tw1_1 tw2_66 rfl nd_X4_fish ⟨Nat.le_of_ble_eq_true rfl, Nat.le_of_ble_eq_true rfl⟩ (Nat.le_of_ble_eq_true rfl) dL_law_493 ⟨Nat.le_refl _, Nat.le_refl _⟩ (fun H locs hX => ?_)
  show LW Λ H locs 496 ls [.int r]
  refine lv_aload_n hx hb dL_law_496 rfl (lv_at hl 1 rfl) ?_
  refine l_arg (k := 1) h (by decide) (by decide) hj hX hl dL_law_497 dL_law_498 dL_law_499 dL_law_500 dL_law_501 ?_
  refine l_call (lc_fix h) hX (fg_37_0 (ΛG Λ)) (c_X5_fish Λ.2.1 (ΛG Λ) e2) [.int r] rfl hl tw5_36 tw5_37 tw5_38 tw1_7 tw5_39 rfl nd_X5_fish ⟨Nat.le_of_ble_eq_true rfl, Nat.le_of_ble_eq_true rfl⟩ (Nat.le_of_ble_eq_true rfl) dL_law_502 ⟨Nat.le_refl _, Nat.le_refl _⟩ (fun H locs hX => ?_)
  show LW Λ H locs 505 ls [.int r, .int r]
  exact lv_icmp_eq (tgt := 1694) hx hb dL_law_505 (by decide) (fun _ => K μ2 H locs hR2 hX) (fun z => absurd rfl z)
set_option maxHeartbeats 1000000 in
theorem law_8 {Λ : LX} (h : LC Λ) {μ : MM} {H : Heap} {locs : List Loc} {ls : Array Slot} {j : Nat} (hj : j + 6 ≤ ΛL Λ) (hR : Rel μ) (hX : XW (ΛG Λ) (A0 (Λs Λ)) (Λs Λ) H locs μ) (hl : lv_has ls 4 (LSs Λ j)) (K : ∀ (μ2 : MM) (H : Heap) (locs : List Loc), Rel μ2 → XW (ΛG Λ) (A0 (Λs Λ)) (Λs Λ) H locs μ2 → LW Λ H locs 1694 ls []) : LW Λ H locs 510 ls [] := by
  obtain ⟨r, μ1, μ2, e1, e2, hR2⟩ := s_store (Λx Λ (j + 1)) μ hR
  have hx := h.1.1
  have hb := h.1.2.1
  refine lv_aload_n hx hb dL_law_510 rfl (lv_at hl 2 rfl) ?_
  refine l_arg (k := 1) h (by decide) (by decide) hj hX hl dL_law_511 dL_law_512 dL_law_513 dL_law_514 dL_law_515 ?_
  refine l_call (lc_fix h) hX (fg_0_0 (ΛG Λ)) (c_X4_store Λ.2.1 (ΛG Λ) e1) [] rfl hl tw2_68 tw2_69 tw2_70 tw1_1 tw2_71 rfl nd_X4_store ⟨Nat.le_of_ble_eq_true rfl, Nat.le_of_ble_eq_true rfl⟩ (Nat.le_of_ble_eq_true rfl) dL_law_516 ⟨Nat.le_refl _, Nat.le_refl _⟩ (fun H locs hX => ?_)
  show LW Λ H locs 519 ls [.int r]
  refine lv_aload_n hx hb dL_law_519 rfl (lv_at hl 1 rfl) ?_
  refine l_arg (k := 1) h (by decide) (by decide) hj hX hl dL_law_520 dL_law_521 dL_law_522 dL_law_523 dL_law_524 ?_
  refine l_call (lc_fix h) hX (fg_37_0 (ΛG Λ)) (c_X5_store Λ.2.1 (ΛG Λ) e2) [.int r] rfl hl tw5_41 tw5_42 tw5_43 tw1_7 tw5_44 rfl nd_X5_store ⟨Nat.le_of_ble_eq_true rfl, Nat.le_of_ble_eq_true rfl⟩ (Nat.le_of_ble_eq_true rfl) dL_law_525 ⟨Nat.le_refl _, Nat.le_refl _⟩ (fun H locs hX => ?_)
  show LW Λ H locs 528 ls [.int r, .int r]
  exact lv_icmp_eq (tgt := 1694) hx hb dL_law_528 (by decide) (fun _ => K μ2 H locs hR2 hX) (fun z => absurd rfl z)
set_option maxHeartbeats 1000000 in
theorem law_9 {Λ : LX} (h : LC Λ) {μ : MM} {H : Heap} {locs : List Loc} {ls : Array Slot} {j : Nat} (hj : j + 6 ≤ ΛL Λ) (hR : Rel μ) (hX : XW (ΛG Λ) (A0 (Λs Λ)) (Λs Λ) H locs μ) (hl : lv_has ls 4 (LSs Λ j)) (K : ∀ (μ2 : MM) (H : Heap) (locs : List Loc), Rel μ2 → XW (ΛG Λ) (A0 (Λs Λ)) (Λs Λ) H locs μ2 → LW Λ H locs 1694 ls []) : LW Λ H locs 533 ls [] := by
  obtain ⟨r, μ1, μ2, e1, e2, hR2⟩ := s_go (Λx Λ (j + 1)) μ hR
  have hx := h.1.1
  have hb := h.1.2.1
  refine lv_aload_n hx hb dL_law_533 rfl (lv_at hl 2 rfl) ?_
  refine l_arg (k := 1) h (by decide) (by decide) hj hX hl dL_law_534 dL_law_535 dL_law_536 dL_law_537 dL_law_538 ?_
  refine l_call (lc_fix h) hX (fg_0_0 (ΛG Λ)) (c_X4_go Λ.2.1 (ΛG Λ) e1) [] rfl hl tw2_72 tw2_73 tw2_74 tw1_1 tw2_75 rfl nd_X4_go ⟨Nat.le_of_ble_eq_true rfl, Nat.le_of_ble_eq_true rfl⟩ (Nat.le_of_ble_eq_true rfl) dL_law_539 ⟨Nat.le_refl _, Nat.le_refl _⟩ (fun H locs hX => ?_)
  show LW Λ H locs 542 ls [.int r]
  refine lv_aload_n hx hb dL_law_542 rfl (lv_at hl 1 rfl) ?_
  refine l_arg (k := 1) h (by decide) (by decide) hj hX hl dL_law_543 dL_law_544 dL_law_545 dL_law_546 dL_law_547 ?_
  refine l_call (lc_fix h) hX (fg_37_0 (ΛG Λ)) (c_X5_go Λ.2.1 (ΛG Λ) e2) [.int r] rfl hl tw5_45 tw5_46 tw5_47 tw1_7 tw5_48 rfl nd_X5_go ⟨Nat.le_of_ble_eq_true rfl, Nat.le_of_ble_eq_true rfl⟩ (Nat.le_of_ble_eq_true rfl) dL_law_548 ⟨Nat.le_refl _, Nat.le_refl _⟩ (fun H locs hX => ?_)
  show LW Λ H locs 551 ls [.int r, .int r]
  exact lv_icmp_eq (tgt := 1694) hx hb dL_law_551 (by decide) (fun _ => K μ2 H locs hR2 hX) (fun z => absurd rfl z)
set_option maxHeartbeats 1000000 in
theorem law_10 {Λ : LX} (h : LC Λ) {μ : MM} {H : Heap} {locs : List Loc} {ls : Array Slot} {j : Nat} (hj : j + 6 ≤ ΛL Λ) (hR : Rel μ) (hX : XW (ΛG Λ) (A0 (Λs Λ)) (Λs Λ) H locs μ) (hl : lv_has ls 4 (LSs Λ j)) (K : ∀ (μ2 : MM) (H : Heap) (locs : List Loc), Rel μ2 → XW (ΛG Λ) (A0 (Λs Λ)) (Λs Λ) H locs μ2 → LW Λ H locs 1694 ls []) : LW Λ H locs 556 ls [] := by
  obtain ⟨r, μ1, μ2, e1, e2, hR2⟩ := s_feeds (Λx Λ (j + 1)) μ hR
  have hx := h.1.1
  have hb := h.1.2.1
  refine lv_aload_n hx hb dL_law_556 rfl (lv_at hl 2 rfl) ?_
  refine l_arg (k := 1) h (by decide) (by decide) hj hX hl dL_law_557 dL_law_558 dL_law_559 dL_law_560 dL_law_561 ?_
  refine l_call (lc_fix h) hX (fg_0_0 (ΛG Λ)) (c_X4_feeds Λ.2.1 (ΛG Λ) e1) [] rfl hl tw2_94 tw2_95 tw2_96 tw1_1 tw2_97 rfl nd_X4_feeds ⟨Nat.le_of_ble_eq_true rfl, Nat.le_of_ble_eq_true rfl⟩ (Nat.le_of_ble_eq_true rfl) dL_law_562 ⟨Nat.le_refl _, Nat.le_refl _⟩ (fun H locs hX => ?_)
  show LW Λ H locs 565 ls [.int r]
  refine lv_aload_n hx hb dL_law_565 rfl (lv_at hl 1 rfl) ?_
  refine l_arg (k := 1) h (by decide) (by decide) hj hX hl dL_law_566 dL_law_567 dL_law_568 dL_law_569 dL_law_570 ?_
  refine l_call (lc_fix h) hX (fg_37_0 (ΛG Λ)) (c_X5_feeds Λ.2.1 (ΛG Λ) e2) [.int r] rfl hl tw5_64 tw5_65 tw5_66 tw1_7 tw5_67 rfl nd_X5_feeds ⟨Nat.le_of_ble_eq_true rfl, Nat.le_of_ble_eq_true rfl⟩ (Nat.le_of_ble_eq_true rfl) dL_law_571 ⟨Nat.le_refl _, Nat.le_refl _⟩ (fun H locs hX => ?_)
  show LW Λ H locs 574 ls [.int r, .int r]
  exact lv_icmp_eq (tgt := 1694) hx hb dL_law_574 (by decide) (fun _ => K μ2 H locs hR2 hX) (fun z => absurd rfl z)
set_option maxHeartbeats 1000000 in
theorem law_11 {Λ : LX} (h : LC Λ) {μ : MM} {H : Heap} {locs : List Loc} {ls : Array Slot} {j : Nat} (hj : j + 6 ≤ ΛL Λ) (hR : Rel μ) (hX : XW (ΛG Λ) (A0 (Λs Λ)) (Λs Λ) H locs μ) (hl : lv_has ls 4 (LSs Λ j)) (K : ∀ (μ2 : MM) (H : Heap) (locs : List Loc), Rel μ2 → XW (ΛG Λ) (A0 (Λs Λ)) (Λs Λ) H locs μ2 → LW Λ H locs 1694 ls []) : LW Λ H locs 579 ls [] := by
  obtain ⟨r, μ1, μ2, e1, e2, hR2⟩ := s_now (Λx Λ (j + 1)) μ hR
  have hx := h.1.1
  have hb := h.1.2.1
  refine lv_aload_n hx hb dL_law_579 rfl (lv_at hl 2 rfl) ?_
  refine l_arg (k := 1) h (by decide) (by decide) hj hX hl dL_law_580 dL_law_581 dL_law_582 dL_law_583 dL_law_584 ?_
  refine l_call (lc_fix h) hX (fg_0_0 (ΛG Λ)) (c_X4_now Λ.2.1 (ΛG Λ) e1) [] rfl hl tw2_99 tw2_100 tw2_101 tw1_1 tw2_102 rfl nd_X4_now ⟨Nat.le_of_ble_eq_true rfl, Nat.le_of_ble_eq_true rfl⟩ (Nat.le_of_ble_eq_true rfl) dL_law_585 ⟨Nat.le_refl _, Nat.le_refl _⟩ (fun H locs hX => ?_)
  show LW Λ H locs 588 ls [.int r]
  refine lv_aload_n hx hb dL_law_588 rfl (lv_at hl 1 rfl) ?_
  refine l_arg (k := 1) h (by decide) (by decide) hj hX hl dL_law_589 dL_law_590 dL_law_591 dL_law_592 dL_law_593 ?_
  refine l_call (lc_fix h) hX (fg_37_0 (ΛG Λ)) (c_X5_now Λ.2.1 (ΛG Λ) e2) [.int r] rfl hl tw5_68 tw5_69 tw5_70 tw1_7 tw5_71 rfl nd_X5_now ⟨Nat.le_of_ble_eq_true rfl, Nat.le_of_ble_eq_true rfl⟩ (Nat.le_of_ble_eq_true rfl) dL_law_594 ⟨Nat.le_refl _, Nat.le_refl _⟩ (fun H locs hX => ?_)
  show LW Λ H locs 597 ls [.int r, .int r]
  exact lv_icmp_eq (tgt := 1694) hx hb dL_law_597 (by decide) (fun _ => K μ2 H locs hR2 hX) (fun z => absurd rfl z)
set_option maxHeartbeats 1000000 in
theorem law_12 {Λ : LX} (h : LC Λ) {μ : MM} {H : Heap} {locs : List Loc} {ls : Array Slot} {j : Nat} (hj : j + 6 ≤ ΛL Λ) (hR : Rel μ) (hX : XW (ΛG Λ) (A0 (Λs Λ)) (Λs Λ) H locs μ) (hl : lv_has ls 4 (LSs Λ j)) (K : ∀ (μ2 : MM) (H : Heap) (locs : List Loc), Rel μ2 → XW (ΛG Λ) (A0 (Λs Λ)) (Λs Λ) H locs μ2 → LW Λ H locs 1694 ls []) : LW Λ H locs 602 ls [] := by
  obtain ⟨r, μ1, μ2, e1, e2, hR2⟩ := s_ahead (Λx Λ (j + 1)) (Λx Λ (j + 2)) μ hR
  have hx := h.1.1
  have hb := h.1.2.1
  refine lv_aload_n hx hb dL_law_602 rfl (lv_at hl 2 rfl) ?_
  refine l_arg (k := 1) h (by decide) (by decide) hj hX hl dL_law_603 dL_law_604 dL_law_605 dL_law_606 dL_law_607 ?_
  refine l_arg (k := 2) h (by decide) (by decide) hj hX hl dL_law_608 dL_law_609 dL_law_610 dL_law_611 dL_law_612 ?_
  refine l_call (lc_fix h) hX (fg_0_0 (ΛG Λ)) (c_X4_ahead Λ.2.1 (ΛG Λ) e1) [] rfl hl tw2_114 tw2_115 tw2_116 tw1_1 tw2_117 rfl nd_X4_ahead ⟨Nat.le_of_ble_eq_true rfl, Nat.le_of_ble_eq_true rfl⟩ (Nat.le_of_ble_eq_true rfl) dL_law_613 ⟨Nat.le_refl _, Nat.le_refl _⟩ (fun H locs hX => ?_)
  show LW Λ H locs 616 ls [.int r]
  refine lv_aload_n hx hb dL_law_616 rfl (lv_at hl 1 rfl) ?_
  refine l_arg (k := 1) h (by decide) (by decide) hj hX hl dL_law_617 dL_law_618 dL_law_619 dL_law_620 dL_law_621 ?_
  refine l_arg (k := 2) h (by decide) (by decide) hj hX hl dL_law_622 dL_law_623 dL_law_624 dL_law_625 dL_law_626 ?_
  refine l_call (lc_fix h) hX (fg_37_0 (ΛG Λ)) (c_X5_ahead Λ.2.1 (ΛG Λ) e2) [.int r] rfl hl tw5_81 tw5_82 tw5_83 tw1_7 tw5_84 rfl nd_X5_ahead ⟨Nat.le_of_ble_eq_true rfl, Nat.le_of_ble_eq_true rfl⟩ (Nat.le_of_ble_eq_true rfl) dL_law_627 ⟨Nat.le_refl _, Nat.le_refl _⟩ (fun H locs hX => ?_)
  show LW Λ H locs 630 ls [.int r, .int r]
  exact lv_icmp_eq (tgt := 1694) hx hb dL_law_630 (by decide) (fun _ => K μ2 H locs hR2 hX) (fun z => absurd rfl z)
set_option maxHeartbeats 1000000 in
theorem law_13 {Λ : LX} (h : LC Λ) {μ : MM} {H : Heap} {locs : List Loc} {ls : Array Slot} {j : Nat} (hj : j + 6 ≤ ΛL Λ) (hR : Rel μ) (hX : XW (ΛG Λ) (A0 (Λs Λ)) (Λs Λ) H locs μ) (hl : lv_has ls 4 (LSs Λ j)) (K : ∀ (μ2 : MM) (H : Heap) (locs : List Loc), Rel μ2 → XW (ΛG Λ) (A0 (Λs Λ)) (Λs Λ) H locs μ2 → LW Λ H locs 1694 ls []) : LW Λ H locs 635 ls [] := by
  obtain ⟨r, μ1, μ2, e1, e2, hR2⟩ := s_lands (Λx Λ (j + 1)) μ hR
  have hx := h.1.1
  have hb := h.1.2.1
  refine lv_aload_n hx hb dL_law_635 rfl (lv_at hl 2 rfl) ?_
  refine l_arg (k := 1) h (by decide) (by decide) hj hX hl dL_law_636 dL_law_637 dL_law_638 dL_law_639 dL_law_640 ?_
  refine l_call (lc_fix h) hX (fg_0_0 (ΛG Λ)) (c_X4_lands Λ.2.1 (ΛG Λ) e1) [] rfl hl tw2_122 tw2_123 tw2_124 tw1_1 tw2_125 rfl nd_X4_lands ⟨Nat.le_of_ble_eq_true rfl, Nat.le_of_ble_eq_true rfl⟩ (Nat.le_of_ble_eq_true rfl) dL_law_641 ⟨Nat.le_refl _, Nat.le_refl _⟩ (fun H locs hX => ?_)
  show LW Λ H locs 644 ls [.int r]
  refine lv_aload_n hx hb dL_law_644 rfl (lv_at hl 1 rfl) ?_
  refine l_arg (k := 1) h (by decide) (by decide) hj hX hl dL_law_645 dL_law_646 dL_law_647 dL_law_648 dL_law_649 ?_
  refine l_call (lc_fix h) hX (fg_37_0 (ΛG Λ)) (c_X5_lands Λ.2.1 (ΛG Λ) e2) [.int r] rfl hl tw5_96 tw5_97 tw5_98 tw1_7 tw5_99 rfl nd_X5_lands ⟨Nat.le_of_ble_eq_true rfl, Nat.le_of_ble_eq_true rfl⟩ (Nat.le_of_ble_eq_true rfl) dL_law_650 ⟨Nat.le_refl _, Nat.le_refl _⟩ (fun H locs hX => ?_)
  show LW Λ H locs 653 ls [.int r, .int r]
  exact lv_icmp_eq (tgt := 1694) hx hb dL_law_653 (by decide) (fun _ => K μ2 H locs hR2 hX) (fun z => absurd rfl z)
set_option maxHeartbeats 1000000 in
theorem law_14 {Λ : LX} (h : LC Λ) {μ : MM} {H : Heap} {locs : List Loc} {ls : Array Slot} {j : Nat} (hj : j + 6 ≤ ΛL Λ) (hR : Rel μ) (hX : XW (ΛG Λ) (A0 (Λs Λ)) (Λs Λ) H locs μ) (hl : lv_has ls 4 (LSs Λ j)) (K : ∀ (μ2 : MM) (H : Heap) (locs : List Loc), Rel μ2 → XW (ΛG Λ) (A0 (Λs Λ)) (Λs Λ) H locs μ2 → LW Λ H locs 1694 ls []) : LW Λ H locs 658 ls [] := by
  obtain ⟨r, μ1, μ2, e1, e2, hR2⟩ := s_meets (Λx Λ (j + 1)) (Λx Λ (j + 2)) μ hR
  have hx := h.1.1
  have hb := h.1.2.1
  refine lv_aload_n hx hb dL_law_658 rfl (lv_at hl 2 rfl) ?_
  refine l_arg (k := 1) h (by decide) (by decide) hj hX hl dL_law_659 dL_law_660 dL_law_661 dL_law_662 dL_law_663 ?_
  refine l_arg (k := 2) h (by decide) (by decide) hj hX hl dL_law_664 dL_law_665 dL_law_666 dL_law_667 dL_law_668 ?_
  refine l_call (lc_fix h) hX (fg_0_0 (ΛG Λ)) (c_X4_meets Λ.2.1 (ΛG Λ) e1) [] rfl hl tw2_127 tw2_128 tw2_129 tw1_1 tw2_130 rfl nd_X4_meets ⟨Nat.le_of_ble_eq_true rfl, Nat.le_of_ble_eq_true rfl⟩ (Nat.le_of_ble_eq_true rfl) dL_law_669 ⟨Nat.le_refl _, Nat.le_refl _⟩ (fun H locs hX => ?_)
  show LW Λ H locs 672 ls [.int r]
  refine lv_aload_n hx hb dL_law_672 rfl (lv_at hl 1 rfl) ?_
  refine l_arg (k := 1) h (by decide) (by decide) hj hX hl dL_law_673 dL_law_674 dL_law_675 dL_law_676 dL_law_677 ?_
  refine l_arg (k := 2) h (by decide) (by decide) hj hX hl dL_law_678 dL_law_679 dL_law_680 dL_law_681 dL_law_682 ?_
  refine l_call (lc_fix h) hX (fg_37_0 (ΛG Λ)) (c_X5_meets Λ.2.1 (ΛG Λ) e2) [.int r] rfl hl tw5_110 tw5_111 tw5_112 tw1_7 tw5_113 rfl nd_X5_meets ⟨Nat.le_of_ble_eq_true rfl, Nat.le_of_ble_eq_true rfl⟩ (Nat.le_of_ble_eq_true rfl) dL_law_683 ⟨Nat.le_refl _, Nat.le_refl _⟩ (fun H locs hX => ?_)
  show LW Λ H locs 686 ls [.int r, .int r]
  exact lv_icmp_eq (tgt := 1694) hx hb dL_law_686 (by decide) (fun _ => K μ2 H locs hR2 hX) (fun z => absurd rfl z)
set_option maxHeartbeats 1000000 in
theorem law_15 {Λ : LX} (h : LC Λ) {μ : MM} {H : Heap} {locs : List Loc} {ls : Array Slot} {j : Nat} (hj : j + 6 ≤ ΛL Λ) (hR : Rel μ) (hX : XW (ΛG Λ) (A0 (Λs Λ)) (Λs Λ) H locs μ) (hl : lv_has ls 4 (LSs Λ j)) (K : ∀ (μ2 : MM) (H : Heap) (locs : List Loc), Rel μ2 → XW (ΛG Λ) (A0 (Λs Λ)) (Λs Λ) H locs μ2 → LW Λ H locs 1694 ls []) : LW Λ H locs 691 ls [] := by
  obtain ⟨r, μ1, μ2, e1, e2, hR2⟩ := s_still  μ hR
  have hx := h.1.1
  have hb := h.1.2.1
  refine lv_aload_n hx hb dL_law_691 rfl (lv_at hl 2 rfl) ?_
  refine l_call (lc_fix h) hX (fg_0_0 (ΛG Λ)) (c_X4_still Λ.2.1 (ΛG Λ) e1) [] rfl hl tw2_131 tw2_132 tw2_133 tw1_1 tw2_134 rfl nd_X4_still ⟨Nat.le_of_ble_eq_true rfl, Nat.le_of_ble_eq_true rfl⟩ (Nat.le_of_ble_eq_true rfl) dL_law_692 ⟨Nat.le_refl _, Nat.le_refl _⟩ (fun H locs hX => ?_)
  show LW Λ H locs 695 ls [.int r]
  refine lv_aload_n hx hb dL_law_695 rfl (lv_at hl 1 rfl) ?_
  refine l_call (lc_fix h) hX (fg_37_0 (ΛG Λ)) (c_X5_still Λ.2.1 (ΛG Λ) e2) [.int r] rfl hl tw5_114 tw5_115 tw5_116 tw1_7 tw5_117 rfl nd_X5_still ⟨Nat.le_of_ble_eq_true rfl, Nat.le_of_ble_eq_true rfl⟩ (Nat.le_of_ble_eq_true rfl) dL_law_696 ⟨Nat.le_refl _, Nat.le_refl _⟩ (fun H locs hX => ?_)
  show LW Λ H locs 699 ls [.int r, .int r]
  exact lv_icmp_eq (tgt := 1694) hx hb dL_law_699 (by decide) (fun _ => K μ2 H locs hR2 hX) (fun z => absurd rfl z)
set_option maxHeartbeats 1000000 in
theorem law_16 {Λ : LX} (h : LC Λ) {μ : MM} {H : Heap} {locs : List Loc} {ls : Array Slot} {j : Nat} (hj : j + 6 ≤ ΛL Λ) (hR : Rel μ) (hX : XW (ΛG Λ) (A0 (Λs Λ)) (Λs Λ) H locs μ) (hl : lv_has ls 4 (LSs Λ j)) (K : ∀ (μ2 : MM) (H : Heap) (locs : List Loc), Rel μ2 → XW (ΛG Λ) (A0 (Λs Λ)) (Λs Λ) H locs μ2 → LW Λ H locs 1694 ls []) : LW Λ H locs 704 ls [] := by
  obtain ⟨r, μ1, μ2, e1, e2, hR2⟩ := s_sits (Λx Λ (j + 1)) (Λx Λ (j + 2)) μ hR
  have hx := h.1.1
  have hb := h.1.2.1
  refine lv_aload_n hx hb dL_law_704 rfl (lv_at hl 2 rfl) ?_
  refine l_arg (k := 1) h (by decide) (by decide) hj hX hl dL_law_705 dL_law_706 dL_law_707 dL_law_708 dL_law_709 ?_
  refine l_arg (k := 2) h (by decide) (by decide) hj hX hl dL_law_710 dL_law_711 dL_law_712 dL_law_713 dL_law_714 ?_
  refine l_call (lc_fix h) hX (fg_0_0 (ΛG Λ)) (c_X4_sits Λ.2.1 (ΛG Λ) e1) [] rfl hl tw2_142 tw2_143 tw2_144 tw1_1 tw2_145 rfl nd_X4_sits ⟨Nat.le_of_ble_eq_true rfl, Nat.le_of_ble_eq_true rfl⟩ (Nat.le_of_ble_eq_true rfl) dL_law_715 ⟨Nat.le_refl _, Nat.le_refl _⟩ (fun H locs hX => ?_)
  show LW Λ H locs 718 ls [.int r]
  refine lv_aload_n hx hb dL_law_718 rfl (lv_at hl 1 rfl) ?_
  refine l_arg (k := 1) h (by decide) (by decide) hj hX hl dL_law_719 dL_law_720 dL_law_721 dL_law_722 dL_law_723 ?_
  refine l_arg (k := 2) h (by decide) (by decide) hj hX hl dL_law_724 dL_law_725 dL_law_726 dL_law_727 dL_law_728 ?_
  refine l_call (lc_fix h) hX (fg_37_0 (ΛG Λ)) (c_X5_sits Λ.2.1 (ΛG Λ) e2) [.int r] rfl hl tw5_122 tw5_123 tw5_124 tw1_7 tw5_125 rfl nd_X5_sits ⟨Nat.le_of_ble_eq_true rfl, Nat.le_of_ble_eq_true rfl⟩ (Nat.le_of_ble_eq_true rfl) dL_law_729 ⟨Nat.le_refl _, Nat.le_refl _⟩ (fun H locs hX => ?_)
  show LW Λ H locs 732 ls [.int r, .int r]
  exact lv_icmp_eq (tgt := 1694) hx hb dL_law_732 (by decide) (fun _ => K μ2 H locs hR2 hX) (fun z => absurd rfl z)
set_option maxHeartbeats 1000000 in
theorem law_17 {Λ : LX} (h : LC Λ) {μ : MM} {H : Heap} {locs : List Loc} {ls : Array Slot} {j : Nat} (hj : j + 6 ≤ ΛL Λ) (hR : Rel μ) (hX : XW (ΛG Λ) (A0 (Λs Λ)) (Λs Λ) H locs μ) (hl : lv_has ls 4 (LSs Λ j)) (K : ∀ (μ2 : MM) (H : Heap) (locs : List Loc), Rel μ2 → XW (ΛG Λ) (A0 (Λs Λ)) (Λs Λ) H locs μ2 → LW Λ H locs 1694 ls []) : LW Λ H locs 737 ls [] := by
  obtain ⟨r, μ1, μ2, e1, e2, hR2⟩ := s_order (Λx Λ (j + 1)) μ hR
  have hx := h.1.1
  have hb := h.1.2.1
  refine lv_aload_n hx hb dL_law_737 rfl (lv_at hl 2 rfl) ?_
  refine l_arg (k := 1) h (by decide) (by decide) hj hX hl dL_law_738 dL_law_739 dL_law_740 dL_law_741 dL_law_742 ?_
  refine l_call (lc_fix h) hX (fg_0_0 (ΛG Λ)) (c_X4_order Λ.2.1 (ΛG Λ) e1) [] rfl hl tw2_146 tw2_147 tw2_148 tw1_1 tw2_149 rfl nd_X4_order ⟨Nat.le_of_ble_eq_true rfl, Nat.le_of_ble_eq_true rfl⟩ (Nat.le_of_ble_eq_true rfl) dL_law_743 ⟨Nat.le_refl _, Nat.le_refl _⟩ (fun H locs hX => ?_)
  show LW Λ H locs 746 ls [.int r]
  refine lv_aload_n hx hb dL_law_746 rfl (lv_at hl 1 rfl) ?_
  refine l_arg (k := 1) h (by decide) (by decide) hj hX hl dL_law_747 dL_law_748 dL_law_749 dL_law_750 dL_law_751 ?_
  refine l_call (lc_fix h) hX (fg_37_0 (ΛG Λ)) (c_X5_order Λ.2.1 (ΛG Λ) e2) [.int r] rfl hl tw5_130 tw5_131 tw5_132 tw1_7 tw5_133 rfl nd_X5_order ⟨Nat.le_of_ble_eq_true rfl, Nat.le_of_ble_eq_true rfl⟩ (Nat.le_of_ble_eq_true rfl) dL_law_752 ⟨Nat.le_refl _, Nat.le_refl _⟩ (fun H locs hX => ?_)
  show LW Λ H locs 755 ls [.int r, .int r]
  exact lv_icmp_eq (tgt := 1694) hx hb dL_law_755 (by decide) (fun _ => K μ2 H locs hR2 hX) (fun z => absurd rfl z)
set_option maxHeartbeats 1000000 in
theorem law_18 {Λ : LX} (h : LC Λ) {μ : MM} {H : Heap} {locs : List Loc} {ls : Array Slot} {j : Nat} (hj : j + 6 ≤ ΛL Λ) (hR : Rel μ) (hX : XW (ΛG Λ) (A0 (Λs Λ)) (Λs Λ) H locs μ) (hl : lv_has ls 4 (LSs Λ j)) (K : ∀ (μ2 : MM) (H : Heap) (locs : List Loc), Rel μ2 → XW (ΛG Λ) (A0 (Λs Λ)) (Λs Λ) H locs μ2 → LW Λ H locs 1694 ls []) : LW Λ H locs 760 ls [] := by
  obtain ⟨r, μ1, μ2, e1, e2, hR2⟩ := s_soonest (Λx Λ (j + 1)) μ hR
  have hx := h.1.1
  have hb := h.1.2.1
  refine lv_aload_n hx hb dL_law_760 rfl (lv_at hl 2 rfl) ?_
  refine l_arg (k := 1) h (by decide) (by decide) hj hX hl dL_law_761 dL_law_762 dL_law_763 dL_law_764 dL_law_765 ?_
  refine l_call (lc_fix h) hX (fg_0_0 (ΛG Λ)) (c_X4_soonest Λ.2.1 (ΛG Λ) e1) [] rfl hl tw2_163 tw2_164 tw2_165 tw1_1 tw2_166 rfl nd_X4_soonest ⟨Nat.le_of_ble_eq_true rfl, Nat.le_of_ble_eq_true rfl⟩ (Nat.le_of_ble_eq_true rfl) dL_law_766 ⟨Nat.le_refl _, Nat.le_refl _⟩ (fun H locs hX => ?_)
  show LW Λ H locs 769 ls [.int r]
  refine lv_aload_n hx hb dL_law_769 rfl (lv_at hl 1 rfl) ?_
  refine l_arg (k := 1) h (by decide) (by decide) hj hX hl dL_law_770 dL_law_771 dL_law_772 dL_law_773 dL_law_774 ?_
  refine l_call (lc_fix h) hX (fg_37_0 (ΛG Λ)) (c_X5_soonest Λ.2.1 (ΛG Λ) e2) [.int r] rfl hl tw5_146 tw5_147 tw5_148 tw1_7 tw5_149 rfl nd_X5_soonest ⟨Nat.le_of_ble_eq_true rfl, Nat.le_of_ble_eq_true rfl⟩ (Nat.le_of_ble_eq_true rfl) dL_law_775 ⟨Nat.le_refl _, Nat.le_refl _⟩ (fun H locs hX => ?_)
  show LW Λ H locs 778 ls [.int r, .int r]
  exact lv_icmp_eq (tgt := 1694) hx hb dL_law_778 (by decide) (fun _ => K μ2 H locs hR2 hX) (fun z => absurd rfl z)
set_option maxHeartbeats 1000000 in
theorem law_19 {Λ : LX} (h : LC Λ) {μ : MM} {H : Heap} {locs : List Loc} {ls : Array Slot} {j : Nat} (hj : j + 6 ≤ ΛL Λ) (hR : Rel μ) (hX : XW (ΛG Λ) (A0 (Λs Λ)) (Λs Λ) H locs μ) (hl : lv_has ls 4 (LSs Λ j)) (K : ∀ (μ2 : MM) (H : Heap) (locs : List Loc), Rel μ2 → XW (ΛG Λ) (A0 (Λs Λ)) (Λs Λ) H locs μ2 → LW Λ H locs 1694 ls []) : LW Λ H locs 783 ls [] := by
  obtain ⟨r, μ1, μ2, e1, e2, hR2⟩ := s_orders (Λx Λ (j + 1)) (Λx Λ (j + 2)) μ hR
  have hx := h.1.1
  have hb := h.1.2.1
  refine lv_aload_n hx hb dL_law_783 rfl (lv_at hl 2 rfl) ?_
  refine l_arg (k := 1) h (by decide) (by decide) hj hX hl dL_law_784 dL_law_785 dL_law_786 dL_law_787 dL_law_788 ?_
  refine l_arg (k := 2) h (by decide) (by decide) hj hX hl dL_law_789 dL_law_790 dL_law_791 dL_law_792 dL_law_793 ?_
  refine l_call (lc_fix h) hX (fg_0_0 (ΛG Λ)) (c_X4_orders Λ.2.1 (ΛG Λ) e1) [] rfl hl tw2_167 tw2_168 tw2_169 tw1_1 tw2_170 rfl nd_X4_orders ⟨Nat.le_of_ble_eq_true rfl, Nat.le_of_ble_eq_true rfl⟩ (Nat.le_of_ble_eq_true rfl) dL_law_794 ⟨Nat.le_refl _, Nat.le_refl _⟩ (fun H locs hX => ?_)
  show LW Λ H locs 797 ls [.long r]
  refine lv_aload_n hx hb dL_law_797 rfl (lv_at hl 1 rfl) ?_
  refine l_arg (k := 1) h (by decide) (by decide) hj hX hl dL_law_798 dL_law_799 dL_law_800 dL_law_801 dL_law_802 ?_
  refine l_arg (k := 2) h (by decide) (by decide) hj hX hl dL_law_803 dL_law_804 dL_law_805 dL_law_806 dL_law_807 ?_
  refine l_call (lc_fix h) hX (fg_37_0 (ΛG Λ)) (c_X5_orders Λ.2.1 (ΛG Λ) e2) [.long r] rfl hl tw5_150 tw5_151 tw5_152 tw1_7 tw5_153 rfl nd_X5_orders ⟨Nat.le_of_ble_eq_true rfl, Nat.le_of_ble_eq_true rfl⟩ (Nat.le_of_ble_eq_true rfl) dL_law_808 ⟨Nat.le_refl _, Nat.le_refl _⟩ (fun H locs hX => ?_)
  show LW Λ H locs 811 ls [.long r, .long r]
  refine W.lcmp hx hb dL_law_811 ?_
  exact lv_if_eq (tgt := 1694) hx hb dL_law_812 (by decide) (fun _ => K μ2 H locs hR2 hX) (fun z => absurd ((lg_cmp_eq r r).mpr rfl) z)
set_option maxHeartbeats 1000000 in
theorem law_20 {Λ : LX} (h : LC Λ) {μ : MM} {H : Heap} {locs : List Loc} {ls : Array Slot} {j : Nat} (hj : j + 6 ≤ ΛL Λ) (hR : Rel μ) (hX : XW (ΛG Λ) (A0 (Λs Λ)) (Λs Λ) H locs μ) (hl : lv_has ls 4 (LSs Λ j)) (K : ∀ (μ2 : MM) (H : Heap) (locs : List Loc), Rel μ2 → XW (ΛG Λ) (A0 (Λs Λ)) (Λs Λ) H locs μ2 → LW Λ H locs 1694 ls []) : LW Λ H locs 817 ls [] := by
  obtain ⟨r, μ1, μ2, e1, e2, hR2⟩ := s_surest (Λx Λ (j + 1)) μ hR
  have hx := h.1.1
  have hb := h.1.2.1
  refine lv_aload_n hx hb dL_law_817 rfl (lv_at hl 2 rfl) ?_
  refine l_arg (k := 1) h (by decide) (by decide) hj hX hl dL_law_818 dL_law_819 dL_law_820 dL_law_821 dL_law_822 ?_
  refine l_call (lc_fix h) hX (fg_0_0 (ΛG Λ)) (c_X4_surest Λ.2.1 (ΛG Λ) e1) [] rfl hl tw2_175 tw2_176 tw2_177 tw1_1 tw2_178 rfl nd_X4_surest ⟨Nat.le_of_ble_eq_true rfl, Nat.le_of_ble_eq_true rfl⟩ (Nat.le_of_ble_eq_true rfl) dL_law_823 ⟨Nat.le_refl _, Nat.le_refl _⟩ (fun H locs hX => ?_)
  show LW Λ H locs 826 ls [.int r]
  refine lv_aload_n hx hb dL_law_826 rfl (lv_at hl 1 rfl) ?_
  refine l_arg (k := 1) h (by decide) (by decide) hj hX hl dL_law_827 dL_law_828 dL_law_829 dL_law_830 dL_law_831 ?_
  refine l_call (lc_fix h) hX (fg_37_0 (ΛG Λ)) (c_X5_surest Λ.2.1 (ΛG Λ) e2) [.int r] rfl hl tw5_154 tw5_155 tw5_156 tw1_7 tw5_157 rfl nd_X5_surest ⟨Nat.le_of_ble_eq_true rfl, Nat.le_of_ble_eq_true rfl⟩ (Nat.le_of_ble_eq_true rfl) dL_law_832 ⟨Nat.le_refl _, Nat.le_refl _⟩ (fun H locs hX => ?_)
  show LW Λ H locs 835 ls [.int r, .int r]
  exact lv_icmp_eq (tgt := 1694) hx hb dL_law_835 (by decide) (fun _ => K μ2 H locs hR2 hX) (fun z => absurd rfl z)
set_option maxHeartbeats 1000000 in
theorem law_21 {Λ : LX} (h : LC Λ) {μ : MM} {H : Heap} {locs : List Loc} {ls : Array Slot} {j : Nat} (hj : j + 6 ≤ ΛL Λ) (hR : Rel μ) (hX : XW (ΛG Λ) (A0 (Λs Λ)) (Λs Λ) H locs μ) (hl : lv_has ls 4 (LSs Λ j)) (K : ∀ (μ2 : MM) (H : Heap) (locs : List Loc), Rel μ2 → XW (ΛG Λ) (A0 (Λs Λ)) (Λs Λ) H locs μ2 → LW Λ H locs 1694 ls []) : LW Λ H locs 840 ls [] := by
  obtain ⟨r, μ1, μ2, e1, e2, hR2⟩ := s_winds (Λx Λ (j + 1)) μ hR
  have hx := h.1.1
  have hb := h.1.2.1
  refine lv_aload_n hx hb dL_law_840 rfl (lv_at hl 2 rfl) ?_
  refine l_arg (k := 1) h (by decide) (by decide) hj hX hl dL_law_841 dL_law_842 dL_law_843 dL_law_844 dL_law_845 ?_
  refine l_call (lc_fix h) hX (fg_0_0 (ΛG Λ)) (c_X4_winds Λ.2.1 (ΛG Λ) e1) [] rfl hl tw2_187 tw2_188 tw2_189 tw1_1 tw2_190 rfl nd_X4_winds ⟨Nat.le_of_ble_eq_true rfl, Nat.le_of_ble_eq_true rfl⟩ (Nat.le_of_ble_eq_true rfl) dL_law_846 ⟨Nat.le_refl _, Nat.le_refl _⟩ (fun H locs hX => ?_)
  show LW Λ H locs 849 ls [.int r]
  refine lv_aload_n hx hb dL_law_849 rfl (lv_at hl 1 rfl) ?_
  refine l_arg (k := 1) h (by decide) (by decide) hj hX hl dL_law_850 dL_law_851 dL_law_852 dL_law_853 dL_law_854 ?_
  refine l_call (lc_fix h) hX (fg_37_0 (ΛG Λ)) (c_X5_winds Λ.2.1 (ΛG Λ) e2) [.int r] rfl hl tw5_162 tw5_163 tw5_164 tw1_7 tw5_165 rfl nd_X5_winds ⟨Nat.le_of_ble_eq_true rfl, Nat.le_of_ble_eq_true rfl⟩ (Nat.le_of_ble_eq_true rfl) dL_law_855 ⟨Nat.le_refl _, Nat.le_refl _⟩ (fun H locs hX => ?_)
  show LW Λ H locs 858 ls [.int r, .int r]
  exact lv_icmp_eq (tgt := 1694) hx hb dL_law_858 (by decide) (fun _ => K μ2 H locs hR2 hX) (fun z => absurd rfl z)
set_option maxHeartbeats 1000000 in
theorem law_22 {Λ : LX} (h : LC Λ) {μ : MM} {H : Heap} {locs : List Loc} {ls : Array Slot} {j : Nat} (hj : j + 6 ≤ ΛL Λ) (hR : Rel μ) (hX : XW (ΛG Λ) (A0 (Λs Λ)) (Λs Λ) H locs μ) (hl : lv_has ls 4 (LSs Λ j)) (K : ∀ (μ2 : MM) (H : Heap) (locs : List Loc), Rel μ2 → XW (ΛG Λ) (A0 (Λs Λ)) (Λs Λ) H locs μ2 → LW Λ H locs 1694 ls []) : LW Λ H locs 863 ls [] := by
  obtain ⟨r, μ1, μ2, e1, e2, hR2⟩ := s_windFor (Λx Λ (j + 1)) μ hR
  have hx := h.1.1
  have hb := h.1.2.1
  refine lv_aload_n hx hb dL_law_863 rfl (lv_at hl 2 rfl) ?_
  refine l_arg (k := 1) h (by decide) (by decide) hj hX hl dL_law_864 dL_law_865 dL_law_866 dL_law_867 dL_law_868 ?_
  refine l_call (lc_fix h) hX (fg_0_0 (ΛG Λ)) (c_X4_windFor Λ.2.1 (ΛG Λ) e1) [] rfl hl tw2_191 tw2_192 tw2_193 tw1_1 tw2_194 rfl nd_X4_windFor ⟨Nat.le_of_ble_eq_true rfl, Nat.le_of_ble_eq_true rfl⟩ (Nat.le_of_ble_eq_true rfl) dL_law_869 ⟨Nat.le_refl _, Nat.le_refl _⟩ (fun H locs hX => ?_)
  show LW Λ H locs 872 ls [.int r]
  refine lv_aload_n hx hb dL_law_872 rfl (lv_at hl 1 rfl) ?_
  refine l_arg (k := 1) h (by decide) (by decide) hj hX hl dL_law_873 dL_law_874 dL_law_875 dL_law_876 dL_law_877 ?_
  refine l_call (lc_fix h) hX (fg_37_0 (ΛG Λ)) (c_X5_windFor Λ.2.1 (ΛG Λ) e2) [.int r] rfl hl tw5_166 tw5_167 tw5_168 tw1_7 tw5_169 rfl nd_X5_windFor ⟨Nat.le_of_ble_eq_true rfl, Nat.le_of_ble_eq_true rfl⟩ (Nat.le_of_ble_eq_true rfl) dL_law_878 ⟨Nat.le_refl _, Nat.le_refl _⟩ (fun H locs hX => ?_)
  show LW Λ H locs 881 ls [.int r, .int r]
  exact lv_icmp_eq (tgt := 1694) hx hb dL_law_881 (by decide) (fun _ => K μ2 H locs hR2 hX) (fun z => absurd rfl z)
set_option maxHeartbeats 1000000 in
theorem law_23 {Λ : LX} (h : LC Λ) {μ : MM} {H : Heap} {locs : List Loc} {ls : Array Slot} {j : Nat} (hj : j + 6 ≤ ΛL Λ) (hR : Rel μ) (hX : XW (ΛG Λ) (A0 (Λs Λ)) (Λs Λ) H locs μ) (hl : lv_has ls 4 (LSs Λ j)) (K : ∀ (μ2 : MM) (H : Heap) (locs : List Loc), Rel μ2 → XW (ΛG Λ) (A0 (Λs Λ)) (Λs Λ) H locs μ2 → LW Λ H locs 1694 ls []) : LW Λ H locs 886 ls [] := by
  obtain ⟨r, μ1, μ2, e1, e2, hR2⟩ := s_crew (Λx Λ (j + 1)) μ hR
  have hx := h.1.1
  have hb := h.1.2.1
  refine lv_aload_n hx hb dL_law_886 rfl (lv_at hl 2 rfl) ?_
  refine l_arg (k := 1) h (by decide) (by decide) hj hX hl dL_law_887 dL_law_888 dL_law_889 dL_law_890 dL_law_891 ?_
  refine l_call (lc_fix h) hX (fg_0_0 (ΛG Λ)) (c_X4_crew Λ.2.1 (ΛG Λ) e1) [] rfl hl tw2_195 tw2_196 tw2_197 tw1_1 tw2_198 rfl nd_X4_crew ⟨Nat.le_of_ble_eq_true rfl, Nat.le_of_ble_eq_true rfl⟩ (Nat.le_of_ble_eq_true rfl) dL_law_892 ⟨Nat.le_refl _, Nat.le_refl _⟩ (fun H locs hX => ?_)
  show LW Λ H locs 895 ls [.int r]
  refine lv_aload_n hx hb dL_law_895 rfl (lv_at hl 1 rfl) ?_
  refine l_arg (k := 1) h (by decide) (by decide) hj hX hl dL_law_896 dL_law_897 dL_law_898 dL_law_899 dL_law_900 ?_
  refine l_call (lc_fix h) hX (fg_37_0 (ΛG Λ)) (c_X5_crew Λ.2.1 (ΛG Λ) e2) [.int r] rfl hl tw5_170 tw5_171 tw5_172 tw1_7 tw5_173 rfl nd_X5_crew ⟨Nat.le_of_ble_eq_true rfl, Nat.le_of_ble_eq_true rfl⟩ (Nat.le_of_ble_eq_true rfl) dL_law_901 ⟨Nat.le_refl _, Nat.le_refl _⟩ (fun H locs hX => ?_)
  show LW Λ H locs 904 ls [.int r, .int r]
  exact lv_icmp_eq (tgt := 1694) hx hb dL_law_904 (by decide) (fun _ => K μ2 H locs hR2 hX) (fun z => absurd rfl z)
set_option maxHeartbeats 1000000 in
theorem law_24 {Λ : LX} (h : LC Λ) {μ : MM} {H : Heap} {locs : List Loc} {ls : Array Slot} {j : Nat} (hj : j + 6 ≤ ΛL Λ) (hR : Rel μ) (hX : XW (ΛG Λ) (A0 (Λs Λ)) (Λs Λ) H locs μ) (hl : lv_has ls 4 (LSs Λ j)) (K : ∀ (μ2 : MM) (H : Heap) (locs : List Loc), Rel μ2 → XW (ΛG Λ) (A0 (Λs Λ)) (Λs Λ) H locs μ2 → LW Λ H locs 1694 ls []) : LW Λ H locs 909 ls [] := by
  obtain ⟨r, μ1, μ2, e1, e2, hR2⟩ := s_mean (Λx Λ (j + 1)) μ hR
  have hx := h.1.1
  have hb := h.1.2.1
  refine lv_aload_n hx hb dL_law_909 rfl (lv_at hl 2 rfl) ?_
  refine l_arg (k := 1) h (by decide) (by decide) hj hX hl dL_law_910 dL_law_911 dL_law_912 dL_law_913 dL_law_914 ?_
  refine l_call (lc_fix h) hX (fg_0_0 (ΛG Λ)) (c_X4_mean Λ.2.1 (ΛG Λ) e1) [] rfl hl tw2_206 tw2_207 tw2_208 tw1_1 tw2_209 rfl nd_X4_mean ⟨Nat.le_of_ble_eq_true rfl, Nat.le_of_ble_eq_true rfl⟩ (Nat.le_of_ble_eq_true rfl) dL_law_915 ⟨Nat.le_refl _, Nat.le_refl _⟩ (fun H locs hX => ?_)
  show LW Λ H locs 918 ls [.int r]
  refine lv_aload_n hx hb dL_law_918 rfl (lv_at hl 1 rfl) ?_
  refine l_arg (k := 1) h (by decide) (by decide) hj hX hl dL_law_919 dL_law_920 dL_law_921 dL_law_922 dL_law_923 ?_
  refine l_call (lc_fix h) hX (fg_37_0 (ΛG Λ)) (c_X5_mean Λ.2.1 (ΛG Λ) e2) [.int r] rfl hl tw5_179 tw5_180 tw5_181 tw1_7 tw5_182 rfl nd_X5_mean ⟨Nat.le_of_ble_eq_true rfl, Nat.le_of_ble_eq_true rfl⟩ (Nat.le_of_ble_eq_true rfl) dL_law_924 ⟨Nat.le_refl _, Nat.le_refl _⟩ (fun H locs hX => ?_)
  show LW Λ H locs 927 ls [.int r, .int r]
  exact lv_icmp_eq (tgt := 1694) hx hb dL_law_927 (by decide) (fun _ => K μ2 H locs hR2 hX) (fun z => absurd rfl z)
set_option maxHeartbeats 1000000 in
theorem law_25 {Λ : LX} (h : LC Λ) {μ : MM} {H : Heap} {locs : List Loc} {ls : Array Slot} {j : Nat} (hj : j + 6 ≤ ΛL Λ) (hR : Rel μ) (hX : XW (ΛG Λ) (A0 (Λs Λ)) (Λs Λ) H locs μ) (hl : lv_has ls 4 (LSs Λ j)) (K : ∀ (μ2 : MM) (H : Heap) (locs : List Loc), Rel μ2 → XW (ΛG Λ) (A0 (Λs Λ)) (Λs Λ) H locs μ2 → LW Λ H locs 1694 ls []) : LW Λ H locs 932 ls [] := by
  obtain ⟨r, μ1, μ2, e1, e2, hR2⟩ := s_better (Λx Λ (j + 1)) μ hR
  have hx := h.1.1
  have hb := h.1.2.1
  refine lv_aload_n hx hb dL_law_932 rfl (lv_at hl 2 rfl) ?_
  refine l_arg (k := 1) h (by decide) (by decide) hj hX hl dL_law_933 dL_law_934 dL_law_935 dL_law_936 dL_law_937 ?_
  refine l_call (lc_fix h) hX (fg_0_0 (ΛG Λ)) (c_X4_better Λ.2.1 (ΛG Λ) e1) [] rfl hl tw2_210 tw2_211 tw2_212 tw1_1 tw2_213 rfl nd_X4_better ⟨Nat.le_of_ble_eq_true rfl, Nat.le_of_ble_eq_true rfl⟩ (Nat.le_of_ble_eq_true rfl) dL_law_938 ⟨Nat.le_refl _, Nat.le_refl _⟩ (fun H locs hX => ?_)
  show LW Λ H locs 941 ls [.int r]
  refine lv_aload_n hx hb dL_law_941 rfl (lv_at hl 1 rfl) ?_
  refine l_arg (k := 1) h (by decide) (by decide) hj hX hl dL_law_942 dL_law_943 dL_law_944 dL_law_945 dL_law_946 ?_
  refine l_call (lc_fix h) hX (fg_37_0 (ΛG Λ)) (c_X5_better Λ.2.1 (ΛG Λ) e2) [.int r] rfl hl tw5_183 tw5_184 tw5_185 tw1_7 tw5_186 rfl nd_X5_better ⟨Nat.le_of_ble_eq_true rfl, Nat.le_of_ble_eq_true rfl⟩ (Nat.le_of_ble_eq_true rfl) dL_law_947 ⟨Nat.le_refl _, Nat.le_refl _⟩ (fun H locs hX => ?_)
  show LW Λ H locs 950 ls [.int r, .int r]
  exact lv_icmp_eq (tgt := 1694) hx hb dL_law_950 (by decide) (fun _ => K μ2 H locs hR2 hX) (fun z => absurd rfl z)
set_option maxHeartbeats 1000000 in
theorem law_26 {Λ : LX} (h : LC Λ) {μ : MM} {H : Heap} {locs : List Loc} {ls : Array Slot} {j : Nat} (hj : j + 6 ≤ ΛL Λ) (hR : Rel μ) (hX : XW (ΛG Λ) (A0 (Λs Λ)) (Λs Λ) H locs μ) (hl : lv_has ls 4 (LSs Λ j)) (K : ∀ (μ2 : MM) (H : Heap) (locs : List Loc), Rel μ2 → XW (ΛG Λ) (A0 (Λs Λ)) (Λs Λ) H locs μ2 → LW Λ H locs 1694 ls []) : LW Λ H locs 955 ls [] := by
  obtain ⟨r, μ1, μ2, e1, e2, hR2⟩ := s_spy (Λx Λ (j + 1)) (Λx Λ (j + 2)) (Λx Λ (j + 3)) μ hR
  have hx := h.1.1
  have hb := h.1.2.1
  refine lv_aload_n hx hb dL_law_955 rfl (lv_at hl 2 rfl) ?_
  refine l_arg (k := 1) h (by decide) (by decide) hj hX hl dL_law_956 dL_law_957 dL_law_958 dL_law_959 dL_law_960 ?_
  refine l_arg (k := 2) h (by decide) (by decide) hj hX hl dL_law_961 dL_law_962 dL_law_963 dL_law_964 dL_law_965 ?_
  refine l_arg (k := 3) h (by decide) (by decide) hj hX hl dL_law_966 dL_law_967 dL_law_968 dL_law_969 dL_law_970 ?_
  refine l_call (lc_fix h) hX (fg_0_0 (ΛG Λ)) (c_X4_spy Λ.2.1 (ΛG Λ) e1) [] rfl hl tw2_214 tw2_215 tw2_216 tw1_1 tw2_217 rfl nd_X4_spy ⟨Nat.le_of_ble_eq_true rfl, Nat.le_of_ble_eq_true rfl⟩ (Nat.le_of_ble_eq_true rfl) dL_law_971 ⟨Nat.le_refl _, Nat.le_refl _⟩ (fun H locs hX => ?_)
  show LW Λ H locs 974 ls [.int r]
  refine lv_aload_n hx hb dL_law_974 rfl (lv_at hl 1 rfl) ?_
  refine l_arg (k := 1) h (by decide) (by decide) hj hX hl dL_law_975 dL_law_976 dL_law_977 dL_law_978 dL_law_979 ?_
  refine l_arg (k := 2) h (by decide) (by decide) hj hX hl dL_law_980 dL_law_981 dL_law_982 dL_law_983 dL_law_984 ?_
  refine l_arg (k := 3) h (by decide) (by decide) hj hX hl dL_law_985 dL_law_986 dL_law_987 dL_law_988 dL_law_989 ?_
  refine l_call (lc_fix h) hX (fg_37_0 (ΛG Λ)) (c_X5_spy Λ.2.1 (ΛG Λ) e2) [.int r] rfl hl tw5_187 tw5_188 tw5_189 tw1_7 tw5_190 rfl nd_X5_spy ⟨Nat.le_of_ble_eq_true rfl, Nat.le_of_ble_eq_true rfl⟩ (Nat.le_of_ble_eq_true rfl) dL_law_990 ⟨Nat.le_refl _, Nat.le_refl _⟩ (fun H locs hX => ?_)
  show LW Λ H locs 993 ls [.int r, .int r]
  exact lv_icmp_eq (tgt := 1694) hx hb dL_law_993 (by decide) (fun _ => K μ2 H locs hR2 hX) (fun z => absurd rfl z)
set_option maxHeartbeats 1000000 in
theorem law_27 {Λ : LX} (h : LC Λ) {μ : MM} {H : Heap} {locs : List Loc} {ls : Array Slot} {j : Nat} (hj : j + 6 ≤ ΛL Λ) (hR : Rel μ) (hX : XW (ΛG Λ) (A0 (Λs Λ)) (Λs Λ) H locs μ) (hl : lv_has ls 4 (LSs Λ j)) (K : ∀ (μ2 : MM) (H : Heap) (locs : List Loc), Rel μ2 → XW (ΛG Λ) (A0 (Λs Λ)) (Λs Λ) H locs μ2 → LW Λ H locs 1694 ls []) : LW Λ H locs 998 ls [] := by
  obtain ⟨r, μ1, μ2, e1, e2, hR2⟩ := s_uses (Λx Λ (j + 1)) (Λx Λ (j + 2)) μ hR
  have hx := h.1.1
  have hb := h.1.2.1
  refine lv_aload_n hx hb dL_law_998 rfl (lv_at hl 2 rfl) ?_
  refine l_arg (k := 1) h (by decide) (by decide) hj hX hl dL_law_999 dL_law_1000 dL_law_1001 dL_law_1002 dL_law_1003 ?_
  refine l_arg (k := 2) h (by decide) (by decide) hj hX hl dL_law_1004 dL_law_1005 dL_law_1006 dL_law_1007 dL_law_1008 ?_
  refine l_call (lc_fix h) hX (fg_0_0 (ΛG Λ)) (c_X4_uses Λ.2.1 (ΛG Λ) e1) [] rfl hl tw2_221 tw2_222 tw2_223 tw1_1 tw2_224 rfl nd_X4_uses ⟨Nat.le_of_ble_eq_true rfl, Nat.le_of_ble_eq_true rfl⟩ (Nat.le_of_ble_eq_true rfl) dL_law_1009 ⟨Nat.le_refl _, Nat.le_refl _⟩ (fun H locs hX => ?_)
  show LW Λ H locs 1012 ls [.int r]
  refine lv_aload_n hx hb dL_law_1012 rfl (lv_at hl 1 rfl) ?_
  refine l_arg (k := 1) h (by decide) (by decide) hj hX hl dL_law_1013 dL_law_1014 dL_law_1015 dL_law_1016 dL_law_1017 ?_
  refine l_arg (k := 2) h (by decide) (by decide) hj hX hl dL_law_1018 dL_law_1019 dL_law_1020 dL_law_1021 dL_law_1022 ?_
  refine l_call (lc_fix h) hX (fg_37_0 (ΛG Λ)) (c_X5_uses Λ.2.1 (ΛG Λ) e2) [.int r] rfl hl tw5_194 tw5_195 tw5_196 tw1_7 tw5_197 rfl nd_X5_uses ⟨Nat.le_of_ble_eq_true rfl, Nat.le_of_ble_eq_true rfl⟩ (Nat.le_of_ble_eq_true rfl) dL_law_1023 ⟨Nat.le_refl _, Nat.le_refl _⟩ (fun H locs hX => ?_)
  show LW Λ H locs 1026 ls [.int r, .int r]
  exact lv_icmp_eq (tgt := 1694) hx hb dL_law_1026 (by decide) (fun _ => K μ2 H locs hR2 hX) (fun z => absurd rfl z)
set_option maxHeartbeats 1000000 in
theorem law_28 {Λ : LX} (h : LC Λ) {μ : MM} {H : Heap} {locs : List Loc} {ls : Array Slot} {j : Nat} (hj : j + 6 ≤ ΛL Λ) (hR : Rel μ) (hX : XW (ΛG Λ) (A0 (Λs Λ)) (Λs Λ) H locs μ) (hl : lv_has ls 4 (LSs Λ j)) (K : ∀ (μ2 : MM) (H : Heap) (locs : List Loc), Rel μ2 → XW (ΛG Λ) (A0 (Λs Λ)) (Λs Λ) H locs μ2 → LW Λ H locs 1694 ls []) : LW Λ H locs 1031 ls [] := by
  obtain ⟨r, μ1, μ2, e1, e2, hR2⟩ := s_hunger (Λx Λ (j + 1)) μ hR
  have hx := h.1.1
  have hb := h.1.2.1
  refine lv_aload_n hx hb dL_law_1031 rfl (lv_at hl 2 rfl) ?_
  refine l_arg (k := 1) h (by decide) (by decide) hj hX hl dL_law_1032 dL_law_1033 dL_law_1034 dL_law_1035 dL_law_1036 ?_
  refine l_call (lc_fix h) hX (fg_0_0 (ΛG Λ)) (c_X4_hunger Λ.2.1 (ΛG Λ) e1) [] rfl hl tw2_229 tw2_230 tw2_231 tw1_1 tw2_232 rfl nd_X4_hunger ⟨Nat.le_of_ble_eq_true rfl, Nat.le_of_ble_eq_true rfl⟩ (Nat.le_of_ble_eq_true rfl) dL_law_1037 ⟨Nat.le_refl _, Nat.le_refl _⟩ (fun H locs hX => ?_)
  show LW Λ H locs 1040 ls [.int r]
  refine lv_aload_n hx hb dL_law_1040 rfl (lv_at hl 1 rfl) ?_
  refine l_arg (k := 1) h (by decide) (by decide) hj hX hl dL_law_1041 dL_law_1042 dL_law_1043 dL_law_1044 dL_law_1045 ?_
  refine l_call (lc_fix h) hX (fg_37_0 (ΛG Λ)) (c_X5_hunger Λ.2.1 (ΛG Λ) e2) [.int r] rfl hl tw5_202 tw5_203 tw5_204 tw1_7 tw5_205 rfl nd_X5_hunger ⟨Nat.le_of_ble_eq_true rfl, Nat.le_of_ble_eq_true rfl⟩ (Nat.le_of_ble_eq_true rfl) dL_law_1046 ⟨Nat.le_refl _, Nat.le_refl _⟩ (fun H locs hX => ?_)
  show LW Λ H locs 1049 ls [.int r, .int r]
  exact lv_icmp_eq (tgt := 1694) hx hb dL_law_1049 (by decide) (fun _ => K μ2 H locs hR2 hX) (fun z => absurd rfl z)
set_option maxHeartbeats 1000000 in
theorem law_29 {Λ : LX} (h : LC Λ) {μ : MM} {H : Heap} {locs : List Loc} {ls : Array Slot} {j : Nat} (hj : j + 6 ≤ ΛL Λ) (hR : Rel μ) (hX : XW (ΛG Λ) (A0 (Λs Λ)) (Λs Λ) H locs μ) (hl : lv_has ls 4 (LSs Λ j)) (K : ∀ (μ2 : MM) (H : Heap) (locs : List Loc), Rel μ2 → XW (ΛG Λ) (A0 (Λs Λ)) (Λs Λ) H locs μ2 → LW Λ H locs 1694 ls []) : LW Λ H locs 1054 ls [] := by
  obtain ⟨r, μ1, μ2, e1, e2, hR2⟩ := s_kinds (Λx Λ (j + 1)) (Λx Λ (j + 2)) μ hR
  have hx := h.1.1
  have hb := h.1.2.1
  refine lv_aload_n hx hb dL_law_1054 rfl (lv_at hl 2 rfl) ?_
  refine l_arg (k := 1) h (by decide) (by decide) hj hX hl dL_law_1055 dL_law_1056 dL_law_1057 dL_law_1058 dL_law_1059 ?_
  refine l_arg (k := 2) h (by decide) (by decide) hj hX hl dL_law_1060 dL_law_1061 dL_law_1062 dL_law_1063 dL_law_1064 ?_
  refine l_call (lc_fix h) hX (fg_0_0 (ΛG Λ)) (c_X4_kinds Λ.2.1 (ΛG Λ) e1) [] rfl hl tw2_233 tw2_234 tw2_235 tw1_1 tw2_236 rfl nd_X4_kinds ⟨Nat.le_of_ble_eq_true rfl, Nat.le_of_ble_eq_true rfl⟩ (Nat.le_of_ble_eq_true rfl) dL_law_1065 ⟨Nat.le_refl _, Nat.le_refl _⟩ (fun H locs hX => ?_)
  show LW Λ H locs 1068 ls [.int r]
  refine lv_aload_n hx hb dL_law_1068 rfl (lv_at hl 1 rfl) ?_
  refine l_arg (k := 1) h (by decide) (by decide) hj hX hl dL_law_1069 dL_law_1070 dL_law_1071 dL_law_1072 dL_law_1073 ?_
  refine l_arg (k := 2) h (by decide) (by decide) hj hX hl dL_law_1074 dL_law_1075 dL_law_1076 dL_law_1077 dL_law_1078 ?_
  refine l_call (lc_fix h) hX (fg_37_0 (ΛG Λ)) (c_X5_kinds Λ.2.1 (ΛG Λ) e2) [.int r] rfl hl tw5_206 tw5_207 tw5_208 tw1_7 tw5_209 rfl nd_X5_kinds ⟨Nat.le_of_ble_eq_true rfl, Nat.le_of_ble_eq_true rfl⟩ (Nat.le_of_ble_eq_true rfl) dL_law_1079 ⟨Nat.le_refl _, Nat.le_refl _⟩ (fun H locs hX => ?_)
  show LW Λ H locs 1082 ls [.int r, .int r]
  exact lv_icmp_eq (tgt := 1694) hx hb dL_law_1082 (by decide) (fun _ => K μ2 H locs hR2 hX) (fun z => absurd rfl z)
set_option maxHeartbeats 1000000 in
theorem law_30 {Λ : LX} (h : LC Λ) {μ : MM} {H : Heap} {locs : List Loc} {ls : Array Slot} {j : Nat} (hj : j + 6 ≤ ΛL Λ) (hR : Rel μ) (hX : XW (ΛG Λ) (A0 (Λs Λ)) (Λs Λ) H locs μ) (hl : lv_has ls 4 (LSs Λ j)) (K : ∀ (μ2 : MM) (H : Heap) (locs : List Loc), Rel μ2 → XW (ΛG Λ) (A0 (Λs Λ)) (Λs Λ) H locs μ2 → LW Λ H locs 1694 ls []) : LW Λ H locs 1087 ls [] := by
  obtain ⟨r, μ1, μ2, e1, e2, hR2⟩ := s_habits (Λx Λ (j + 1)) (Λx Λ (j + 2)) μ hR
  have hx := h.1.1
  have hb := h.1.2.1
  refine lv_aload_n hx hb dL_law_1087 rfl (lv_at hl 2 rfl) ?_
  refine l_arg (k := 1) h (by decide) (by decide) hj hX hl dL_law_1088 dL_law_1089 dL_law_1090 dL_law_1091 dL_law_1092 ?_
  refine l_arg (k := 2) h (by decide) (by decide) hj hX hl dL_law_1093 dL_law_1094 dL_law_1095 dL_law_1096 dL_law_1097 ?_
  refine l_call (lc_fix h) hX (fg_0_0 (ΛG Λ)) (c_X4_habits Λ.2.1 (ΛG Λ) e1) [] rfl hl tw3_18 tw3_19 tw3_20 tw1_1 tw3_21 rfl nd_X4_habits ⟨Nat.le_of_ble_eq_true rfl, Nat.le_of_ble_eq_true rfl⟩ (Nat.le_of_ble_eq_true rfl) dL_law_1098 ⟨Nat.le_refl _, Nat.le_refl _⟩ (fun H locs hX => ?_)
  show LW Λ H locs 1101 ls [.int r]
  refine lv_aload_n hx hb dL_law_1101 rfl (lv_at hl 1 rfl) ?_
  refine l_arg (k := 1) h (by decide) (by decide) hj hX hl dL_law_1102 dL_law_1103 dL_law_1104 dL_law_1105 dL_law_1106 ?_
  refine l_arg (k := 2) h (by decide) (by decide) hj hX hl dL_law_1107 dL_law_1108 dL_law_1109 dL_law_1110 dL_law_1111 ?_
  refine l_call (lc_fix h) hX (fg_37_0 (ΛG Λ)) (c_X5_habits Λ.2.1 (ΛG Λ) e2) [.int r] rfl hl tw5_226 tw5_227 tw5_228 tw1_7 tw5_229 rfl nd_X5_habits ⟨Nat.le_of_ble_eq_true rfl, Nat.le_of_ble_eq_true rfl⟩ (Nat.le_of_ble_eq_true rfl) dL_law_1112 ⟨Nat.le_refl _, Nat.le_refl _⟩ (fun H locs hX => ?_)
  show LW Λ H locs 1115 ls [.int r, .int r]
  exact lv_icmp_eq (tgt := 1694) hx hb dL_law_1115 (by decide) (fun _ => K μ2 H locs hR2 hX) (fun z => absurd rfl z)
set_option maxHeartbeats 1000000 in
theorem law_31 {Λ : LX} (h : LC Λ) {μ : MM} {H : Heap} {locs : List Loc} {ls : Array Slot} {j : Nat} (hj : j + 6 ≤ ΛL Λ) (hR : Rel μ) (hX : XW (ΛG Λ) (A0 (Λs Λ)) (Λs Λ) H locs μ) (hl : lv_has ls 4 (LSs Λ j)) (K : ∀ (μ2 : MM) (H : Heap) (locs : List Loc), Rel μ2 → XW (ΛG Λ) (A0 (Λs Λ)) (Λs Λ) H locs μ2 → LW Λ H locs 1694 ls []) : LW Λ H locs 1120 ls [] := by
  obtain ⟨r, μ1, μ2, e1, e2, hR2⟩ := s_begun (Λx Λ (j + 1)) (Λx Λ (j + 2)) μ hR
  have hx := h.1.1
  have hb := h.1.2.1
  refine lv_aload_n hx hb dL_law_1120 rfl (lv_at hl 2 rfl) ?_
  refine l_arg (k := 1) h (by decide) (by decide) hj hX hl dL_law_1121 dL_law_1122 dL_law_1123 dL_law_1124 dL_law_1125 ?_
  refine l_arg (k := 2) h (by decide) (by decide) hj hX hl dL_law_1126 dL_law_1127 dL_law_1128 dL_law_1129 dL_law_1130 ?_
  refine l_call (lc_fix h) hX (fg_0_0 (ΛG Λ)) (c_X4_begun Λ.2.1 (ΛG Λ) e1) [] rfl hl tw3_22 tw3_23 tw3_24 tw1_1 tw3_25 rfl nd_X4_begun ⟨Nat.le_of_ble_eq_true rfl, Nat.le_of_ble_eq_true rfl⟩ (Nat.le_of_ble_eq_true rfl) dL_law_1131 ⟨Nat.le_refl _, Nat.le_refl _⟩ (fun H locs hX => ?_)
  show LW Λ H locs 1134 ls [.int r]
  refine lv_aload_n hx hb dL_law_1134 rfl (lv_at hl 1 rfl) ?_
  refine l_arg (k := 1) h (by decide) (by decide) hj hX hl dL_law_1135 dL_law_1136 dL_law_1137 dL_law_1138 dL_law_1139 ?_
  refine l_arg (k := 2) h (by decide) (by decide) hj hX hl dL_law_1140 dL_law_1141 dL_law_1142 dL_law_1143 dL_law_1144 ?_
  refine l_call (lc_fix h) hX (fg_37_0 (ΛG Λ)) (c_X5_begun Λ.2.1 (ΛG Λ) e2) [.int r] rfl hl tw5_230 tw5_231 tw5_232 tw1_7 tw5_233 rfl nd_X5_begun ⟨Nat.le_of_ble_eq_true rfl, Nat.le_of_ble_eq_true rfl⟩ (Nat.le_of_ble_eq_true rfl) dL_law_1145 ⟨Nat.le_refl _, Nat.le_refl _⟩ (fun H locs hX => ?_)
  show LW Λ H locs 1148 ls [.int r, .int r]
  exact lv_icmp_eq (tgt := 1694) hx hb dL_law_1148 (by decide) (fun _ => K μ2 H locs hR2 hX) (fun z => absurd rfl z)
set_option maxHeartbeats 1000000 in
theorem law_32 {Λ : LX} (h : LC Λ) {μ : MM} {H : Heap} {locs : List Loc} {ls : Array Slot} {j : Nat} (hj : j + 6 ≤ ΛL Λ) (hR : Rel μ) (hX : XW (ΛG Λ) (A0 (Λs Λ)) (Λs Λ) H locs μ) (hl : lv_has ls 4 (LSs Λ j)) (K : ∀ (μ2 : MM) (H : Heap) (locs : List Loc), Rel μ2 → XW (ΛG Λ) (A0 (Λs Λ)) (Λs Λ) H locs μ2 → LW Λ H locs 1694 ls []) : LW Λ H locs 1153 ls [] := by
  obtain ⟨r, μ1, μ2, e1, e2, hR2⟩ := s_from (Λx Λ (j + 1)) (Λx Λ (j + 2)) μ hR
  have hx := h.1.1
  have hb := h.1.2.1
  refine lv_aload_n hx hb dL_law_1153 rfl (lv_at hl 2 rfl) ?_
  refine l_arg (k := 1) h (by decide) (by decide) hj hX hl dL_law_1154 dL_law_1155 dL_law_1156 dL_law_1157 dL_law_1158 ?_
  refine l_arg (k := 2) h (by decide) (by decide) hj hX hl dL_law_1159 dL_law_1160 dL_law_1161 dL_law_1162 dL_law_1163 ?_
  refine l_call (lc_fix h) hX (fg_0_0 (ΛG Λ)) (c_X4_from Λ.2.1 (ΛG Λ) e1) [] rfl hl tw3_30 tw3_31 tw3_32 tw1_1 tw3_33 rfl nd_X4_from ⟨Nat.le_of_ble_eq_true rfl, Nat.le_of_ble_eq_true rfl⟩ (Nat.le_of_ble_eq_true rfl) dL_law_1164 ⟨Nat.le_refl _, Nat.le_refl _⟩ (fun H locs hX => ?_)
  show LW Λ H locs 1167 ls [.int r]
  refine lv_aload_n hx hb dL_law_1167 rfl (lv_at hl 1 rfl) ?_
  refine l_arg (k := 1) h (by decide) (by decide) hj hX hl dL_law_1168 dL_law_1169 dL_law_1170 dL_law_1171 dL_law_1172 ?_
  refine l_arg (k := 2) h (by decide) (by decide) hj hX hl dL_law_1173 dL_law_1174 dL_law_1175 dL_law_1176 dL_law_1177 ?_
  refine l_call (lc_fix h) hX (fg_37_0 (ΛG Λ)) (c_X5_from Λ.2.1 (ΛG Λ) e2) [.int r] rfl hl tw6_2 tw6_3 tw6_4 tw1_7 tw6_5 rfl nd_X5_from ⟨Nat.le_of_ble_eq_true rfl, Nat.le_of_ble_eq_true rfl⟩ (Nat.le_of_ble_eq_true rfl) dL_law_1178 ⟨Nat.le_refl _, Nat.le_refl _⟩ (fun H locs hX => ?_)
  show LW Λ H locs 1181 ls [.int r, .int r]
  exact lv_icmp_eq (tgt := 1694) hx hb dL_law_1181 (by decide) (fun _ => K μ2 H locs hR2 hX) (fun z => absurd rfl z)
set_option maxHeartbeats 1000000 in
theorem law_33 {Λ : LX} (h : LC Λ) {μ : MM} {H : Heap} {locs : List Loc} {ls : Array Slot} {j : Nat} (hj : j + 6 ≤ ΛL Λ) (hR : Rel μ) (hX : XW (ΛG Λ) (A0 (Λs Λ)) (Λs Λ) H locs μ) (hl : lv_has ls 4 (LSs Λ j)) (K : ∀ (μ2 : MM) (H : Heap) (locs : List Loc), Rel μ2 → XW (ΛG Λ) (A0 (Λs Λ)) (Λs Λ) H locs μ2 → LW Λ H locs 1694 ls []) : LW Λ H locs 1186 ls [] := by
  obtain ⟨r, μ1, μ2, e1, e2, hR2⟩ := s_storms (Λx Λ (j + 1)) μ hR
  have hx := h.1.1
  have hb := h.1.2.1
  refine lv_aload_n hx hb dL_law_1186 rfl (lv_at hl 2 rfl) ?_
  refine l_arg (k := 1) h (by decide) (by decide) hj hX hl dL_law_1187 dL_law_1188 dL_law_1189 dL_law_1190 dL_law_1191 ?_
  refine l_call (lc_fix h) hX (fg_0_0 (ΛG Λ)) (c_X4_storms Λ.2.1 (ΛG Λ) e1) [] rfl hl tw3_34 tw3_35 tw3_36 tw1_1 tw3_37 rfl nd_X4_storms ⟨Nat.le_of_ble_eq_true rfl, Nat.le_of_ble_eq_true rfl⟩ (Nat.le_of_ble_eq_true rfl) dL_law_1192 ⟨Nat.le_refl _, Nat.le_refl _⟩ (fun H locs hX => ?_)
  show LW Λ H locs 1195 ls [.int r]
  refine lv_aload_n hx hb dL_law_1195 rfl (lv_at hl 1 rfl) ?_
  refine l_arg (k := 1) h (by decide) (by decide) hj hX hl dL_law_1196 dL_law_1197 dL_law_1198 dL_law_1199 dL_law_1200 ?_
  refine l_call (lc_fix h) hX (fg_37_0 (ΛG Λ)) (c_X5_storms Λ.2.1 (ΛG Λ) e2) [.int r] rfl hl tw6_6 tw6_7 tw6_8 tw1_7 tw6_9 rfl nd_X5_storms ⟨Nat.le_of_ble_eq_true rfl, Nat.le_of_ble_eq_true rfl⟩ (Nat.le_of_ble_eq_true rfl) dL_law_1201 ⟨Nat.le_refl _, Nat.le_refl _⟩ (fun H locs hX => ?_)
  show LW Λ H locs 1204 ls [.int r, .int r]
  exact lv_icmp_eq (tgt := 1694) hx hb dL_law_1204 (by decide) (fun _ => K μ2 H locs hR2 hX) (fun z => absurd rfl z)
set_option maxHeartbeats 1000000 in
theorem law_34 {Λ : LX} (h : LC Λ) {μ : MM} {H : Heap} {locs : List Loc} {ls : Array Slot} {j : Nat} (hj : j + 6 ≤ ΛL Λ) (hR : Rel μ) (hX : XW (ΛG Λ) (A0 (Λs Λ)) (Λs Λ) H locs μ) (hl : lv_has ls 4 (LSs Λ j)) (K : ∀ (μ2 : MM) (H : Heap) (locs : List Loc), Rel μ2 → XW (ΛG Λ) (A0 (Λs Λ)) (Λs Λ) H locs μ2 → LW Λ H locs 1694 ls []) : LW Λ H locs 1209 ls [] := by
  obtain ⟨r, μ1, μ2, e1, e2, hR2⟩ := s_odds (Λx Λ (j + 1)) (Λx Λ (j + 2)) μ hR
  have hx := h.1.1
  have hb := h.1.2.1
  refine lv_aload_n hx hb dL_law_1209 rfl (lv_at hl 2 rfl) ?_
  refine l_arg (k := 1) h (by decide) (by decide) hj hX hl dL_law_1210 dL_law_1211 dL_law_1212 dL_law_1213 dL_law_1214 ?_
  refine l_arg (k := 2) h (by decide) (by decide) hj hX hl dL_law_1215 dL_law_1216 dL_law_1217 dL_law_1218 dL_law_1219 ?_
  refine l_call (lc_fix h) hX (fg_0_0 (ΛG Λ)) (c_X4_odds Λ.2.1 (ΛG Λ) e1) [] rfl hl tw3_48 tw3_49 tw3_50 tw1_1 tw3_51 rfl nd_X4_odds ⟨Nat.le_of_ble_eq_true rfl, Nat.le_of_ble_eq_true rfl⟩ (Nat.le_of_ble_eq_true rfl) dL_law_1220 ⟨Nat.le_refl _, Nat.le_refl _⟩ (fun H locs hX => ?_)
  show LW Λ H locs 1223 ls [.int r]
  refine lv_aload_n hx hb dL_law_1223 rfl (lv_at hl 1 rfl) ?_
  refine l_arg (k := 1) h (by decide) (by decide) hj hX hl dL_law_1224 dL_law_1225 dL_law_1226 dL_law_1227 dL_law_1228 ?_
  refine l_arg (k := 2) h (by decide) (by decide) hj hX hl dL_law_1229 dL_law_1230 dL_law_1231 dL_law_1232 dL_law_1233 ?_
  refine l_call (lc_fix h) hX (fg_37_0 (ΛG Λ)) (c_X5_odds Λ.2.1 (ΛG Λ) e2) [.int r] rfl hl tw6_15 tw6_16 tw6_17 tw1_7 tw6_18 rfl nd_X5_odds ⟨Nat.le_of_ble_eq_true rfl, Nat.le_of_ble_eq_true rfl⟩ (Nat.le_of_ble_eq_true rfl) dL_law_1234 ⟨Nat.le_refl _, Nat.le_refl _⟩ (fun H locs hX => ?_)
  show LW Λ H locs 1237 ls [.int r, .int r]
  exact lv_icmp_eq (tgt := 1694) hx hb dL_law_1237 (by decide) (fun _ => K μ2 H locs hR2 hX) (fun z => absurd rfl z)
set_option maxHeartbeats 1000000 in
theorem law_35 {Λ : LX} (h : LC Λ) {μ : MM} {H : Heap} {locs : List Loc} {ls : Array Slot} {j : Nat} (hj : j + 6 ≤ ΛL Λ) (hR : Rel μ) (hX : XW (ΛG Λ) (A0 (Λs Λ)) (Λs Λ) H locs μ) (hl : lv_has ls 4 (LSs Λ j)) (K : ∀ (μ2 : MM) (H : Heap) (locs : List Loc), Rel μ2 → XW (ΛG Λ) (A0 (Λs Λ)) (Λs Λ) H locs μ2 → LW Λ H locs 1694 ls []) : LW Λ H locs 1242 ls [] := by
  obtain ⟨r, μ1, μ2, e1, e2, hR2⟩ := s_drives (Λx Λ (j + 1)) μ hR
  have hx := h.1.1
  have hb := h.1.2.1
  refine lv_aload_n hx hb dL_law_1242 rfl (lv_at hl 2 rfl) ?_
  refine l_arg (k := 1) h (by decide) (by decide) hj hX hl dL_law_1243 dL_law_1244 dL_law_1245 dL_law_1246 dL_law_1247 ?_
  refine l_call (lc_fix h) hX (fg_0_0 (ΛG Λ)) (c_X4_drives Λ.2.1 (ΛG Λ) e1) [] rfl hl tw3_56 tw3_57 tw3_58 tw1_1 tw3_59 rfl nd_X4_drives ⟨Nat.le_of_ble_eq_true rfl, Nat.le_of_ble_eq_true rfl⟩ (Nat.le_of_ble_eq_true rfl) dL_law_1248 ⟨Nat.le_refl _, Nat.le_refl _⟩ (fun H locs hX => ?_)
  show LW Λ H locs 1251 ls [.long r]
  refine lv_aload_n hx hb dL_law_1251 rfl (lv_at hl 1 rfl) ?_
  refine l_arg (k := 1) h (by decide) (by decide) hj hX hl dL_law_1252 dL_law_1253 dL_law_1254 dL_law_1255 dL_law_1256 ?_
  refine l_call (lc_fix h) hX (fg_37_0 (ΛG Λ)) (c_X5_drives Λ.2.1 (ΛG Λ) e2) [.long r] rfl hl tw6_19 tw6_20 tw6_21 tw1_7 tw6_22 rfl nd_X5_drives ⟨Nat.le_of_ble_eq_true rfl, Nat.le_of_ble_eq_true rfl⟩ (Nat.le_of_ble_eq_true rfl) dL_law_1257 ⟨Nat.le_refl _, Nat.le_refl _⟩ (fun H locs hX => ?_)
  show LW Λ H locs 1260 ls [.long r, .long r]
  refine W.lcmp hx hb dL_law_1260 ?_
  exact lv_if_eq (tgt := 1694) hx hb dL_law_1261 (by decide) (fun _ => K μ2 H locs hR2 hX) (fun z => absurd ((lg_cmp_eq r r).mpr rfl) z)
set_option maxHeartbeats 1000000 in
theorem law_36 {Λ : LX} (h : LC Λ) {μ : MM} {H : Heap} {locs : List Loc} {ls : Array Slot} {j : Nat} (hj : j + 6 ≤ ΛL Λ) (hR : Rel μ) (hX : XW (ΛG Λ) (A0 (Λs Λ)) (Λs Λ) H locs μ) (hl : lv_has ls 4 (LSs Λ j)) (K : ∀ (μ2 : MM) (H : Heap) (locs : List Loc), Rel μ2 → XW (ΛG Λ) (A0 (Λs Λ)) (Λs Λ) H locs μ2 → LW Λ H locs 1694 ls []) : LW Λ H locs 1266 ls [] := by
  obtain ⟨r, μ1, μ2, e1, e2, hR2⟩ := s_seed (Λx Λ (j + 1)) μ hR
  have hx := h.1.1
  have hb := h.1.2.1
  refine lv_aload_n hx hb dL_law_1266 rfl (lv_at hl 2 rfl) ?_
  refine l_arg (k := 1) h (by decide) (by decide) hj hX hl dL_law_1267 dL_law_1268 dL_law_1269 dL_law_1270 dL_law_1271 ?_
  refine l_call (lc_fix h) hX (fg_0_0 (ΛG Λ)) (c_X4_seed Λ.2.1 (ΛG Λ) e1) [] rfl hl tw3_60 tw3_61 tw3_62 tw1_1 tw3_63 rfl nd_X4_seed ⟨Nat.le_of_ble_eq_true rfl, Nat.le_of_ble_eq_true rfl⟩ (Nat.le_of_ble_eq_true rfl) dL_law_1272 ⟨Nat.le_refl _, Nat.le_refl _⟩ (fun H locs hX => ?_)
  show LW Λ H locs 1275 ls [.int r]
  refine lv_aload_n hx hb dL_law_1275 rfl (lv_at hl 1 rfl) ?_
  refine l_arg (k := 1) h (by decide) (by decide) hj hX hl dL_law_1276 dL_law_1277 dL_law_1278 dL_law_1279 dL_law_1280 ?_
  refine l_call (lc_fix h) hX (fg_37_0 (ΛG Λ)) (c_X5_seed Λ.2.1 (ΛG Λ) e2) [.int r] rfl hl tw6_23 tw6_24 tw6_25 tw1_7 tw6_26 rfl nd_X5_seed ⟨Nat.le_of_ble_eq_true rfl, Nat.le_of_ble_eq_true rfl⟩ (Nat.le_of_ble_eq_true rfl) dL_law_1281 ⟨Nat.le_refl _, Nat.le_refl _⟩ (fun H locs hX => ?_)
  show LW Λ H locs 1284 ls [.int r, .int r]
  exact lv_icmp_eq (tgt := 1694) hx hb dL_law_1284 (by decide) (fun _ => K μ2 H locs hR2 hX) (fun z => absurd rfl z)
set_option maxHeartbeats 1000000 in
theorem law_37 {Λ : LX} (h : LC Λ) {μ : MM} {H : Heap} {locs : List Loc} {ls : Array Slot} {j : Nat} (hj : j + 6 ≤ ΛL Λ) (hR : Rel μ) (hX : XW (ΛG Λ) (A0 (Λs Λ)) (Λs Λ) H locs μ) (hl : lv_has ls 4 (LSs Λ j)) (K : ∀ (μ2 : MM) (H : Heap) (locs : List Loc), Rel μ2 → XW (ΛG Λ) (A0 (Λs Λ)) (Λs Λ) H locs μ2 → LW Λ H locs 1694 ls []) : LW Λ H locs 1289 ls [] := by
  obtain ⟨r, μ1, μ2, e1, e2, hR2⟩ := s_feed (Λx Λ (j + 1)) (Λx Λ (j + 2)) μ hR
  have hx := h.1.1
  have hb := h.1.2.1
  refine lv_aload_n hx hb dL_law_1289 rfl (lv_at hl 2 rfl) ?_
  refine l_arg (k := 1) h (by decide) (by decide) hj hX hl dL_law_1290 dL_law_1291 dL_law_1292 dL_law_1293 dL_law_1294 ?_
  refine l_arg (k := 2) h (by decide) (by decide) hj hX hl dL_law_1295 dL_law_1296 dL_law_1297 dL_law_1298 dL_law_1299 ?_
  refine l_call (lc_fix h) hX (fg_0_0 (ΛG Λ)) (c_X4_feed Λ.2.1 (ΛG Λ) e1) [] rfl hl tw3_64 tw3_65 tw3_66 tw1_1 tw3_67 rfl nd_X4_feed ⟨Nat.le_of_ble_eq_true rfl, Nat.le_of_ble_eq_true rfl⟩ (Nat.le_of_ble_eq_true rfl) dL_law_1300 ⟨Nat.le_refl _, Nat.le_refl _⟩ (fun H locs hX => ?_)
  show LW Λ H locs 1303 ls [.int r]
  refine lv_aload_n hx hb dL_law_1303 rfl (lv_at hl 1 rfl) ?_
  refine l_arg (k := 1) h (by decide) (by decide) hj hX hl dL_law_1304 dL_law_1305 dL_law_1306 dL_law_1307 dL_law_1308 ?_
  refine l_arg (k := 2) h (by decide) (by decide) hj hX hl dL_law_1309 dL_law_1310 dL_law_1311 dL_law_1312 dL_law_1313 ?_
  refine l_call (lc_fix h) hX (fg_37_0 (ΛG Λ)) (c_X5_feed Λ.2.1 (ΛG Λ) e2) [.int r] rfl hl tw6_27 tw6_28 tw6_29 tw1_7 tw6_30 rfl nd_X5_feed ⟨Nat.le_of_ble_eq_true rfl, Nat.le_of_ble_eq_true rfl⟩ (Nat.le_of_ble_eq_true rfl) dL_law_1314 ⟨Nat.le_refl _, Nat.le_refl _⟩ (fun H locs hX => ?_)
  show LW Λ H locs 1317 ls [.int r, .int r]
  exact lv_icmp_eq (tgt := 1694) hx hb dL_law_1317 (by decide) (fun _ => K μ2 H locs hR2 hX) (fun z => absurd rfl z)
set_option maxHeartbeats 1000000 in
theorem law_38 {Λ : LX} (h : LC Λ) {μ : MM} {H : Heap} {locs : List Loc} {ls : Array Slot} {j : Nat} (hj : j + 6 ≤ ΛL Λ) (hR : Rel μ) (hX : XW (ΛG Λ) (A0 (Λs Λ)) (Λs Λ) H locs μ) (hl : lv_has ls 4 (LSs Λ j)) (K : ∀ (μ2 : MM) (H : Heap) (locs : List Loc), Rel μ2 → XW (ΛG Λ) (A0 (Λs Λ)) (Λs Λ) H locs μ2 → LW Λ H locs 1694 ls []) : LW Λ H locs 1322 ls [] := by
  obtain ⟨r, μ1, μ2, e1, e2, hR2⟩ := s_wipe  μ hR
  have hx := h.1.1
  have hb := h.1.2.1
  refine lv_aload_n hx hb dL_law_1322 rfl (lv_at hl 2 rfl) ?_
  refine l_call (lc_fix h) hX (fg_0_0 (ΛG Λ)) (c_X4_wipe Λ.2.1 (ΛG Λ) e1) [] rfl hl tw3_72 tw3_73 tw3_74 tw1_1 tw3_75 rfl nd_X4_wipe ⟨Nat.le_of_ble_eq_true rfl, Nat.le_of_ble_eq_true rfl⟩ (Nat.le_of_ble_eq_true rfl) dL_law_1323 ⟨Nat.le_refl _, Nat.le_refl _⟩ (fun H locs hX => ?_)
  show LW Λ H locs 1326 ls [.int r]
  refine lv_aload_n hx hb dL_law_1326 rfl (lv_at hl 1 rfl) ?_
  refine l_call (lc_fix h) hX (fg_37_0 (ΛG Λ)) (c_X5_wipe Λ.2.1 (ΛG Λ) e2) [.int r] rfl hl tw6_31 tw6_32 tw6_33 tw1_7 tw6_34 rfl nd_X5_wipe ⟨Nat.le_of_ble_eq_true rfl, Nat.le_of_ble_eq_true rfl⟩ (Nat.le_of_ble_eq_true rfl) dL_law_1327 ⟨Nat.le_refl _, Nat.le_refl _⟩ (fun H locs hX => ?_)
  show LW Λ H locs 1330 ls [.int r, .int r]
  exact lv_icmp_eq (tgt := 1694) hx hb dL_law_1330 (by decide) (fun _ => K μ2 H locs hR2 hX) (fun z => absurd rfl z)
set_option maxHeartbeats 1000000 in
theorem law_39 {Λ : LX} (h : LC Λ) {μ : MM} {H : Heap} {locs : List Loc} {ls : Array Slot} {j : Nat} (hj : j + 6 ≤ ΛL Λ) (hR : Rel μ) (hX : XW (ΛG Λ) (A0 (Λs Λ)) (Λs Λ) H locs μ) (hl : lv_has ls 4 (LSs Λ j)) (K : ∀ (μ2 : MM) (H : Heap) (locs : List Loc), Rel μ2 → XW (ΛG Λ) (A0 (Λs Λ)) (Λs Λ) H locs μ2 → LW Λ H locs 1694 ls []) : LW Λ H locs 1335 ls [] := by
  obtain ⟨r, μ1, μ2, e1, e2, hR2⟩ := s_text  μ hR
  have hx := h.1.1
  have hb := h.1.2.1
  refine lv_aload_n hx hb dL_law_1335 rfl (lv_at hl 2 rfl) ?_
  refine l_call (lc_fix h) hX (fg_0_0 (ΛG Λ)) (c_X4_text Λ.2.1 (ΛG Λ) e1) [] rfl hl tw3_76 tw3_77 tw3_78 tw1_1 tw3_79 rfl nd_X4_text ⟨Nat.le_of_ble_eq_true rfl, Nat.le_of_ble_eq_true rfl⟩ (Nat.le_of_ble_eq_true rfl) dL_law_1336 ⟨Nat.le_refl _, Nat.le_refl _⟩ (fun H locs hX => ?_)
  show LW Λ H locs 1339 ls [.int r]
  refine lv_aload_n hx hb dL_law_1339 rfl (lv_at hl 1 rfl) ?_
  refine l_call (lc_fix h) hX (fg_37_0 (ΛG Λ)) (c_X5_text Λ.2.1 (ΛG Λ) e2) [.int r] rfl hl tw6_35 tw6_36 tw6_37 tw1_7 tw6_38 rfl nd_X5_text ⟨Nat.le_of_ble_eq_true rfl, Nat.le_of_ble_eq_true rfl⟩ (Nat.le_of_ble_eq_true rfl) dL_law_1340 ⟨Nat.le_refl _, Nat.le_refl _⟩ (fun H locs hX => ?_)
  show LW Λ H locs 1343 ls [.int r, .int r]
  exact lv_icmp_eq (tgt := 1694) hx hb dL_law_1343 (by decide) (fun _ => K μ2 H locs hR2 hX) (fun z => absurd rfl z)
set_option maxHeartbeats 1000000 in
theorem law_40 {Λ : LX} (h : LC Λ) {μ : MM} {H : Heap} {locs : List Loc} {ls : Array Slot} {j : Nat} (hj : j + 6 ≤ ΛL Λ) (hR : Rel μ) (hX : XW (ΛG Λ) (A0 (Λs Λ)) (Λs Λ) H locs μ) (hl : lv_has ls 4 (LSs Λ j)) (K : ∀ (μ2 : MM) (H : Heap) (locs : List Loc), Rel μ2 → XW (ΛG Λ) (A0 (Λs Λ)) (Λs Λ) H locs μ2 → LW Λ H locs 1694 ls []) : LW Λ H locs 1348 ls [] := by
  obtain ⟨r, μ1, μ2, e1, e2, hR2⟩ := s_hold (Λx Λ (j + 1)) (Λx Λ (j + 2)) μ hR
  have hx := h.1.1
  have hb := h.1.2.1
  refine lv_aload_n hx hb dL_law_1348 rfl (lv_at hl 2 rfl) ?_
  refine l_arg (k := 1) h (by decide) (by decide) hj hX hl dL_law_1349 dL_law_1350 dL_law_1351 dL_law_1352 dL_law_1353 ?_
  refine l_arg (k := 2) h (by decide) (by decide) hj hX hl dL_law_1354 dL_law_1355 dL_law_1356 dL_law_1357 dL_law_1358 ?_
  refine l_call (lc_fix h) hX (fg_0_0 (ΛG Λ)) (c_X4_hold Λ.2.1 (ΛG Λ) e1) [] rfl hl tw3_224 tw3_225 tw3_226 tw1_1 tw3_227 rfl nd_X4_hold ⟨Nat.le_of_ble_eq_true rfl, Nat.le_of_ble_eq_true rfl⟩ (Nat.le_of_ble_eq_true rfl) dL_law_1359 ⟨Nat.le_refl _, Nat.le_refl _⟩ (fun H locs hX => ?_)
  show LW Λ H locs 1362 ls [.int r]
  refine lv_aload_n hx hb dL_law_1362 rfl (lv_at hl 1 rfl) ?_
  refine l_arg (k := 1) h (by decide) (by decide) hj hX hl dL_law_1363 dL_law_1364 dL_law_1365 dL_law_1366 dL_law_1367 ?_
  refine l_arg (k := 2) h (by decide) (by decide) hj hX hl dL_law_1368 dL_law_1369 dL_law_1370 dL_law_1371 dL_law_1372 ?_
  refine l_call (lc_fix h) hX (fg_37_0 (ΛG Λ)) (c_X5_hold Λ.2.1 (ΛG Λ) e2) [.int r] rfl hl tw6_104 tw6_105 tw6_106 tw1_7 tw6_107 rfl nd_X5_hold ⟨Nat.le_of_ble_eq_true rfl, Nat.le_of_ble_eq_true rfl⟩ (Nat.le_of_ble_eq_true rfl) dL_law_1373 ⟨Nat.le_refl _, Nat.le_refl _⟩ (fun H locs hX => ?_)
  show LW Λ H locs 1376 ls [.int r, .int r]
  exact lv_icmp_eq (tgt := 1694) hx hb dL_law_1376 (by decide) (fun _ => K μ2 H locs hR2 hX) (fun z => absurd rfl z)
set_option maxHeartbeats 1000000 in
theorem law_41 {Λ : LX} (h : LC Λ) {μ : MM} {H : Heap} {locs : List Loc} {ls : Array Slot} {j : Nat} (hj : j + 6 ≤ ΛL Λ) (hR : Rel μ) (hX : XW (ΛG Λ) (A0 (Λs Λ)) (Λs Λ) H locs μ) (hl : lv_has ls 4 (LSs Λ j)) (K : ∀ (μ2 : MM) (H : Heap) (locs : List Loc), Rel μ2 → XW (ΛG Λ) (A0 (Λs Λ)) (Λs Λ) H locs μ2 → LW Λ H locs 1694 ls []) : LW Λ H locs 1381 ls [] := by
  obtain ⟨r, μ1, μ2, e1, e2, hR2⟩ := s_as (Λx Λ (j + 1)) (Λx Λ (j + 2)) μ hR
  have hx := h.1.1
  have hb := h.1.2.1
  refine lv_aload_n hx hb dL_law_1381 rfl (lv_at hl 2 rfl) ?_
  refine l_arg (k := 1) h (by decide) (by decide) hj hX hl dL_law_1382 dL_law_1383 dL_law_1384 dL_law_1385 dL_law_1386 ?_
  refine l_arg (k := 2) h (by decide) (by decide) hj hX hl dL_law_1387 dL_law_1388 dL_law_1389 dL_law_1390 dL_law_1391 ?_
  refine l_call (lc_fix h) hX (fg_0_0 (ΛG Λ)) (c_X4_as Λ.2.1 (ΛG Λ) e1) [] rfl hl tw3_231 tw3_232 tw3_233 tw1_1 tw3_234 rfl nd_X4_as ⟨Nat.le_of_ble_eq_true rfl, Nat.le_of_ble_eq_true rfl⟩ (Nat.le_of_ble_eq_true rfl) dL_law_1392 ⟨Nat.le_refl _, Nat.le_refl _⟩ (fun H locs hX => ?_)
  show LW Λ H locs 1395 ls [.int r]
  refine lv_aload_n hx hb dL_law_1395 rfl (lv_at hl 1 rfl) ?_
  refine l_arg (k := 1) h (by decide) (by decide) hj hX hl dL_law_1396 dL_law_1397 dL_law_1398 dL_law_1399 dL_law_1400 ?_
  refine l_arg (k := 2) h (by decide) (by decide) hj hX hl dL_law_1401 dL_law_1402 dL_law_1403 dL_law_1404 dL_law_1405 ?_
  refine l_call (lc_fix h) hX (fg_37_0 (ΛG Λ)) (c_X5_as Λ.2.1 (ΛG Λ) e2) [.int r] rfl hl tw6_111 tw6_112 tw6_113 tw1_7 tw6_114 rfl nd_X5_as ⟨Nat.le_of_ble_eq_true rfl, Nat.le_of_ble_eq_true rfl⟩ (Nat.le_of_ble_eq_true rfl) dL_law_1406 ⟨Nat.le_refl _, Nat.le_refl _⟩ (fun H locs hX => ?_)
  show LW Λ H locs 1409 ls [.int r, .int r]
  exact lv_icmp_eq (tgt := 1694) hx hb dL_law_1409 (by decide) (fun _ => K μ2 H locs hR2 hX) (fun z => absurd rfl z)
set_option maxHeartbeats 1000000 in
theorem law_42 {Λ : LX} (h : LC Λ) {μ : MM} {H : Heap} {locs : List Loc} {ls : Array Slot} {j : Nat} (hj : j + 6 ≤ ΛL Λ) (hR : Rel μ) (hX : XW (ΛG Λ) (A0 (Λs Λ)) (Λs Λ) H locs μ) (hl : lv_has ls 4 (LSs Λ j)) (K : ∀ (μ2 : MM) (H : Heap) (locs : List Loc), Rel μ2 → XW (ΛG Λ) (A0 (Λs Λ)) (Λs Λ) H locs μ2 → LW Λ H locs 1694 ls []) : LW Λ H locs 1414 ls [] := by
  obtain ⟨r, μ1, μ2, e1, e2, hR2⟩ := s_sheet (Λx Λ (j + 1)) (Λx Λ (j + 2)) (Λx Λ (j + 3)) μ hR
  have hx := h.1.1
  have hb := h.1.2.1
  refine lv_aload_n hx hb dL_law_1414 rfl (lv_at hl 2 rfl) ?_
  refine l_arg (k := 1) h (by decide) (by decide) hj hX hl dL_law_1415 dL_law_1416 dL_law_1417 dL_law_1418 dL_law_1419 ?_
  refine l_arg (k := 2) h (by decide) (by decide) hj hX hl dL_law_1420 dL_law_1421 dL_law_1422 dL_law_1423 dL_law_1424 ?_
  refine l_arg (k := 3) h (by decide) (by decide) hj hX hl dL_law_1425 dL_law_1426 dL_law_1427 dL_law_1428 dL_law_1429 ?_
  refine l_call (lc_fix h) hX (fg_0_0 (ΛG Λ)) (c_X4_sheet Λ.2.1 (ΛG Λ) e1) [] rfl hl tw4_1 tw4_2 tw4_3 tw1_1 tw4_4 rfl nd_X4_sheet ⟨Nat.le_of_ble_eq_true rfl, Nat.le_of_ble_eq_true rfl⟩ (Nat.le_of_ble_eq_true rfl) dL_law_1430 ⟨Nat.le_refl _, Nat.le_refl _⟩ (fun H locs hX => ?_)
  show LW Λ H locs 1433 ls [.int r]
  refine lv_aload_n hx hb dL_law_1433 rfl (lv_at hl 1 rfl) ?_
  refine l_arg (k := 1) h (by decide) (by decide) hj hX hl dL_law_1434 dL_law_1435 dL_law_1436 dL_law_1437 dL_law_1438 ?_
  refine l_arg (k := 2) h (by decide) (by decide) hj hX hl dL_law_1439 dL_law_1440 dL_law_1441 dL_law_1442 dL_law_1443 ?_
  refine l_arg (k := 3) h (by decide) (by decide) hj hX hl dL_law_1444 dL_law_1445 dL_law_1446 dL_law_1447 dL_law_1448 ?_
  refine l_call (lc_fix h) hX (fg_37_0 (ΛG Λ)) (c_X5_sheet Λ.2.1 (ΛG Λ) e2) [.int r] rfl hl tw6_122 tw6_123 tw6_124 tw1_7 tw6_125 rfl nd_X5_sheet ⟨Nat.le_of_ble_eq_true rfl, Nat.le_of_ble_eq_true rfl⟩ (Nat.le_of_ble_eq_true rfl) dL_law_1449 ⟨Nat.le_refl _, Nat.le_refl _⟩ (fun H locs hX => ?_)
  show LW Λ H locs 1452 ls [.int r, .int r]
  exact lv_icmp_eq (tgt := 1694) hx hb dL_law_1452 (by decide) (fun _ => K μ2 H locs hR2 hX) (fun z => absurd rfl z)
set_option maxHeartbeats 1000000 in
theorem law_43 {Λ : LX} (h : LC Λ) {μ : MM} {H : Heap} {locs : List Loc} {ls : Array Slot} {j : Nat} (hj : j + 6 ≤ ΛL Λ) (hR : Rel μ) (hX : XW (ΛG Λ) (A0 (Λs Λ)) (Λs Λ) H locs μ) (hl : lv_has ls 4 (LSs Λ j)) (K : ∀ (μ2 : MM) (H : Heap) (locs : List Loc), Rel μ2 → XW (ΛG Λ) (A0 (Λs Λ)) (Λs Λ) H locs μ2 → LW Λ H locs 1694 ls []) : LW Λ H locs 1457 ls [] := by
  obtain ⟨r, μ1, μ2, e1, e2, hR2⟩ := s_write (Λx Λ (j + 1)) (Λx Λ (j + 2)) (Λx Λ (j + 3)) μ hR
  have hx := h.1.1
  have hb := h.1.2.1
  refine lv_aload_n hx hb dL_law_1457 rfl (lv_at hl 2 rfl) ?_
  refine l_arg (k := 1) h (by decide) (by decide) hj hX hl dL_law_1458 dL_law_1459 dL_law_1460 dL_law_1461 dL_law_1462 ?_
  refine l_arg (k := 2) h (by decide) (by decide) hj hX hl dL_law_1463 dL_law_1464 dL_law_1465 dL_law_1466 dL_law_1467 ?_
  refine l_arg (k := 3) h (by decide) (by decide) hj hX hl dL_law_1468 dL_law_1469 dL_law_1470 dL_law_1471 dL_law_1472 ?_
  refine l_call (lc_fix h) hX (fg_0_0 (ΛG Λ)) (c_X4_write Λ.2.1 (ΛG Λ) e1) [] rfl hl tw4_11 tw4_12 tw4_13 tw1_1 tw4_14 rfl nd_X4_write ⟨Nat.le_of_ble_eq_true rfl, Nat.le_of_ble_eq_true rfl⟩ (Nat.le_of_ble_eq_true rfl) dL_law_1473 ⟨Nat.le_refl _, Nat.le_refl _⟩ (fun H locs hX => ?_)
  show LW Λ H locs 1476 ls [.int r]
  refine lv_aload_n hx hb dL_law_1476 rfl (lv_at hl 1 rfl) ?_
  refine l_arg (k := 1) h (by decide) (by decide) hj hX hl dL_law_1477 dL_law_1478 dL_law_1479 dL_law_1480 dL_law_1481 ?_
  refine l_arg (k := 2) h (by decide) (by decide) hj hX hl dL_law_1482 dL_law_1483 dL_law_1484 dL_law_1485 dL_law_1486 ?_
  refine l_arg (k := 3) h (by decide) (by decide) hj hX hl dL_law_1487 dL_law_1488 dL_law_1489 dL_law_1490 dL_law_1491 ?_
  refine l_call (lc_fix h) hX (fg_37_0 (ΛG Λ)) (c_X5_write Λ.2.1 (ΛG Λ) e2) [.int r] rfl hl tw6_127 tw6_128 tw6_129 tw1_7 tw6_130 rfl nd_X5_write ⟨Nat.le_of_ble_eq_true rfl, Nat.le_of_ble_eq_true rfl⟩ (Nat.le_of_ble_eq_true rfl) dL_law_1492 ⟨Nat.le_refl _, Nat.le_refl _⟩ (fun H locs hX => ?_)
  show LW Λ H locs 1495 ls [.int r, .int r]
  exact lv_icmp_eq (tgt := 1694) hx hb dL_law_1495 (by decide) (fun _ => K μ2 H locs hR2 hX) (fun z => absurd rfl z)
set_option maxHeartbeats 1000000 in
theorem law_44 {Λ : LX} (h : LC Λ) {μ : MM} {H : Heap} {locs : List Loc} {ls : Array Slot} {j : Nat} (hj : j + 6 ≤ ΛL Λ) (hR : Rel μ) (hX : XW (ΛG Λ) (A0 (Λs Λ)) (Λs Λ) H locs μ) (hl : lv_has ls 4 (LSs Λ j)) (K : ∀ (μ2 : MM) (H : Heap) (locs : List Loc), Rel μ2 → XW (ΛG Λ) (A0 (Λs Λ)) (Λs Λ) H locs μ2 → LW Λ H locs 1694 ls []) : LW Λ H locs 1500 ls [] := by
  obtain ⟨r, μ1, μ2, e1, e2, hR2⟩ := s_copy (Λx Λ (j + 1)) (Λx Λ (j + 2)) (Λx Λ (j + 3)) (Λx Λ (j + 4)) (Λx Λ (j + 5)) μ hR
  have hx := h.1.1
  have hb := h.1.2.1
  refine lv_aload_n hx hb dL_law_1500 rfl (lv_at hl 2 rfl) ?_
  refine l_arg (k := 1) h (by decide) (by decide) hj hX hl dL_law_1501 dL_law_1502 dL_law_1503 dL_law_1504 dL_law_1505 ?_
  refine l_arg (k := 2) h (by decide) (by decide) hj hX hl dL_law_1506 dL_law_1507 dL_law_1508 dL_law_1509 dL_law_1510 ?_
  refine l_arg (k := 3) h (by decide) (by decide) hj hX hl dL_law_1511 dL_law_1512 dL_law_1513 dL_law_1514 dL_law_1515 ?_
  refine l_arg (k := 4) h (by decide) (by decide) hj hX hl dL_law_1516 dL_law_1517 dL_law_1518 dL_law_1519 dL_law_1520 ?_
  refine l_arg (k := 5) h (by decide) (by decide) hj hX hl dL_law_1521 dL_law_1522 dL_law_1523 dL_law_1524 dL_law_1525 ?_
  refine l_call (lc_fix h) hX (fg_0_0 (ΛG Λ)) (c_X4_copy Λ.2.1 (ΛG Λ) e1) [] rfl hl tw4_19 tw4_20 tw4_21 tw1_1 tw4_22 rfl nd_X4_copy ⟨Nat.le_of_ble_eq_true rfl, Nat.le_of_ble_eq_true rfl⟩ (Nat.le_of_ble_eq_true rfl) dL_law_1526 ⟨Nat.le_refl _, Nat.le_refl _⟩ (fun H locs hX => ?_)
  show LW Λ H locs 1529 ls [.int r]
  refine lv_aload_n hx hb dL_law_1529 rfl (lv_at hl 1 rfl) ?_
  refine l_arg (k := 1) h (by decide) (by decide) hj hX hl dL_law_1530 dL_law_1531 dL_law_1532 dL_law_1533 dL_law_1534 ?_
  refine l_arg (k := 2) h (by decide) (by decide) hj hX hl dL_law_1535 dL_law_1536 dL_law_1537 dL_law_1538 dL_law_1539 ?_
  refine l_arg (k := 3) h (by decide) (by decide) hj hX hl dL_law_1540 dL_law_1541 dL_law_1542 dL_law_1543 dL_law_1544 ?_
  refine l_arg (k := 4) h (by decide) (by decide) hj hX hl dL_law_1545 dL_law_1546 dL_law_1547 dL_law_1548 dL_law_1549 ?_
  refine l_arg (k := 5) h (by decide) (by decide) hj hX hl dL_law_1550 dL_law_1551 dL_law_1552 dL_law_1553 dL_law_1554 ?_
  refine l_call (lc_fix h) hX (fg_37_0 (ΛG Λ)) (c_X5_copy Λ.2.1 (ΛG Λ) e2) [.int r] rfl hl tw6_134 tw6_135 tw6_136 tw1_7 tw6_137 rfl nd_X5_copy ⟨Nat.le_of_ble_eq_true rfl, Nat.le_of_ble_eq_true rfl⟩ (Nat.le_of_ble_eq_true rfl) dL_law_1555 ⟨Nat.le_refl _, Nat.le_refl _⟩ (fun H locs hX => ?_)
  show LW Λ H locs 1558 ls [.int r, .int r]
  exact lv_icmp_eq (tgt := 1694) hx hb dL_law_1558 (by decide) (fun _ => K μ2 H locs hR2 hX) (fun z => absurd rfl z)
set_option maxHeartbeats 1000000 in
theorem law_45 {Λ : LX} (h : LC Λ) {μ : MM} {H : Heap} {locs : List Loc} {ls : Array Slot} {j : Nat} (hj : j + 6 ≤ ΛL Λ) (hR : Rel μ) (hX : XW (ΛG Λ) (A0 (Λs Λ)) (Λs Λ) H locs μ) (hl : lv_has ls 4 (LSs Λ j)) (K : ∀ (μ2 : MM) (H : Heap) (locs : List Loc), Rel μ2 → XW (ΛG Λ) (A0 (Λs Λ)) (Λs Λ) H locs μ2 → LW Λ H locs 1694 ls []) : LW Λ H locs 1563 ls [] := by
  obtain ⟨r, μ1, μ2, e1, e2, hR2⟩ := s_load (Λx Λ (j + 1)) μ hR
  have hx := h.1.1
  have hb := h.1.2.1
  refine lv_aload_n hx hb dL_law_1563 rfl (lv_at hl 2 rfl) ?_
  refine l_arg (k := 1) h (by decide) (by decide) hj hX hl dL_law_1564 dL_law_1565 dL_law_1566 dL_law_1567 dL_law_1568 ?_
  refine l_call (lc_fix h) hX (fg_0_0 (ΛG Λ)) (c_X4_load Λ.2.1 (ΛG Λ) e1) [] rfl hl tw4_27 tw4_28 tw4_29 tw1_1 tw4_30 rfl nd_X4_load ⟨Nat.le_of_ble_eq_true rfl, Nat.le_of_ble_eq_true rfl⟩ (Nat.le_of_ble_eq_true rfl) dL_law_1569 ⟨Nat.le_refl _, Nat.le_refl _⟩ (fun H locs hX => ?_)
  show LW Λ H locs 1572 ls [.int r]
  refine lv_aload_n hx hb dL_law_1572 rfl (lv_at hl 1 rfl) ?_
  refine l_arg (k := 1) h (by decide) (by decide) hj hX hl dL_law_1573 dL_law_1574 dL_law_1575 dL_law_1576 dL_law_1577 ?_
  refine l_call (lc_fix h) hX (fg_37_0 (ΛG Λ)) (c_X5_load Λ.2.1 (ΛG Λ) e2) [.int r] rfl hl tw6_138 tw6_139 tw6_140 tw1_7 tw6_141 rfl nd_X5_load ⟨Nat.le_of_ble_eq_true rfl, Nat.le_of_ble_eq_true rfl⟩ (Nat.le_of_ble_eq_true rfl) dL_law_1578 ⟨Nat.le_refl _, Nat.le_refl _⟩ (fun H locs hX => ?_)
  show LW Λ H locs 1581 ls [.int r, .int r]
  exact lv_icmp_eq (tgt := 1694) hx hb dL_law_1581 (by decide) (fun _ => K μ2 H locs hR2 hX) (fun z => absurd rfl z)
set_option maxHeartbeats 1000000 in
theorem law_46 {Λ : LX} (h : LC Λ) {μ : MM} {H : Heap} {locs : List Loc} {ls : Array Slot} {j : Nat} (hj : j + 6 ≤ ΛL Λ) (hR : Rel μ) (hX : XW (ΛG Λ) (A0 (Λs Λ)) (Λs Λ) H locs μ) (hl : lv_has ls 4 (LSs Λ j)) (K : ∀ (μ2 : MM) (H : Heap) (locs : List Loc), Rel μ2 → XW (ΛG Λ) (A0 (Λs Λ)) (Λs Λ) H locs μ2 → LW Λ H locs 1694 ls []) : LW Λ H locs 1586 ls [] := by
  obtain ⟨r, μ1, μ2, e1, e2, hR2⟩ := s_judge (Λx Λ (j + 1)) μ hR
  have hx := h.1.1
  have hb := h.1.2.1
  refine lv_aload_n hx hb dL_law_1586 rfl (lv_at hl 2 rfl) ?_
  refine l_arg (k := 1) h (by decide) (by decide) hj hX hl dL_law_1587 dL_law_1588 dL_law_1589 dL_law_1590 dL_law_1591 ?_
  refine l_call (lc_fix h) hX (fg_0_0 (ΛG Λ)) (c_X4_judge Λ.2.1 (ΛG Λ) e1) [] rfl hl tw4_31 tw4_32 tw4_33 tw1_1 tw4_34 rfl nd_X4_judge ⟨Nat.le_of_ble_eq_true rfl, Nat.le_of_ble_eq_true rfl⟩ (Nat.le_of_ble_eq_true rfl) dL_law_1592 ⟨Nat.le_refl _, Nat.le_refl _⟩ (fun H locs hX => ?_)
  show LW Λ H locs 1595 ls [.int r]
  refine lv_aload_n hx hb dL_law_1595 rfl (lv_at hl 1 rfl) ?_
  refine l_arg (k := 1) h (by decide) (by decide) hj hX hl dL_law_1596 dL_law_1597 dL_law_1598 dL_law_1599 dL_law_1600 ?_
  refine l_call (lc_fix h) hX (fg_37_0 (ΛG Λ)) (c_X5_judge Λ.2.1 (ΛG Λ) e2) [.int r] rfl hl tw6_142 tw6_143 tw6_144 tw1_7 tw6_145 rfl nd_X5_judge ⟨Nat.le_of_ble_eq_true rfl, Nat.le_of_ble_eq_true rfl⟩ (Nat.le_of_ble_eq_true rfl) dL_law_1601 ⟨Nat.le_refl _, Nat.le_refl _⟩ (fun H locs hX => ?_)
  show LW Λ H locs 1604 ls [.int r, .int r]
  exact lv_icmp_eq (tgt := 1694) hx hb dL_law_1604 (by decide) (fun _ => K μ2 H locs hR2 hX) (fun z => absurd rfl z)
set_option maxHeartbeats 1000000 in
theorem law_47 {Λ : LX} (h : LC Λ) {μ : MM} {H : Heap} {locs : List Loc} {ls : Array Slot} {j : Nat} (hj : j + 6 ≤ ΛL Λ) (hR : Rel μ) (hX : XW (ΛG Λ) (A0 (Λs Λ)) (Λs Λ) H locs μ) (hl : lv_has ls 4 (LSs Λ j)) (K : ∀ (μ2 : MM) (H : Heap) (locs : List Loc), Rel μ2 → XW (ΛG Λ) (A0 (Λs Λ)) (Λs Λ) H locs μ2 → LW Λ H locs 1694 ls []) : LW Λ H locs 1609 ls [] := by
  obtain ⟨r, μ1, μ2, e1, e2, hR2⟩ := s_image  μ hR
  have hx := h.1.1
  have hb := h.1.2.1
  refine lv_aload_n hx hb dL_law_1609 rfl (lv_at hl 2 rfl) ?_
  refine l_call (lc_fix h) hX (fg_0_0 (ΛG Λ)) (c_X4_image Λ.2.1 (ΛG Λ) e1) [] rfl hl tw4_35 tw4_36 tw4_37 tw1_1 tw4_38 rfl nd_X4_image ⟨Nat.le_of_ble_eq_true rfl, Nat.le_of_ble_eq_true rfl⟩ (Nat.le_of_ble_eq_true rfl) dL_law_1610 ⟨Nat.le_refl _, Nat.le_refl _⟩ (fun H locs hX => ?_)
  show LW Λ H locs 1613 ls [.int r]
  refine lv_aload_n hx hb dL_law_1613 rfl (lv_at hl 1 rfl) ?_
  refine l_call (lc_fix h) hX (fg_37_0 (ΛG Λ)) (c_X5_image Λ.2.1 (ΛG Λ) e2) [.int r] rfl hl tw6_146 tw6_147 tw6_148 tw1_7 tw6_149 rfl nd_X5_image ⟨Nat.le_of_ble_eq_true rfl, Nat.le_of_ble_eq_true rfl⟩ (Nat.le_of_ble_eq_true rfl) dL_law_1614 ⟨Nat.le_refl _, Nat.le_refl _⟩ (fun H locs hX => ?_)
  show LW Λ H locs 1617 ls [.int r, .int r]
  exact lv_icmp_eq (tgt := 1694) hx hb dL_law_1617 (by decide) (fun _ => K μ2 H locs hR2 hX) (fun z => absurd rfl z)
set_option maxHeartbeats 1000000 in
theorem law_48 {Λ : LX} (h : LC Λ) {μ : MM} {H : Heap} {locs : List Loc} {ls : Array Slot} {j : Nat} (hj : j + 6 ≤ ΛL Λ) (hR : Rel μ) (hX : XW (ΛG Λ) (A0 (Λs Λ)) (Λs Λ) H locs μ) (hl : lv_has ls 4 (LSs Λ j)) (K : ∀ (μ2 : MM) (H : Heap) (locs : List Loc), Rel μ2 → XW (ΛG Λ) (A0 (Λs Λ)) (Λs Λ) H locs μ2 → LW Λ H locs 1694 ls []) : LW Λ H locs 1622 ls [] := by
  obtain ⟨r, μ1, μ2, e1, e2, hR2⟩ := s_undo  μ hR
  have hx := h.1.1
  have hb := h.1.2.1
  refine lv_aload_n hx hb dL_law_1622 rfl (lv_at hl 2 rfl) ?_
  refine l_call (lc_fix h) hX (fg_0_0 (ΛG Λ)) (c_X4_undo Λ.2.1 (ΛG Λ) e1) [] rfl hl tw4_44 tw4_45 tw4_46 tw1_1 tw4_47 rfl nd_X4_undo ⟨Nat.le_of_ble_eq_true rfl, Nat.le_of_ble_eq_true rfl⟩ (Nat.le_of_ble_eq_true rfl) dL_law_1623 ⟨Nat.le_refl _, Nat.le_refl _⟩ (fun H locs hX => ?_)
  show LW Λ H locs 1626 ls [.int r]
  refine lv_aload_n hx hb dL_law_1626 rfl (lv_at hl 1 rfl) ?_
  refine l_call (lc_fix h) hX (fg_37_0 (ΛG Λ)) (c_X5_undo Λ.2.1 (ΛG Λ) e2) [.int r] rfl hl tw6_150 tw6_151 tw6_152 tw1_7 tw6_153 rfl nd_X5_undo ⟨Nat.le_of_ble_eq_true rfl, Nat.le_of_ble_eq_true rfl⟩ (Nat.le_of_ble_eq_true rfl) dL_law_1627 ⟨Nat.le_refl _, Nat.le_refl _⟩ (fun H locs hX => ?_)
  show LW Λ H locs 1630 ls [.int r, .int r]
  exact lv_icmp_eq (tgt := 1694) hx hb dL_law_1630 (by decide) (fun _ => K μ2 H locs hR2 hX) (fun z => absurd rfl z)
set_option maxHeartbeats 1000000 in
theorem law_49 {Λ : LX} (h : LC Λ) {μ : MM} {H : Heap} {locs : List Loc} {ls : Array Slot} {j : Nat} (hj : j + 6 ≤ ΛL Λ) (hR : Rel μ) (hX : XW (ΛG Λ) (A0 (Λs Λ)) (Λs Λ) H locs μ) (hl : lv_has ls 4 (LSs Λ j)) (K : ∀ (μ2 : MM) (H : Heap) (locs : List Loc), Rel μ2 → XW (ΛG Λ) (A0 (Λs Λ)) (Λs Λ) H locs μ2 → LW Λ H locs 1694 ls []) : LW Λ H locs 1635 ls [] := by
  obtain ⟨r, μ1, μ2, e1, e2, hR2⟩ := s_tear  μ hR
  have hx := h.1.1
  have hb := h.1.2.1
  refine lv_aload_n hx hb dL_law_1635 rfl (lv_at hl 2 rfl) ?_
  refine l_call (lc_fix h) hX (fg_0_0 (ΛG Λ)) (c_X4_tear Λ.2.1 (ΛG Λ) e1) [] rfl hl tw4_48 tw4_49 tw4_50 tw1_1 tw4_51 rfl nd_X4_tear ⟨Nat.le_of_ble_eq_true rfl, Nat.le_of_ble_eq_true rfl⟩ (Nat.le_of_ble_eq_true rfl) dL_law_1636 ⟨Nat.le_refl _, Nat.le_refl _⟩ (fun H locs hX => ?_)
  show LW Λ H locs 1639 ls [.int r]
  refine lv_aload_n hx hb dL_law_1639 rfl (lv_at hl 1 rfl) ?_
  refine l_call (lc_fix h) hX (fg_37_0 (ΛG Λ)) (c_X5_tear Λ.2.1 (ΛG Λ) e2) [.int r] rfl hl tw6_154 tw6_155 tw6_156 tw1_7 tw6_157 rfl nd_X5_tear ⟨Nat.le_of_ble_eq_true rfl, Nat.le_of_ble_eq_true rfl⟩ (Nat.le_of_ble_eq_true rfl) dL_law_1640 ⟨Nat.le_refl _, Nat.le_refl _⟩ (fun H locs hX => ?_)
  show LW Λ H locs 1643 ls [.int r, .int r]
  exact lv_icmp_eq (tgt := 1694) hx hb dL_law_1643 (by decide) (fun _ => K μ2 H locs hR2 hX) (fun z => absurd rfl z)
set_option maxHeartbeats 1000000 in
theorem law_50 {Λ : LX} (h : LC Λ) {μ : MM} {H : Heap} {locs : List Loc} {ls : Array Slot} {j : Nat} (hj : j + 6 ≤ ΛL Λ) (hR : Rel μ) (hX : XW (ΛG Λ) (A0 (Λs Λ)) (Λs Λ) H locs μ) (hl : lv_has ls 4 (LSs Λ j)) (K : ∀ (μ2 : MM) (H : Heap) (locs : List Loc), Rel μ2 → XW (ΛG Λ) (A0 (Λs Λ)) (Λs Λ) H locs μ2 → LW Λ H locs 1694 ls []) : LW Λ H locs 1648 ls [] := by
  obtain ⟨r, μ1, μ2, e1, e2, hR2⟩ := s_count (Λx Λ (j + 1)) μ hR
  have hx := h.1.1
  have hb := h.1.2.1
  refine lv_aload_n hx hb dL_law_1648 rfl (lv_at hl 2 rfl) ?_
  refine l_arg (k := 1) h (by decide) (by decide) hj hX hl dL_law_1649 dL_law_1650 dL_law_1651 dL_law_1652 dL_law_1653 ?_
  refine l_call (lc_fix h) hX (fg_0_0 (ΛG Λ)) (c_X4_count Λ.2.1 (ΛG Λ) e1) [] rfl hl tw4_52 tw4_53 tw4_54 tw1_1 tw4_55 rfl nd_X4_count ⟨Nat.le_of_ble_eq_true rfl, Nat.le_of_ble_eq_true rfl⟩ (Nat.le_of_ble_eq_true rfl) dL_law_1654 ⟨Nat.le_refl _, Nat.le_refl _⟩ (fun H locs hX => ?_)
  show LW Λ H locs 1657 ls [.int r]
  refine lv_aload_n hx hb dL_law_1657 rfl (lv_at hl 1 rfl) ?_
  refine l_arg (k := 1) h (by decide) (by decide) hj hX hl dL_law_1658 dL_law_1659 dL_law_1660 dL_law_1661 dL_law_1662 ?_
  refine l_call (lc_fix h) hX (fg_37_0 (ΛG Λ)) (c_X5_count Λ.2.1 (ΛG Λ) e2) [.int r] rfl hl tw6_158 tw6_159 tw6_160 tw1_7 tw6_161 rfl nd_X5_count ⟨Nat.le_of_ble_eq_true rfl, Nat.le_of_ble_eq_true rfl⟩ (Nat.le_of_ble_eq_true rfl) dL_law_1663 ⟨Nat.le_refl _, Nat.le_refl _⟩ (fun H locs hX => ?_)
  show LW Λ H locs 1666 ls [.int r, .int r]
  exact lv_icmp_eq (tgt := 1694) hx hb dL_law_1666 (by decide) (fun _ => K μ2 H locs hR2 hX) (fun z => absurd rfl z)
set_option maxHeartbeats 1000000 in
theorem law_51 {Λ : LX} (h : LC Λ) {μ : MM} {H : Heap} {locs : List Loc} {ls : Array Slot} {j : Nat} (hj : j + 6 ≤ ΛL Λ) (hR : Rel μ) (hX : XW (ΛG Λ) (A0 (Λs Λ)) (Λs Λ) H locs μ) (hl : lv_has ls 4 (LSs Λ j)) (K : ∀ (μ2 : MM) (H : Heap) (locs : List Loc), Rel μ2 → XW (ΛG Λ) (A0 (Λs Λ)) (Λs Λ) H locs μ2 → LW Λ H locs 1694 ls []) : LW Λ H locs 1671 ls [] := by
  obtain ⟨r, μ1, μ2, e1, e2, hR2⟩ := s_status (Λx Λ (j + 1)) μ hR
  have hx := h.1.1
  have hb := h.1.2.1
  refine lv_aload_n hx hb dL_law_1671 rfl (lv_at hl 2 rfl) ?_
  refine l_arg (k := 1) h (by decide) (by decide) hj hX hl dL_law_1672 dL_law_1673 dL_law_1674 dL_law_1675 dL_law_1676 ?_
  refine l_call (lc_fix h) hX (fg_0_0 (ΛG Λ)) (c_X4_status Λ.2.1 (ΛG Λ) e1) [] rfl hl tw4_64 tw4_65 tw4_66 tw1_1 tw4_67 rfl nd_X4_status ⟨Nat.le_of_ble_eq_true rfl, Nat.le_of_ble_eq_true rfl⟩ (Nat.le_of_ble_eq_true rfl) dL_law_1677 ⟨Nat.le_refl _, Nat.le_refl _⟩ (fun H locs hX => ?_)
  show LW Λ H locs 1680 ls [.int r]
  refine lv_aload_n hx hb dL_law_1680 rfl (lv_at hl 1 rfl) ?_
  refine l_arg (k := 1) h (by decide) (by decide) hj hX hl dL_law_1681 dL_law_1682 dL_law_1683 dL_law_1684 dL_law_1685 ?_
  refine l_call (lc_fix h) hX (fg_37_0 (ΛG Λ)) (c_X5_status Λ.2.1 (ΛG Λ) e2) [.int r] rfl hl tw6_162 tw6_163 tw6_164 tw1_7 tw6_165 rfl nd_X5_status ⟨Nat.le_of_ble_eq_true rfl, Nat.le_of_ble_eq_true rfl⟩ (Nat.le_of_ble_eq_true rfl) dL_law_1686 ⟨Nat.le_refl _, Nat.le_refl _⟩ (fun H locs hX => ?_)
  show LW Λ H locs 1689 ls [.int r, .int r]
  exact lv_icmp_eq (tgt := 1694) hx hb dL_law_1689 (by decide) (fun _ => K μ2 H locs hR2 hX) (fun z => absurd rfl z)
