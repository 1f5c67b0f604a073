/-! the law: the calls that only read -/
/-- field -/
theorem lw_2 {Z : gS → List (Nat × Value) → Nat → List Value → Prop} {E : gE} {b : Nat} {xs : Nat → Int} {L : Nat} (C : LwC Z E b xs L) {S : gS} (hI : Inv S) {i : Nat} (hi : i + 5 ≤ L) (next : ∀ S₉ : gS, Inv S₉ → Z S₉ (lwL E b i) 760 []) : Z S (lwL E b i) 218 [] := by
  obtain ⟨hZ, hld, hln, hG, hxs, hL⟩ := C
  obtain ⟨w, h, n, hs, kp, tx, hI⟩ := hI
  obtain ⟨a1, a2, a3, a4, a5, a6, a7, a8, a9, a10, a11, a12, a13, a14⟩ := id hI
  refine g_aload_n hZ dL_law_218 rfl ?_
  refine g_aload_n hZ dL_law_219 rfl ?_
  refine g_iload_n hZ dL_law_220 rfl ?_
  refine g_iconst hZ dL_law_221 ?_
  refine g_iadd hZ dL_law_222 ?_
  refine hld _ _ _ _ _ (i + 1) (by omega) (by omega) dL_law_223 ?_
  refine g_callV hZ (t_X8_field E S w h n a1 (S 61) a3 a4 (xs (i + 1)) (hxs _)) kL_22 ⟨by decide, by decide⟩ rfl rfl rfl rfl (Nat.le_of_ble_eq_true rfl) dL_law_224 ?_
  rintro _ _ ⟨rfl, rfl⟩
  refine g_aload_n hZ dL_law_227 rfl ?_
  refine g_aload_n hZ dL_law_228 rfl ?_
  refine g_iload_n hZ dL_law_229 rfl ?_
  refine g_iconst hZ dL_law_230 ?_
  refine g_iadd hZ dL_law_231 ?_
  refine hld _ _ _ _ _ (i + 1) (by omega) (by omega) dL_law_232 ?_
  refine g_callV hZ (t_X9_field E S w h n a2 (xs (i + 1)) (hxs _)) kL_26 ⟨by decide, by decide⟩ rfl rfl rfl rfl (Nat.le_of_ble_eq_true rfl) dL_law_233 ?_
  rintro _ _ ⟨rfl, rfl⟩
  refine g_same hZ 760 dL_law_236 rfl ?_
  exact next _ ⟨w, h, n, hs, kp, tx, hI⟩
/-- count -/
theorem lw_3 {Z : gS → List (Nat × Value) → Nat → List Value → Prop} {E : gE} {b : Nat} {xs : Nat → Int} {L : Nat} (C : LwC Z E b xs L) {S : gS} (hI : Inv S) {i : Nat} (hi : i + 5 ≤ L) (next : ∀ S₉ : gS, Inv S₉ → Z S₉ (lwL E b i) 760 []) : Z S (lwL E b i) 241 [] := by
  obtain ⟨hZ, hld, hln, hG, hxs, hL⟩ := C
  obtain ⟨w, h, n, hs, kp, tx, hI⟩ := hI
  obtain ⟨a1, a2, a3, a4, a5, a6, a7, a8, a9, a10, a11, a12, a13, a14⟩ := id hI
  refine g_aload_n hZ dL_law_241 rfl ?_
  refine g_aload_n hZ dL_law_242 rfl ?_
  refine g_iload_n hZ dL_law_243 rfl ?_
  refine g_iconst hZ dL_law_244 ?_
  refine g_iadd hZ dL_law_245 ?_
  refine hld _ _ _ _ _ (i + 1) (by omega) (by omega) dL_law_246 ?_
  refine g_callV hZ (t_X8_count E S w h n a1 (S 61) a3 a4 (xs (i + 1)) (hxs _)) kL_27 ⟨by decide, by decide⟩ rfl rfl rfl rfl (Nat.le_of_ble_eq_true rfl) dL_law_247 ?_
  rintro _ _ ⟨rfl, rfl⟩
  refine g_aload_n hZ dL_law_250 rfl ?_
  refine g_aload_n hZ dL_law_251 rfl ?_
  refine g_iload_n hZ dL_law_252 rfl ?_
  refine g_iconst hZ dL_law_253 ?_
  refine g_iadd hZ dL_law_254 ?_
  refine hld _ _ _ _ _ (i + 1) (by omega) (by omega) dL_law_255 ?_
  refine g_callV hZ (t_X9_count E S w h n a2 a4 (xs (i + 1)) (hxs _)) kL_30 ⟨by decide, by decide⟩ rfl rfl rfl rfl (Nat.le_of_ble_eq_true rfl) dL_law_256 ?_
  rintro _ _ ⟨rfl, rfl⟩
  refine g_same hZ 760 dL_law_259 rfl ?_
  exact next _ ⟨w, h, n, hs, kp, tx, hI⟩
/-- isSeen -/
theorem lw_4 {Z : gS → List (Nat × Value) → Nat → List Value → Prop} {E : gE} {b : Nat} {xs : Nat → Int} {L : Nat} (C : LwC Z E b xs L) {S : gS} (hI : Inv S) {i : Nat} (hi : i + 5 ≤ L) (next : ∀ S₉ : gS, Inv S₉ → Z S₉ (lwL E b i) 760 []) : Z S (lwL E b i) 264 [] := by
  obtain ⟨hZ, hld, hln, hG, hxs, hL⟩ := C
  obtain ⟨w, h, n, hs, kp, tx, hI⟩ := hI
  obtain ⟨a1, a2, a3, a4, a5, a6, a7, a8, a9, a10, a11, a12, a13, a14⟩ := id hI
  refine g_aload_n hZ dL_law_264 rfl ?_
  refine g_aload_n hZ dL_law_265 rfl ?_
  refine g_iload_n hZ dL_law_266 rfl ?_
  refine g_iconst hZ dL_law_267 ?_
  refine g_iadd hZ dL_law_268 ?_
  refine hld _ _ _ _ _ (i + 1) (by omega) (by omega) dL_law_269 ?_
  refine g_aload_n hZ dL_law_270 rfl ?_
  refine g_iload_n hZ dL_law_271 rfl ?_
  refine g_iconst hZ dL_law_272 ?_
  refine g_iadd hZ dL_law_273 ?_
  refine hld _ _ _ _ _ (i + 2) (by omega) (by omega) dL_law_274 ?_
  refine g_callV hZ (t_X8_isSeen E S w h n a1 (S 61) a3 a4 (xs (i + 1)) (xs (i + 2)) (hxs _) (hxs _)) kL_31 ⟨by decide, by decide⟩ rfl rfl rfl rfl (Nat.le_of_ble_eq_true rfl) dL_law_275 ?_
  rintro _ _ ⟨rfl, rfl⟩
  refine g_aload_n hZ dL_law_278 rfl ?_
  refine g_aload_n hZ dL_law_279 rfl ?_
  refine g_iload_n hZ dL_law_280 rfl ?_
  refine g_iconst hZ dL_law_281 ?_
  refine g_iadd hZ dL_law_282 ?_
  refine hld _ _ _ _ _ (i + 1) (by omega) (by omega) dL_law_283 ?_
  refine g_aload_n hZ dL_law_284 rfl ?_
  refine g_iload_n hZ dL_law_285 rfl ?_
  refine g_iconst hZ dL_law_286 ?_
  refine g_iadd hZ dL_law_287 ?_
  refine hld _ _ _ _ _ (i + 2) (by omega) (by omega) dL_law_288 ?_
  refine g_callV hZ (t_X9_isSeen E S w h n a2 a4 (xs (i + 1)) (xs (i + 2)) (hxs _) (hxs _)) kL_34 ⟨by decide, by decide⟩ rfl rfl rfl rfl (Nat.le_of_ble_eq_true rfl) dL_law_289 ?_
  rintro _ S₂ ⟨he₂, rfl⟩
  refine g_same hZ 760 dL_law_292 rfl ?_
  exact next _ ⟨w, h, n, hs, kp, tx, hI.scr (he₂.mono rfl)⟩
/-- moves -/
theorem lw_7 {Z : gS → List (Nat × Value) → Nat → List Value → Prop} {E : gE} {b : Nat} {xs : Nat → Int} {L : Nat} (C : LwC Z E b xs L) {S : gS} (hI : Inv S) {i : Nat} (hi : i + 5 ≤ L) (next : ∀ S₉ : gS, Inv S₉ → Z S₉ (lwL E b i) 760 []) : Z S (lwL E b i) 363 [] := by
  obtain ⟨hZ, hld, hln, hG, hxs, hL⟩ := C
  obtain ⟨w, h, n, hs, kp, tx, hI⟩ := hI
  obtain ⟨a1, a2, a3, a4, a5, a6, a7, a8, a9, a10, a11, a12, a13, a14⟩ := id hI
  refine g_aload_n hZ dL_law_363 rfl ?_
  refine g_aload_n hZ dL_law_364 rfl ?_
  refine g_iload_n hZ dL_law_365 rfl ?_
  refine g_iconst hZ dL_law_366 ?_
  refine g_iadd hZ dL_law_367 ?_
  refine hld _ _ _ _ _ (i + 1) (by omega) (by omega) dL_law_368 ?_
  refine g_callV hZ (t_X8_moves E S w h n a1 (S 61) a3 a4 a5 (xs (i + 1)) (hxs _)) kL_45 ⟨by decide, by decide⟩ rfl rfl rfl rfl (Nat.le_of_ble_eq_true rfl) dL_law_369 ?_
  rintro _ S₁ ⟨he₁, rfl⟩
  have hI₁ := hI.scr (he₁.mono rfl)
  obtain ⟨b1, b2, b3, b4, b5, b6, b7, b8, b9, b10, b11, b12, b13, b14⟩ := id hI₁
  have e61 : S₁ 61 = S 61 := funext fun j => he₁ 61 j rfl
  refine g_aload_n hZ dL_law_372 rfl ?_
  refine g_aload_n hZ dL_law_373 rfl ?_
  refine g_iload_n hZ dL_law_374 rfl ?_
  refine g_iconst hZ dL_law_375 ?_
  refine g_iadd hZ dL_law_376 ?_
  refine hld _ _ _ _ _ (i + 1) (by omega) (by omega) dL_law_377 ?_
  refine g_callV hZ (t_X9_moves E S₁ w h n b2 b4 b5 (xs (i + 1)) (hxs _)) kL_48 ⟨by decide, by decide⟩ rfl rfl rfl rfl (Nat.le_of_ble_eq_true rfl) dL_law_378 ?_
  rintro _ S₂ ⟨he₂, rfl⟩
  rw [e61]
  refine g_same hZ 760 dL_law_381 rfl ?_
  exact next _ ⟨w, h, n, hs, kp, tx, hI₁.scr (he₂.mono rfl)⟩
/-- moveAt -/
theorem lw_8 {Z : gS → List (Nat × Value) → Nat → List Value → Prop} {E : gE} {b : Nat} {xs : Nat → Int} {L : Nat} (C : LwC Z E b xs L) {S : gS} (hI : Inv S) {i : Nat} (hi : i + 5 ≤ L) (next : ∀ S₉ : gS, Inv S₉ → Z S₉ (lwL E b i) 760 []) : Z S (lwL E b i) 386 [] := by
  obtain ⟨hZ, hld, hln, hG, hxs, hL⟩ := C
  obtain ⟨w, h, n, hs, kp, tx, hI⟩ := hI
  obtain ⟨a1, a2, a3, a4, a5, a6, a7, a8, a9, a10, a11, a12, a13, a14⟩ := id hI
  refine g_aload_n hZ dL_law_386 rfl ?_
  refine g_aload_n hZ dL_law_387 rfl ?_
  refine g_iload_n hZ dL_law_388 rfl ?_
  refine g_iconst hZ dL_law_389 ?_
  refine g_iadd hZ dL_law_390 ?_
  refine hld _ _ _ _ _ (i + 1) (by omega) (by omega) dL_law_391 ?_
  refine g_aload_n hZ dL_law_392 rfl ?_
  refine g_iload_n hZ dL_law_393 rfl ?_
  refine g_iconst hZ dL_law_394 ?_
  refine g_iadd hZ dL_law_395 ?_
  refine hld _ _ _ _ _ (i + 2) (by omega) (by omega) dL_law_396 ?_
  refine g_aload_n hZ dL_law_397 rfl ?_
  refine g_iload_n hZ dL_law_398 rfl ?_
  refine g_iconst hZ dL_law_399 ?_
  refine g_iadd hZ dL_law_400 ?_
  refine hld _ _ _ _ _ (i + 3) (by omega) (by omega) dL_law_401 ?_
  refine g_callV hZ (t_X8_moveAt E S w h n a1 (S 61) a3 a4 a5 (xs (i + 1)) (xs (i + 2)) (xs (i + 3)) (hxs _) (hxs _) (hxs _)) kL_49 ⟨by decide, by decide⟩ rfl rfl rfl rfl (Nat.le_of_ble_eq_true rfl) dL_law_402 ?_
  rintro _ S₁ ⟨he₁, rfl⟩
  have hI₁ := hI.scr (he₁.mono rfl)
  obtain ⟨b1, b2, b3, b4, b5, b6, b7, b8, b9, b10, b11, b12, b13, b14⟩ := id hI₁
  have e61 : S₁ 61 = S 61 := funext fun j => he₁ 61 j rfl
  refine g_aload_n hZ dL_law_405 rfl ?_
  refine g_aload_n hZ dL_law_406 rfl ?_
  refine g_iload_n hZ dL_law_407 rfl ?_
  refine g_iconst hZ dL_law_408 ?_
  refine g_iadd hZ dL_law_409 ?_
  refine hld _ _ _ _ _ (i + 1) (by omega) (by omega) dL_law_410 ?_
  refine g_aload_n hZ dL_law_411 rfl ?_
  refine g_iload_n hZ dL_law_412 rfl ?_
  refine g_iconst hZ dL_law_413 ?_
  refine g_iadd hZ dL_law_414 ?_
  refine hld _ _ _ _ _ (i + 2) (by omega) (by omega) dL_law_415 ?_
  refine g_aload_n hZ dL_law_416 rfl ?_
  refine g_iload_n hZ dL_law_417 rfl ?_
  refine g_iconst hZ dL_law_418 ?_
  refine g_iadd hZ dL_law_419 ?_
  refine hld _ _ _ _ _ (i + 3) (by omega) (by omega) dL_law_420 ?_
  refine g_callV hZ (t_X9_moveAt E S₁ w h n b2 b4 b5 (xs (i + 1)) (xs (i + 2)) (xs (i + 3)) (hxs _) (hxs _) (hxs _)) kL_53 ⟨by decide, by decide⟩ rfl rfl rfl rfl (Nat.le_of_ble_eq_true rfl) dL_law_421 ?_
  rintro _ S₂ ⟨he₂, rfl⟩
  rw [e61]
  refine g_same hZ 760 dL_law_424 rfl ?_
  exact next _ ⟨w, h, n, hs, kp, tx, hI₁.scr (he₂.mono rfl)⟩
/-- regions -/
theorem lw_9 {Z : gS → List (Nat × Value) → Nat → List Value → Prop} {E : gE} {b : Nat} {xs : Nat → Int} {L : Nat} (C : LwC Z E b xs L) {S : gS} (hI : Inv S) {i : Nat} (hi : i + 5 ≤ L) (next : ∀ S₉ : gS, Inv S₉ → Z S₉ (lwL E b i) 760 []) : Z S (lwL E b i) 429 [] := by
  obtain ⟨hZ, hld, hln, hG, hxs, hL⟩ := C
  obtain ⟨w, h, n, hs, kp, tx, hI⟩ := hI
  obtain ⟨a1, a2, a3, a4, a5, a6, a7, a8, a9, a10, a11, a12, a13, a14⟩ := id hI
  refine g_aload_n hZ dL_law_429 rfl ?_
  refine g_callV hZ (t_X8_regions E S w h n a1 (S 61) a3 a4  ) kL_54 ⟨by decide, by decide⟩ rfl rfl rfl rfl (Nat.le_of_ble_eq_true rfl) dL_law_430 ?_
  rintro _ S₁ ⟨rfl, he₁⟩
  have hI₁ := hI.scr (he₁.mono rfl)
  obtain ⟨b1, b2, b3, b4, b5, b6, b7, b8, b9, b10, b11, b12, b13, b14⟩ := id hI₁
  have e61 : S₁ 61 = S 61 := funext fun j => he₁ 61 j rfl
  refine g_aload_n hZ dL_law_433 rfl ?_
  refine g_callV hZ (t_X9_regions E S₁ w h n b2 b4  ) kL_57 ⟨by decide, by decide⟩ rfl rfl rfl rfl (Nat.le_of_ble_eq_true rfl) dL_law_434 ?_
  rintro _ S₂ ⟨he₂, rfl⟩
  rw [e61]
  rw [rts_len]
  refine g_same hZ 760 dL_law_437 rfl ?_
  exact next _ ⟨w, h, n, hs, kp, tx, hI₁.scr (he₂.mono rfl)⟩
/-- regionOf -/
theorem lw_10 {Z : gS → List (Nat × Value) → Nat → List Value → Prop} {E : gE} {b : Nat} {xs : Nat → Int} {L : Nat} (C : LwC Z E b xs L) {S : gS} (hI : Inv S) {i : Nat} (hi : i + 5 ≤ L) (next : ∀ S₉ : gS, Inv S₉ → Z S₉ (lwL E b i) 760 []) : Z S (lwL E b i) 442 [] := by
  obtain ⟨hZ, hld, hln, hG, hxs, hL⟩ := C
  obtain ⟨w, h, n, hs, kp, tx, hI⟩ := hI
  obtain ⟨a1, a2, a3, a4, a5, a6, a7, a8, a9, a10, a11, a12, a13, a14⟩ := id hI
  refine g_aload_n hZ dL_law_442 rfl ?_
  refine g_aload_n hZ dL_law_443 rfl ?_
  refine g_iload_n hZ dL_law_444 rfl ?_
  refine g_iconst hZ dL_law_445 ?_
  refine g_iadd hZ dL_law_446 ?_
  refine hld _ _ _ _ _ (i + 1) (by omega) (by omega) dL_law_447 ?_
  refine g_callV hZ (t_X8_regionOf E S w h n a1 (S 61) a3 a4 (xs (i + 1)) (hxs _)) kL_58 ⟨by decide, by decide⟩ rfl rfl rfl rfl (Nat.le_of_ble_eq_true rfl) dL_law_448 ?_
  rintro _ S₁ ⟨rfl, he₁⟩
  have hI₁ := hI.scr (he₁.mono rfl)
  obtain ⟨b1, b2, b3, b4, b5, b6, b7, b8, b9, b10, b11, b12, b13, b14⟩ := id hI₁
  have e61 : S₁ 61 = S 61 := funext fun j => he₁ 61 j rfl
  refine g_aload_n hZ dL_law_451 rfl ?_
  refine g_aload_n hZ dL_law_452 rfl ?_
  refine g_iload_n hZ dL_law_453 rfl ?_
  refine g_iconst hZ dL_law_454 ?_
  refine g_iadd hZ dL_law_455 ?_
  refine hld _ _ _ _ _ (i + 1) (by omega) (by omega) dL_law_456 ?_
  refine g_callV hZ (t_X9_regionOf E S₁ w h n b2 b4 (xs (i + 1)) (hxs _)) kL_61 ⟨by decide, by decide⟩ rfl rfl rfl rfl (Nat.le_of_ble_eq_true rfl) dL_law_457 ?_
  rintro _ S₂ ⟨he₂, rfl⟩
  rw [e61]
  refine g_same hZ 760 dL_law_460 rfl ?_
  exact next _ ⟨w, h, n, hs, kp, tx, hI₁.scr (he₂.mono rfl)⟩
/-- regionInfo -/
theorem lw_11 {Z : gS → List (Nat × Value) → Nat → List Value → Prop} {E : gE} {b : Nat} {xs : Nat → Int} {L : Nat} (C : LwC Z E b xs L) {S : gS} (hI : Inv S) {i : Nat} (hi : i + 5 ≤ L) (next : ∀ S₉ : gS, Inv S₉ → Z S₉ (lwL E b i) 760 []) : Z S (lwL E b i) 465 [] := by
  obtain ⟨hZ, hld, hln, hG, hxs, hL⟩ := C
  obtain ⟨w, h, n, hs, kp, tx, hI⟩ := hI
  obtain ⟨a1, a2, a3, a4, a5, a6, a7, a8, a9, a10, a11, a12, a13, a14⟩ := id hI
  refine g_aload_n hZ dL_law_465 rfl ?_
  refine g_aload_n hZ dL_law_466 rfl ?_
  refine g_iload_n hZ dL_law_467 rfl ?_
  refine g_iconst hZ dL_law_468 ?_
  refine g_iadd hZ dL_law_469 ?_
  refine hld _ _ _ _ _ (i + 1) (by omega) (by omega) dL_law_470 ?_
  refine g_aload_n hZ dL_law_471 rfl ?_
  refine g_iload_n hZ dL_law_472 rfl ?_
  refine g_iconst hZ dL_law_473 ?_
  refine g_iadd hZ dL_law_474 ?_
  refine hld _ _ _ _ _ (i + 2) (by omega) (by omega) dL_law_475 ?_
  refine g_callV hZ (t_X8_regionInfo E S w h n a1 (S 61) a3 a4 (xs (i + 1)) (xs (i + 2)) (hxs _) (hxs _)) kL_62 ⟨by decide, by decide⟩ rfl rfl rfl rfl (Nat.le_of_ble_eq_true rfl) dL_law_476 ?_
  rintro _ S₁ ⟨he₁, rfl⟩
  have hI₁ := hI.scr (he₁.mono rfl)
  obtain ⟨b1, b2, b3, b4, b5, b6, b7, b8, b9, b10, b11, b12, b13, b14⟩ := id hI₁
  have e61 : S₁ 61 = S 61 := funext fun j => he₁ 61 j rfl
  refine g_aload_n hZ dL_law_479 rfl ?_
  refine g_aload_n hZ dL_law_480 rfl ?_
  refine g_iload_n hZ dL_law_481 rfl ?_
  refine g_iconst hZ dL_law_482 ?_
  refine g_iadd hZ dL_law_483 ?_
  refine hld _ _ _ _ _ (i + 1) (by omega) (by omega) dL_law_484 ?_
  refine g_aload_n hZ dL_law_485 rfl ?_
  refine g_iload_n hZ dL_law_486 rfl ?_
  refine g_iconst hZ dL_law_487 ?_
  refine g_iadd hZ dL_law_488 ?_
  refine hld _ _ _ _ _ (i + 2) (by omega) (by omega) dL_law_489 ?_
  refine g_callV hZ (t_X9_regionInfo E S₁ w h n b2 b4 (xs (i + 1)) (xs (i + 2)) (hxs _) (hxs _)) kL_65 ⟨by decide, by decide⟩ rfl rfl rfl rfl (Nat.le_of_ble_eq_true rfl) dL_law_490 ?_
  rintro _ S₂ ⟨he₂, rfl⟩
  rw [e61]
  refine g_same hZ 760 dL_law_493 rfl ?_
  exact next _ ⟨w, h, n, hs, kp, tx, hI₁.scr (he₂.mono rfl)⟩
/-- positions -/
theorem lw_15 {Z : gS → List (Nat × Value) → Nat → List Value → Prop} {E : gE} {b : Nat} {xs : Nat → Int} {L : Nat} (C : LwC Z E b xs L) {S : gS} (hI : Inv S) {i : Nat} (hi : i + 5 ≤ L) (next : ∀ S₉ : gS, Inv S₉ → Z S₉ (lwL E b i) 760 []) : Z S (lwL E b i) 557 [] := by
  obtain ⟨hZ, hld, hln, hG, hxs, hL⟩ := C
  obtain ⟨w, h, n, hs, kp, tx, hI⟩ := hI
  obtain ⟨a1, a2, a3, a4, a5, a6, a7, a8, a9, a10, a11, a12, a13, a14⟩ := id hI
  refine g_aload_n hZ dL_law_557 rfl ?_
  refine g_aload_n hZ dL_law_558 rfl ?_
  refine g_iload_n hZ dL_law_559 rfl ?_
  refine g_iconst hZ dL_law_560 ?_
  refine g_iadd hZ dL_law_561 ?_
  refine hld _ _ _ _ _ (i + 1) (by omega) (by omega) dL_law_562 ?_
  refine g_callV hZ (t_X8_positions E S w h n a1 (S 61) a3 a4 a5 (xs (i + 1)) (hxs _)) kL_78 ⟨by decide, by decide⟩ rfl rfl rfl rfl (Nat.le_of_ble_eq_true rfl) dL_law_563 ?_
  rintro _ S₁ ⟨he₁, rfl⟩
  have hI₁ := hI.scr (he₁.mono rfl)
  obtain ⟨b1, b2, b3, b4, b5, b6, b7, b8, b9, b10, b11, b12, b13, b14⟩ := id hI₁
  have e61 : S₁ 61 = S 61 := funext fun j => he₁ 61 j rfl
  refine g_aload_n hZ dL_law_566 rfl ?_
  refine g_aload_n hZ dL_law_567 rfl ?_
  refine g_iload_n hZ dL_law_568 rfl ?_
  refine g_iconst hZ dL_law_569 ?_
  refine g_iadd hZ dL_law_570 ?_
  refine hld _ _ _ _ _ (i + 1) (by omega) (by omega) dL_law_571 ?_
  refine g_callV hZ (t_X9_positions E S₁ w h n b2 b4 b5 (xs (i + 1)) (hxs _)) kL_81 ⟨by decide, by decide⟩ rfl rfl rfl rfl (Nat.le_of_ble_eq_true rfl) dL_law_572 ?_
  rintro _ S₂ ⟨he₂, rfl⟩
  rw [e61]
  refine g_same hZ 760 dL_law_575 rfl ?_
  exact next _ ⟨w, h, n, hs, kp, tx, hI₁.scr (he₂.mono rfl)⟩
/-- wins -/
theorem lw_16 {Z : gS → List (Nat × Value) → Nat → List Value → Prop} {E : gE} {b : Nat} {xs : Nat → Int} {L : Nat} (C : LwC Z E b xs L) {S : gS} (hI : Inv S) {i : Nat} (hi : i + 5 ≤ L) (next : ∀ S₉ : gS, Inv S₉ → Z S₉ (lwL E b i) 760 []) : Z S (lwL E b i) 580 [] := by
  obtain ⟨hZ, hld, hln, hG, hxs, hL⟩ := C
  obtain ⟨w, h, n, hs, kp, tx, hI⟩ := hI
  obtain ⟨a1, a2, a3, a4, a5, a6, a7, a8, a9, a10, a11, a12, a13, a14⟩ := id hI
  refine g_aload_n hZ dL_law_580 rfl ?_
  refine g_aload_n hZ dL_law_581 rfl ?_
  refine g_iload_n hZ dL_law_582 rfl ?_
  refine g_iconst hZ dL_law_583 ?_
  refine g_iadd hZ dL_law_584 ?_
  refine hld _ _ _ _ _ (i + 1) (by omega) (by omega) dL_law_585 ?_
  refine g_callV hZ (t_X8_wins E S w h n a1 (S 61) a3 a4 a5 (xs (i + 1)) (hxs _)) kL_82 ⟨by decide, by decide⟩ rfl rfl rfl rfl (Nat.le_of_ble_eq_true rfl) dL_law_586 ?_
  rintro _ S₁ ⟨he₁, rfl⟩
  have hI₁ := hI.scr (he₁.mono rfl)
  obtain ⟨b1, b2, b3, b4, b5, b6, b7, b8, b9, b10, b11, b12, b13, b14⟩ := id hI₁
  have e61 : S₁ 61 = S 61 := funext fun j => he₁ 61 j rfl
  refine g_aload_n hZ dL_law_589 rfl ?_
  refine g_aload_n hZ dL_law_590 rfl ?_
  refine g_iload_n hZ dL_law_591 rfl ?_
  refine g_iconst hZ dL_law_592 ?_
  refine g_iadd hZ dL_law_593 ?_
  refine hld _ _ _ _ _ (i + 1) (by omega) (by omega) dL_law_594 ?_
  refine g_callV hZ (t_X9_wins E S₁ w h n b2 b4 b5 (xs (i + 1)) (hxs _)) kL_85 ⟨by decide, by decide⟩ rfl rfl rfl rfl (Nat.le_of_ble_eq_true rfl) dL_law_595 ?_
  rintro _ S₂ ⟨he₂, rfl⟩
  rw [e61]
  refine g_same hZ 760 dL_law_598 rfl ?_
  exact next _ ⟨w, h, n, hs, kp, tx, hI₁.scr (he₂.mono rfl)⟩
/-- outcome -/
theorem lw_17 {Z : gS → List (Nat × Value) → Nat → List Value → Prop} {E : gE} {b : Nat} {xs : Nat → Int} {L : Nat} (C : LwC Z E b xs L) {S : gS} (hI : Inv S) {i : Nat} (hi : i + 5 ≤ L) (next : ∀ S₉ : gS, Inv S₉ → Z S₉ (lwL E b i) 760 []) : Z S (lwL E b i) 603 [] := by
  obtain ⟨hZ, hld, hln, hG, hxs, hL⟩ := C
  obtain ⟨w, h, n, hs, kp, tx, hI⟩ := hI
  obtain ⟨a1, a2, a3, a4, a5, a6, a7, a8, a9, a10, a11, a12, a13, a14⟩ := id hI
  refine g_aload_n hZ dL_law_603 rfl ?_
  refine g_callV hZ (t_X8_outcome E S w h n a1 (S 61) a3 a4 a5  ) kL_86 ⟨by decide, by decide⟩ rfl rfl rfl rfl (Nat.le_of_ble_eq_true rfl) dL_law_604 ?_
  rintro _ S₁ ⟨he₁, rfl⟩
  have hI₁ := hI.scr (he₁.mono rfl)
  obtain ⟨b1, b2, b3, b4, b5, b6, b7, b8, b9, b10, b11, b12, b13, b14⟩ := id hI₁
  have e61 : S₁ 61 = S 61 := funext fun j => he₁ 61 j rfl
  refine g_aload_n hZ dL_law_607 rfl ?_
  refine g_callV hZ (t_X9_outcome E S₁ w h n b2 b4 b5  ) kL_89 ⟨by decide, by decide⟩ rfl rfl rfl rfl (Nat.le_of_ble_eq_true rfl) dL_law_608 ?_
  rintro _ S₂ ⟨he₂, rfl⟩
  rw [e61]
  refine g_same hZ 760 dL_law_611 rfl ?_
  exact next _ ⟨w, h, n, hs, kp, tx, hI₁.scr (he₂.mono rfl)⟩
/-- outcomeOf -/
theorem lw_18 {Z : gS → List (Nat × Value) → Nat → List Value → Prop} {E : gE} {b : Nat} {xs : Nat → Int} {L : Nat} (C : LwC Z E b xs L) {S : gS} (hI : Inv S) {i : Nat} (hi : i + 5 ≤ L) (next : ∀ S₉ : gS, Inv S₉ → Z S₉ (lwL E b i) 760 []) : Z S (lwL E b i) 616 [] := by
  obtain ⟨hZ, hld, hln, hG, hxs, hL⟩ := C
  obtain ⟨w, h, n, hs, kp, tx, hI⟩ := hI
  obtain ⟨a1, a2, a3, a4, a5, a6, a7, a8, a9, a10, a11, a12, a13, a14⟩ := id hI
  refine g_aload_n hZ dL_law_616 rfl ?_
  refine g_aload_n hZ dL_law_617 rfl ?_
  refine g_iload_n hZ dL_law_618 rfl ?_
  refine g_iconst hZ dL_law_619 ?_
  refine g_iadd hZ dL_law_620 ?_
  refine hld _ _ _ _ _ (i + 1) (by omega) (by omega) dL_law_621 ?_
  refine g_callV hZ (t_X8_outcomeOf E S w h n a1 (S 61) a3 a4 a5 (xs (i + 1)) (hxs _)) kL_90 ⟨by decide, by decide⟩ rfl rfl rfl rfl (Nat.le_of_ble_eq_true rfl) dL_law_622 ?_
  rintro _ S₁ ⟨he₁, rfl⟩
  have hI₁ := hI.scr (he₁.mono rfl)
  obtain ⟨b1, b2, b3, b4, b5, b6, b7, b8, b9, b10, b11, b12, b13, b14⟩ := id hI₁
  have e61 : S₁ 61 = S 61 := funext fun j => he₁ 61 j rfl
  refine g_aload_n hZ dL_law_625 rfl ?_
  refine g_aload_n hZ dL_law_626 rfl ?_
  refine g_iload_n hZ dL_law_627 rfl ?_
  refine g_iconst hZ dL_law_628 ?_
  refine g_iadd hZ dL_law_629 ?_
  refine hld _ _ _ _ _ (i + 1) (by omega) (by omega) dL_law_630 ?_
  refine g_callV hZ (t_X9_outcomeOf E S₁ w h n b2 b4 b5 (xs (i + 1)) (hxs _)) kL_93 ⟨by decide, by decide⟩ rfl rfl rfl rfl (Nat.le_of_ble_eq_true rfl) dL_law_631 ?_
  rintro _ S₂ ⟨he₂, rfl⟩
  rw [e61]
  refine g_same hZ 760 dL_law_634 rfl ?_
  exact next _ ⟨w, h, n, hs, kp, tx, hI₁.scr (he₂.mono rfl)⟩
/-- bestMove -/
theorem lw_19 {Z : gS → List (Nat × Value) → Nat → List Value → Prop} {E : gE} {b : Nat} {xs : Nat → Int} {L : Nat} (C : LwC Z E b xs L) {S : gS} (hI : Inv S) {i : Nat} (hi : i + 5 ≤ L) (next : ∀ S₉ : gS, Inv S₉ → Z S₉ (lwL E b i) 760 []) : Z S (lwL E b i) 639 [] := by
  obtain ⟨hZ, hld, hln, hG, hxs, hL⟩ := C
  obtain ⟨w, h, n, hs, kp, tx, hI⟩ := hI
  obtain ⟨a1, a2, a3, a4, a5, a6, a7, a8, a9, a10, a11, a12, a13, a14⟩ := id hI
  refine g_aload_n hZ dL_law_639 rfl ?_
  refine g_aload_n hZ dL_law_640 rfl ?_
  refine g_iload_n hZ dL_law_641 rfl ?_
  refine g_iconst hZ dL_law_642 ?_
  refine g_iadd hZ dL_law_643 ?_
  refine hld _ _ _ _ _ (i + 1) (by omega) (by omega) dL_law_644 ?_
  refine g_callV hZ (t_X8_bestMove E S w h n a1 (S 61) a3 a4 a5 (xs (i + 1)) (hxs _)) kL_94 ⟨by decide, by decide⟩ rfl rfl rfl rfl (Nat.le_of_ble_eq_true rfl) dL_law_645 ?_
  rintro _ S₁ ⟨he₁, rfl⟩
  have hI₁ := hI.scr (he₁.mono rfl)
  obtain ⟨b1, b2, b3, b4, b5, b6, b7, b8, b9, b10, b11, b12, b13, b14⟩ := id hI₁
  have e61 : S₁ 61 = S 61 := funext fun j => he₁ 61 j rfl
  refine g_aload_n hZ dL_law_648 rfl ?_
  refine g_aload_n hZ dL_law_649 rfl ?_
  refine g_iload_n hZ dL_law_650 rfl ?_
  refine g_iconst hZ dL_law_651 ?_
  refine g_iadd hZ dL_law_652 ?_
  refine hld _ _ _ _ _ (i + 1) (by omega) (by omega) dL_law_653 ?_
  refine g_callV hZ (t_X9_bestMove E S₁ w h n b2 b4 b5 (xs (i + 1)) (hxs _)) kL_97 ⟨by decide, by decide⟩ rfl rfl rfl rfl (Nat.le_of_ble_eq_true rfl) dL_law_654 ?_
  rintro _ S₂ ⟨he₂, rfl⟩
  rw [e61]
  refine g_same hZ 760 dL_law_657 rfl ?_
  exact next _ ⟨w, h, n, hs, kp, tx, hI₁.scr (he₂.mono rfl)⟩
/-- length -/
theorem lw_20 {Z : gS → List (Nat × Value) → Nat → List Value → Prop} {E : gE} {b : Nat} {xs : Nat → Int} {L : Nat} (C : LwC Z E b xs L) {S : gS} (hI : Inv S) {i : Nat} (hi : i + 5 ≤ L) (next : ∀ S₉ : gS, Inv S₉ → Z S₉ (lwL E b i) 760 []) : Z S (lwL E b i) 662 [] := by
  obtain ⟨hZ, hld, hln, hG, hxs, hL⟩ := C
  obtain ⟨w, h, n, hs, kp, tx, hI⟩ := hI
  obtain ⟨a1, a2, a3, a4, a5, a6, a7, a8, a9, a10, a11, a12, a13, a14⟩ := id hI
  refine g_aload_n hZ dL_law_662 rfl ?_
  refine g_aload_n hZ dL_law_663 rfl ?_
  refine g_iload_n hZ dL_law_664 rfl ?_
  refine g_iconst hZ dL_law_665 ?_
  refine g_iadd hZ dL_law_666 ?_
  refine hld _ _ _ _ _ (i + 1) (by omega) (by omega) dL_law_667 ?_
  refine g_callV hZ (t_X8_length E S w h n a1 (S 61) a3 a4 a5 (xs (i + 1)) (hxs _)) kL_98 ⟨by decide, by decide⟩ rfl rfl rfl rfl (Nat.le_of_ble_eq_true rfl) dL_law_668 ?_
  rintro _ S₁ ⟨he₁, rfl⟩
  have hI₁ := hI.scr (he₁.mono rfl)
  obtain ⟨b1, b2, b3, b4, b5, b6, b7, b8, b9, b10, b11, b12, b13, b14⟩ := id hI₁
  have e61 : S₁ 61 = S 61 := funext fun j => he₁ 61 j rfl
  refine g_aload_n hZ dL_law_671 rfl ?_
  refine g_aload_n hZ dL_law_672 rfl ?_
  refine g_iload_n hZ dL_law_673 rfl ?_
  refine g_iconst hZ dL_law_674 ?_
  refine g_iadd hZ dL_law_675 ?_
  refine hld _ _ _ _ _ (i + 1) (by omega) (by omega) dL_law_676 ?_
  refine g_callV hZ (t_X9_length E S₁ w h n b2 b4 b5 (xs (i + 1)) (hxs _)) kL_101 ⟨by decide, by decide⟩ rfl rfl rfl rfl (Nat.le_of_ble_eq_true rfl) dL_law_677 ?_
  rintro _ S₂ ⟨he₂, rfl⟩
  rw [e61]
  refine g_same hZ 760 dL_law_680 rfl ?_
  exact next _ ⟨w, h, n, hs, kp, tx, hI₁.scr (he₂.mono rfl)⟩
/-- zugzwangs -/
theorem lw_21 {Z : gS → List (Nat × Value) → Nat → List Value → Prop} {E : gE} {b : Nat} {xs : Nat → Int} {L : Nat} (C : LwC Z E b xs L) {S : gS} (hI : Inv S) {i : Nat} (hi : i + 5 ≤ L) (next : ∀ S₉ : gS, Inv S₉ → Z S₉ (lwL E b i) 760 []) : Z S (lwL E b i) 685 [] := by
  obtain ⟨hZ, hld, hln, hG, hxs, hL⟩ := C
  obtain ⟨w, h, n, hs, kp, tx, hI⟩ := hI
  obtain ⟨a1, a2, a3, a4, a5, a6, a7, a8, a9, a10, a11, a12, a13, a14⟩ := id hI
  refine g_aload_n hZ dL_law_685 rfl ?_
  refine g_callV hZ (t_X8_zugzwangs E S w h n a1 (S 61) a3 a4 a5  ) kL_102 ⟨by decide, by decide⟩ rfl rfl rfl rfl (Nat.le_of_ble_eq_true rfl) dL_law_686 ?_
  rintro _ S₁ ⟨he₁, rfl⟩
  have hI₁ := hI.scr (he₁.mono rfl)
  obtain ⟨b1, b2, b3, b4, b5, b6, b7, b8, b9, b10, b11, b12, b13, b14⟩ := id hI₁
  have e61 : S₁ 61 = S 61 := funext fun j => he₁ 61 j rfl
  refine g_aload_n hZ dL_law_689 rfl ?_
  refine g_callV hZ (t_X9_zugzwangs E S₁ w h n b2 b4 b5  ) kL_105 ⟨by decide, by decide⟩ rfl rfl rfl rfl (Nat.le_of_ble_eq_true rfl) dL_law_690 ?_
  rintro _ S₂ ⟨he₂, rfl⟩
  rw [e61]
  refine g_same hZ 760 dL_law_693 rfl ?_
  exact next _ ⟨w, h, n, hs, kp, tx, hI₁.scr (he₂.mono rfl)⟩
/-- fault -/
theorem lw_24 {Z : gS → List (Nat × Value) → Nat → List Value → Prop} {E : gE} {b : Nat} {xs : Nat → Int} {L : Nat} (C : LwC Z E b xs L) {S : gS} (hI : Inv S) {i : Nat} (hi : i + 5 ≤ L) (next : ∀ S₉ : gS, Inv S₉ → Z S₉ (lwL E b i) 760 []) : Z S (lwL E b i) 734 [] := by
  obtain ⟨hZ, hld, hln, hG, hxs, hL⟩ := C
  obtain ⟨w, h, n, hs, kp, tx, hI⟩ := hI
  obtain ⟨a1, a2, a3, a4, a5, a6, a7, a8, a9, a10, a11, a12, a13, a14⟩ := id hI
  refine g_aload_n hZ dL_law_734 rfl ?_
  refine g_callV hZ (t_X8_fault E hG S tx a13  ) kL_114 ⟨by decide, by decide⟩ rfl rfl rfl rfl (Nat.le_of_ble_eq_true rfl) dL_law_735 ?_
  rintro _ S₁ ⟨he₁, rfl⟩
  have hI₁ := hI.scr (he₁.mono rfl)
  obtain ⟨b1, b2, b3, b4, b5, b6, b7, b8, b9, b10, b11, b12, b13, b14⟩ := id hI₁
  refine g_aload_n hZ dL_law_738 rfl ?_
  refine g_callV hZ (t_X9_fault E S₁ tx b14  ) kL_117 ⟨by decide, by decide⟩ rfl rfl rfl rfl (Nat.le_of_ble_eq_true rfl) dL_law_739 ?_
  rintro _ S₂ ⟨he₂, rfl⟩
  refine g_same hZ 760 dL_law_742 rfl ?_
  exact next _ ⟨w, h, n, hs, kp, tx, hI₁.scr (he₂.mono rfl)⟩
