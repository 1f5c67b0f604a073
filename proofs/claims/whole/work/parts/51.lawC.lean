/-! the law: the calls that change something -/
/-- reset -/
theorem lw_0 {Z : gS → List (Nat × Value) → Nat → List Value → Prop} {E : gE} {b : Nat} {xs : Nat → Int} {L : Nat} (C : LwC Z E b xs L) {S : gS} (hI : Inv S) {i : Nat} (hi : i + 5 ≤ L) (next : ∀ S₉ : gS, Inv S₉ → Z S₉ (lwL E b i) 760 []) : Z S (lwL E b i) 152 [] := by
  obtain ⟨hZ, hld, hln, hG, hxs, hL⟩ := C
  obtain ⟨w, h, n, hs, kp, tx, hI⟩ := hI
  obtain ⟨a1, a2, a3, a4, a5, a6, a7, a8, a9, a10, a11, a12, a13, a14⟩ := id hI
  refine g_aload_n hZ dL_law_152 rfl ?_
  refine g_aload_n hZ dL_law_153 rfl ?_
  refine g_iload_n hZ dL_law_154 rfl ?_
  refine g_iconst hZ dL_law_155 ?_
  refine g_iadd hZ dL_law_156 ?_
  refine hld _ _ _ _ _ (i + 1) (by omega) (by omega) dL_law_157 ?_
  refine g_aload_n hZ dL_law_158 rfl ?_
  refine g_iload_n hZ dL_law_159 rfl ?_
  refine g_iconst hZ dL_law_160 ?_
  refine g_iadd hZ dL_law_161 ?_
  refine hld _ _ _ _ _ (i + 2) (by omega) (by omega) dL_law_162 ?_
  refine g_callV hZ (t_X8_reset E S w h n a1 (S 61) a3 hs a6 (xs (i + 1)) (xs (i + 2)) (hxs _) (hxs _)) kL_13 ⟨by decide, by decide⟩ rfl rfl rfl rfl (Nat.le_of_ble_eq_true rfl) dL_law_163 ?_
  rintro _ S₁ ⟨rfl, p1, p2⟩
  by_cases q : aReset w h (xs (i + 1)) (xs (i + 2)) < 0
  · have e := p1 q
    subst e
    refine g_aload_n hZ dL_law_166 rfl ?_
    refine g_aload_n hZ dL_law_167 rfl ?_
    refine g_iload_n hZ dL_law_168 rfl ?_
    refine g_iconst hZ dL_law_169 ?_
    refine g_iadd hZ dL_law_170 ?_
    refine hld _ _ _ _ _ (i + 1) (by omega) (by omega) dL_law_171 ?_
    refine g_aload_n hZ dL_law_172 rfl ?_
    refine g_iload_n hZ dL_law_173 rfl ?_
    refine g_iconst hZ dL_law_174 ?_
    refine g_iadd hZ dL_law_175 ?_
    refine hld _ _ _ _ _ (i + 2) (by omega) (by omega) dL_law_176 ?_
    refine g_callV hZ (t_X9_reset E S w h n a2 hs a7 (xs (i + 1)) (xs (i + 2)) (hxs _) (hxs _)) kL_17 ⟨by decide, by decide⟩ rfl rfl rfl rfl (Nat.le_of_ble_eq_true rfl) dL_law_177 ?_
    rintro _ S₂ ⟨rfl, m1, -⟩
    have e := m1 q
    subst e
    refine g_same hZ 760 dL_law_180 rfl ?_
    exact next _ ⟨w, h, n, hs, kp, tx, hI⟩
  · obtain ⟨he₁, g₁, x₁, k₁, h₁⟩ := p2 (by omega)
    have e61 : S₁ 61 = S 61 := funext fun j => he₁ 61 j rfl
    refine g_aload_n hZ dL_law_166 rfl ?_
    refine g_aload_n hZ dL_law_167 rfl ?_
    refine g_iload_n hZ dL_law_168 rfl ?_
    refine g_iconst hZ dL_law_169 ?_
    refine g_iadd hZ dL_law_170 ?_
    refine hld _ _ _ _ _ (i + 1) (by omega) (by omega) dL_law_171 ?_
    refine g_aload_n hZ dL_law_172 rfl ?_
    refine g_iload_n hZ dL_law_173 rfl ?_
    refine g_iconst hZ dL_law_174 ?_
    refine g_iadd hZ dL_law_175 ?_
    refine hld _ _ _ _ _ (i + 2) (by omega) (by omega) dL_law_176 ?_
    refine g_callV hZ (t_X9_reset E S₁ w h n (a2.x he₁ rfl rfl) hs (a7.x he₁ rfl rfl) (xs (i + 1)) (xs (i + 2)) (hxs _) (hxs _)) kL_17 ⟨by decide, by decide⟩ rfl rfl rfl rfl (Nat.le_of_ble_eq_true rfl) dL_law_177 ?_
    rintro _ S₂ ⟨rfl, -, m2⟩
    obtain ⟨he₂, m50, m51, m53, m61, mh, hO⟩ := m2 (by omega)
    rw [e61] at m61 mh
    refine g_same hZ 760 dL_law_180 rfl ?_
    have hW : 1 ≤ xs (i + 1) ∧ 1 ≤ xs (i + 2) := by
      apply Classical.byContradiction
      intro z
      exact q (by unfold aReset; rw [if_neg (fun y => z ⟨y.1, y.2.2.1⟩)]; omega)
    generalize xs (i + 1) = W9 at *
    generalize xs (i + 2) = H9 at *
    have hn9 := hO.2.2.2.2.2
    have b0 : ∀ k, k < W9.toNat * H9.toNat → S₂ 61 k = 0 := fun k hk => by rw [m61]; show (if k < 15 then (0 : Int) else _) = 0; rw [if_pos (by omega)]
    refine next _ ⟨W9.toNat, H9.toNat, W9.toNat * H9.toNat, hpush hs (w, h, S 61), [], tx, g₁.x he₂ rfl, ⟨by rw [m50]; omega, by rw [m51]; omega, hO⟩, ?_, fun k hk => by rw [b0 k hk]; omega, ⟨?_, ?_⟩, h₁.x he₂ rfl rfl rfl rfl, mh, a8.push a1.o a4 a5, k₁.x he₂ rfl rfl rfl, ⟨by rw [m53]; rfl, by simp, fun i e he => by simp at he, fun e he => by simp at he⟩, fun e he => by simp at he, ?_, (a13.x he₁ rfl rfl).x he₂ rfl rfl, (a14.x he₁ rfl rfl).x he₂ rfl rfl⟩
    · rw [m61]; exact x₁.x he₂ rfl
    · rw [cntZ_none (fun k hk => by rw [b0 k hk]; omega)]; omega
    · rw [cntZ_none (fun k hk => by rw [b0 k hk]; omega)]; omega
    · rw [he₂ 33 0 rfl, he₂ 54 0 rfl, he₁ 33 0 rfl, he₁ 54 0 rfl]; exact a12
/-- setField -/
theorem lw_1 {Z : gS → List (Nat × Value) → Nat → List Value → Prop} {E : gE} {b : Nat} {xs : Nat → Int} {L : Nat} (C : LwC Z E b xs L) {S : gS} (hI : Inv S) {i : Nat} (hi : i + 5 ≤ L) (next : ∀ S₉ : gS, Inv S₉ → Z S₉ (lwL E b i) 760 []) : Z S (lwL E b i) 185 [] := by
  obtain ⟨hZ, hld, hln, hG, hxs, hL⟩ := C
  obtain ⟨w, h, n, hs, kp, tx, hI⟩ := hI
  obtain ⟨a1, a2, a3, a4, a5, a6, a7, a8, a9, a10, a11, a12, a13, a14⟩ := id hI
  refine g_aload_n hZ dL_law_185 rfl ?_
  refine g_aload_n hZ dL_law_186 rfl ?_
  refine g_iload_n hZ dL_law_187 rfl ?_
  refine g_iconst hZ dL_law_188 ?_
  refine g_iadd hZ dL_law_189 ?_
  refine hld _ _ _ _ _ (i + 1) (by omega) (by omega) dL_law_190 ?_
  refine g_aload_n hZ dL_law_191 rfl ?_
  refine g_iload_n hZ dL_law_192 rfl ?_
  refine g_iconst hZ dL_law_193 ?_
  refine g_iadd hZ dL_law_194 ?_
  refine hld _ _ _ _ _ (i + 2) (by omega) (by omega) dL_law_195 ?_
  refine g_callV hZ (t_X8_setField E S w h n a1 (S 61) a3 a4 a5 hs a6 (xs (i + 1)) (xs (i + 2)) (hxs _) (hxs _)) kL_18 ⟨by decide, by decide⟩ rfl rfl rfl rfl (Nat.le_of_ble_eq_true rfl) dL_law_196 ?_
  rintro _ S₁ ⟨rfl, p1, p2⟩
  by_cases q : aSet n (S 61) (xs (i + 1)) (xs (i + 2)) < 0
  · have e := p1 q
    subst e
    refine g_aload_n hZ dL_law_199 rfl ?_
    refine g_aload_n hZ dL_law_200 rfl ?_
    refine g_iload_n hZ dL_law_201 rfl ?_
    refine g_iconst hZ dL_law_202 ?_
    refine g_iadd hZ dL_law_203 ?_
    refine hld _ _ _ _ _ (i + 1) (by omega) (by omega) dL_law_204 ?_
    refine g_aload_n hZ dL_law_205 rfl ?_
    refine g_iload_n hZ dL_law_206 rfl ?_
    refine g_iconst hZ dL_law_207 ?_
    refine g_iadd hZ dL_law_208 ?_
    refine hld _ _ _ _ _ (i + 2) (by omega) (by omega) dL_law_209 ?_
    refine g_callV hZ (t_X9_setField E S w h n a2 a4 hs a7 (xs (i + 1)) (xs (i + 2)) (hxs _) (hxs _)) kL_21 ⟨by decide, by decide⟩ rfl rfl rfl rfl (Nat.le_of_ble_eq_true rfl) dL_law_210 ?_
    rintro _ S₂ ⟨rfl, m1, -⟩
    have e := m1 q
    subst e
    refine g_same hZ 760 dL_law_213 rfl ?_
    exact next _ ⟨w, h, n, hs, kp, tx, hI⟩
  · obtain ⟨he₁, x₁, h₁⟩ := p2 (by omega)
    obtain ⟨-, o1, o2⟩ := aSet_ok a4 a5 q
    have e61 : S₁ 61 = S 61 := funext fun j => he₁ 61 j rfl
    refine g_aload_n hZ dL_law_199 rfl ?_
    refine g_aload_n hZ dL_law_200 rfl ?_
    refine g_iload_n hZ dL_law_201 rfl ?_
    refine g_iconst hZ dL_law_202 ?_
    refine g_iadd hZ dL_law_203 ?_
    refine hld _ _ _ _ _ (i + 1) (by omega) (by omega) dL_law_204 ?_
    refine g_aload_n hZ dL_law_205 rfl ?_
    refine g_iload_n hZ dL_law_206 rfl ?_
    refine g_iconst hZ dL_law_207 ?_
    refine g_iadd hZ dL_law_208 ?_
    refine hld _ _ _ _ _ (i + 2) (by omega) (by omega) dL_law_209 ?_
    refine g_callV hZ (t_X9_setField E S₁ w h n (a2.x he₁ rfl rfl) (by rw [e61]; exact a4) hs (a7.x he₁ rfl rfl) (xs (i + 1)) (xs (i + 2)) (hxs _) (hxs _)) kL_21 ⟨by decide, by decide⟩ rfl rfl rfl rfl (Nat.le_of_ble_eq_true rfl) dL_law_210 ?_
    rintro _ S₂ ⟨rfl, -, m2⟩
    rw [e61] at m2 ⊢
    obtain ⟨he₂, m61, mh⟩ := m2 (by omega)
    refine g_same hZ 760 dL_law_213 rfl ?_
    exact next _ ⟨w, h, n, _, kp, tx, hI.bd ((he₁.mono rfl).tr (he₂.mono rfl)) (by rw [m61]; exact x₁.x he₂ rfl) (by rw [m61]; exact o1) (by rw [m61]; exact o2) (h₁.x he₂ rfl rfl rfl rfl) mh (a8.push a1.o a4 a5)⟩
/-- move -/
theorem lw_6 {Z : gS → List (Nat × Value) → Nat → List Value → Prop} {E : gE} {b : Nat} {xs : Nat → Int} {L : Nat} (C : LwC Z E b xs L) {S : gS} (hI : Inv S) {i : Nat} (hi : i + 5 ≤ L) (next : ∀ S₉ : gS, Inv S₉ → Z S₉ (lwL E b i) 760 []) : Z S (lwL E b i) 310 [] := by
  obtain ⟨hZ, hld, hln, hG, hxs, hL⟩ := C
  obtain ⟨w, h, n, hs, kp, tx, hI⟩ := hI
  obtain ⟨a1, a2, a3, a4, a5, a6, a7, a8, a9, a10, a11, a12, a13, a14⟩ := id hI
  refine g_aload_n hZ dL_law_310 rfl ?_
  refine g_aload_n hZ dL_law_311 rfl ?_
  refine g_iload_n hZ dL_law_312 rfl ?_
  refine g_iconst hZ dL_law_313 ?_
  refine g_iadd hZ dL_law_314 ?_
  refine hld _ _ _ _ _ (i + 1) (by omega) (by omega) dL_law_315 ?_
  refine g_aload_n hZ dL_law_316 rfl ?_
  refine g_iload_n hZ dL_law_317 rfl ?_
  refine g_iconst hZ dL_law_318 ?_
  refine g_iadd hZ dL_law_319 ?_
  refine hld _ _ _ _ _ (i + 2) (by omega) (by omega) dL_law_320 ?_
  refine g_aload_n hZ dL_law_321 rfl ?_
  refine g_iload_n hZ dL_law_322 rfl ?_
  refine g_iconst hZ dL_law_323 ?_
  refine g_iadd hZ dL_law_324 ?_
  refine hld _ _ _ _ _ (i + 3) (by omega) (by omega) dL_law_325 ?_
  refine g_aload_n hZ dL_law_326 rfl ?_
  refine g_iload_n hZ dL_law_327 rfl ?_
  refine g_iconst hZ dL_law_328 ?_
  refine g_iadd hZ dL_law_329 ?_
  refine hld _ _ _ _ _ (i + 4) (by omega) (by omega) dL_law_330 ?_
  refine g_callV hZ (t_X8_move E S w h n a1 (S 61) a3 a4 a5 hs a6 (xs (i + 1)) (xs (i + 2)) (xs (i + 3)) (xs (i + 4)) (hxs _) (hxs _) (hxs _) (hxs _)) kL_40 ⟨by decide, by decide⟩ rfl rfl rfl rfl (Nat.le_of_ble_eq_true rfl) dL_law_331 ?_
  rintro _ S₁ ⟨rfl, p1, p2⟩
  by_cases q : aMove w n (S 61) (xs (i + 1)) (xs (i + 2)) (xs (i + 3)) (xs (i + 4)) < 0
  · have he₁ := p1 q
    have hI₁ := hI.scr (he₁.mono rfl)
    obtain ⟨b1, b2, b3, b4, b5, b6, b7, b8, b9, b10, b11, b12, b13, b14⟩ := id hI₁
    have e61 : S₁ 61 = S 61 := funext fun j => he₁ 61 j rfl
    refine g_aload_n hZ dL_law_334 rfl ?_
    refine g_aload_n hZ dL_law_335 rfl ?_
    refine g_iload_n hZ dL_law_336 rfl ?_
    refine g_iconst hZ dL_law_337 ?_
    refine g_iadd hZ dL_law_338 ?_
    refine hld _ _ _ _ _ (i + 1) (by omega) (by omega) dL_law_339 ?_
    refine g_aload_n hZ dL_law_340 rfl ?_
    refine g_iload_n hZ dL_law_341 rfl ?_
    refine g_iconst hZ dL_law_342 ?_
    refine g_iadd hZ dL_law_343 ?_
    refine hld _ _ _ _ _ (i + 2) (by omega) (by omega) dL_law_344 ?_
    refine g_aload_n hZ dL_law_345 rfl ?_
    refine g_iload_n hZ dL_law_346 rfl ?_
    refine g_iconst hZ dL_law_347 ?_
    refine g_iadd hZ dL_law_348 ?_
    refine hld _ _ _ _ _ (i + 3) (by omega) (by omega) dL_law_349 ?_
    refine g_aload_n hZ dL_law_350 rfl ?_
    refine g_iload_n hZ dL_law_351 rfl ?_
    refine g_iconst hZ dL_law_352 ?_
    refine g_iadd hZ dL_law_353 ?_
    refine hld _ _ _ _ _ (i + 4) (by omega) (by omega) dL_law_354 ?_
    refine g_callV hZ (t_X9_move E S₁ w h n b2 b4 b5 hs b7 (xs (i + 1)) (xs (i + 2)) (xs (i + 3)) (xs (i + 4)) (hxs _) (hxs _) (hxs _) (hxs _)) kL_44 ⟨by decide, by decide⟩ rfl rfl rfl rfl (Nat.le_of_ble_eq_true rfl) dL_law_355 ?_
    rintro _ S₂ ⟨rfl, m1, -⟩
    rw [e61] at m1 ⊢
    refine g_same hZ 760 dL_law_358 rfl ?_
    exact next _ ⟨w, h, n, hs, kp, tx, hI₁.scr ((m1 q).mono rfl)⟩
  · obtain ⟨he₁, x₁, h₁⟩ := p2 (by omega)
    obtain ⟨-, -, o1, o2⟩ := aMove_ok a1.o a4 a5 q
    have e61 : S₁ 61 = S 61 := funext fun j => he₁ 61 j rfl
    refine g_aload_n hZ dL_law_334 rfl ?_
    refine g_aload_n hZ dL_law_335 rfl ?_
    refine g_iload_n hZ dL_law_336 rfl ?_
    refine g_iconst hZ dL_law_337 ?_
    refine g_iadd hZ dL_law_338 ?_
    refine hld _ _ _ _ _ (i + 1) (by omega) (by omega) dL_law_339 ?_
    refine g_aload_n hZ dL_law_340 rfl ?_
    refine g_iload_n hZ dL_law_341 rfl ?_
    refine g_iconst hZ dL_law_342 ?_
    refine g_iadd hZ dL_law_343 ?_
    refine hld _ _ _ _ _ (i + 2) (by omega) (by omega) dL_law_344 ?_
    refine g_aload_n hZ dL_law_345 rfl ?_
    refine g_iload_n hZ dL_law_346 rfl ?_
    refine g_iconst hZ dL_law_347 ?_
    refine g_iadd hZ dL_law_348 ?_
    refine hld _ _ _ _ _ (i + 3) (by omega) (by omega) dL_law_349 ?_
    refine g_aload_n hZ dL_law_350 rfl ?_
    refine g_iload_n hZ dL_law_351 rfl ?_
    refine g_iconst hZ dL_law_352 ?_
    refine g_iadd hZ dL_law_353 ?_
    refine hld _ _ _ _ _ (i + 4) (by omega) (by omega) dL_law_354 ?_
    refine g_callV hZ (t_X9_move E S₁ w h n (a2.x he₁ rfl rfl) (by rw [e61]; exact a4) (by rw [e61]; exact a5) hs (a7.x he₁ rfl rfl) (xs (i + 1)) (xs (i + 2)) (xs (i + 3)) (xs (i + 4)) (hxs _) (hxs _) (hxs _) (hxs _)) kL_44 ⟨by decide, by decide⟩ rfl rfl rfl rfl (Nat.le_of_ble_eq_true rfl) dL_law_355 ?_
    rintro _ S₂ ⟨rfl, -, m2⟩
    rw [e61] at m2 ⊢
    obtain ⟨he₂, m61, mh⟩ := m2 (by omega)
    refine g_same hZ 760 dL_law_358 rfl ?_
    exact next _ ⟨w, h, n, _, kp, tx, hI.bd ((he₁.mono rfl).tr (he₂.mono rfl)) (by rw [m61]; exact x₁.x he₂ rfl) (by rw [m61]; exact o1) (by rw [m61]; exact o2) (h₁.x he₂ rfl rfl rfl rfl) mh (a8.push a1.o a4 a5)⟩
/-- undo -/
theorem lw_5 {Z : gS → List (Nat × Value) → Nat → List Value → Prop} {E : gE} {b : Nat} {xs : Nat → Int} {L : Nat} (C : LwC Z E b xs L) {S : gS} (hI : Inv S) {i : Nat} (hi : i + 5 ≤ L) (next : ∀ S₉ : gS, Inv S₉ → Z S₉ (lwL E b i) 760 []) : Z S (lwL E b i) 297 [] := by
  obtain ⟨hZ, hld, hln, hG, hxs, hL⟩ := C
  obtain ⟨w, h, n, hs, kp, tx, hI⟩ := hI
  obtain ⟨a1, a2, a3, a4, a5, a6, a7, a8, a9, a10, a11, a12, a13, a14⟩ := id hI
  have hk53 : R32 (S 53 0) := by rw [a10.1]; have := a10.2.1; omega
  refine g_aload_n hZ dL_law_297 rfl ?_
  refine g_callV hZ (t_X8_undo E S w h n a1 (S 61) hs a6 (fun e he => (a8 e he).1) (kX n kp) a9) kL_35 ⟨by decide, by decide⟩ rfl rfl rfl rfl (Nat.le_of_ble_eq_true rfl) dL_law_298 ?_
  rintro _ S₁ (⟨hs0, rfl, rfl⟩ | ⟨gs, e, hge, rfl, he₁, g₁, x₁, k₁, h₁⟩)
  · refine g_aload_n hZ dL_law_301 rfl ?_
    refine g_callV hZ (t_X9_undo E S w h n a2 hs a7 (fun e he => ⟨(a8 e he).1.2.1, (a8 e he).1.2.2.2.1⟩) hk53) kL_39 ⟨by decide, by decide⟩ rfl rfl rfl rfl (Nat.le_of_ble_eq_true rfl) dL_law_302 ?_
    rintro _ S₂ (⟨-, rfl, rfl⟩ | ⟨gs, e, hge, -⟩)
    · refine g_same hZ 760 dL_law_305 rfl ?_
      exact next _ ⟨w, h, n, hs, kp, tx, hI⟩
    · rw [hs0] at hge; simp at hge
  · have e61 : S₁ 61 = S 61 := funext fun j => he₁ 61 j rfl
    refine g_aload_n hZ dL_law_301 rfl ?_
    refine g_callV hZ (t_X9_undo E S₁ w h n (a2.x he₁ rfl rfl) hs (a7.x he₁ rfl rfl) (fun e he => ⟨(a8 e he).1.2.1, (a8 e he).1.2.2.2.1⟩) (by rw [he₁ 53 0 rfl]; exact hk53)) kL_39 ⟨by decide, by decide⟩ rfl rfl rfl rfl (Nat.le_of_ble_eq_true rfl) dL_law_302 ?_
    rintro _ S₂ (⟨hs0, -, -⟩ | ⟨gs2, e2, hge2, rfl, he₂, m50, m51, m53, m61, mh⟩)
    · rw [hge] at hs0; simp at hs0
    · obtain ⟨eg, ee⟩ := List.append_inj' (hge.symm.trans hge2) rfl
      cases ee
      subst eg
      rw [e61] at m61
      obtain ⟨o1, o2, o3⟩ := a8 e (by rw [hge]; simp)
      have hn9 := o1.2.2.2.2.2
      have bq : ∀ k, k < e.1 * e.2.1 → S₂ 61 k = e.2.2 k := fun k hk => by rw [m61]; show (if k < 15 then e.2.2 k else _) = _; rw [if_pos (by omega)]
      have hw9 := a1.o.2.2.2.2.1
      refine g_same hZ 760 dL_law_305 rfl ?_
      refine next _ ⟨e.1, e.2.1, e.1 * e.2.1, gs, if e.1 = w ∧ e.2.1 = h then kp else [], tx, g₁.x he₂ rfl, ⟨m50, m51, o1⟩, ?_, fun k hk => by rw [bq k hk]; exact o2 k hk, ⟨?_, ?_⟩, h₁.x he₂ rfl rfl rfl rfl, mh, fun y hy => a8 y (by rw [hge]; exact List.mem_append_left _ hy), ?_, ?_, ?_, ?_, (a13.x he₁ rfl rfl).x he₂ rfl rfl, (a14.x he₁ rfl rfl).x he₂ rfl rfl⟩
      · rw [m61]; exact x₁.x he₂ rfl
      · rw [cntZ_cong bq]; exact o3.1
      · rw [cntZ_cong bq]; exact o3.2
      · have k₂ := k₁.x he₂ rfl rfl rfl
        by_cases q : e.1 = w ∧ e.2.1 = h
        · rw [if_pos q] at k₂ ⊢
          rw [show e.1 * e.2.1 = n by rw [q.1, q.2]; exact hw9]
          exact k₂
        · rw [if_neg q] at k₂ ⊢
          exact k₂
      · by_cases q : e.1 = w ∧ e.2.1 = h
        · rw [if_pos q] at m53 ⊢
          obtain ⟨c1, c2, c3, c4⟩ := a10
          exact ⟨by rw [m53, he₁ 53 0 rfl]; exact c1, c2, fun j y hj => ⟨by rw [he₂ 64 j rfl, he₁ 64 j rfl]; exact (c3 j y hj).1, by rw [he₂ 65 j rfl, he₁ 65 j rfl]; exact (c3 j y hj).2⟩, c4⟩
        · rw [if_neg q] at m53 ⊢
          exact ⟨by rw [m53]; rfl, by simp, fun i e he => by simp at he, fun e he => by simp at he⟩
      · by_cases q : e.1 = w ∧ e.2.1 = h
        · rw [if_pos q, show e.1 * e.2.1 = n by rw [q.1, q.2]; exact hw9]; exact a11
        · rw [if_neg q]; intro y hy; simp at hy
      · rw [he₂ 33 0 rfl, he₂ 54 0 rfl, he₁ 33 0 rfl, he₁ 54 0 rfl]; exact a12
/-- value -/
theorem lw_12 {Z : gS → List (Nat × Value) → Nat → List Value → Prop} {E : gE} {b : Nat} {xs : Nat → Int} {L : Nat} (C : LwC Z E b xs L) {S : gS} (hI : Inv S) {i : Nat} (hi : i + 5 ≤ L) (next : ∀ S₉ : gS, Inv S₉ → Z S₉ (lwL E b i) 760 []) : Z S (lwL E b i) 498 [] := by
  obtain ⟨hZ, hld, hln, hG, hxs, hL⟩ := C
  obtain ⟨w, h, n, hs, kp, tx, hI⟩ := hI
  obtain ⟨a1, a2, a3, a4, a5, a6, a7, a8, a9, a10, a11, a12, a13, a14⟩ := id hI
  refine g_aload_n hZ dL_law_498 rfl ?_
  refine g_aload_n hZ dL_law_499 rfl ?_
  refine g_iload_n hZ dL_law_500 rfl ?_
  refine g_iconst hZ dL_law_501 ?_
  refine g_iadd hZ dL_law_502 ?_
  refine hld _ _ _ _ _ (i + 1) (by omega) (by omega) dL_law_503 ?_
  refine g_callV hZ (t_X8_value E S w h n a1 (S 61) a3 a4 a5 kp a9 a11 (xs (i + 1)) (hxs _)) kL_66 ⟨by decide, by decide⟩ rfl rfl rfl rfl (Nat.le_of_ble_eq_true rfl) dL_law_504 ?_
  rintro _ S₁ ⟨he₁, rfl, k₁, kc₁, h33⟩
  have e61 : S₁ 61 = S 61 := funext fun j => he₁ 61 j rfl
  refine g_aload_n hZ dL_law_507 rfl ?_
  refine g_aload_n hZ dL_law_508 rfl ?_
  refine g_iload_n hZ dL_law_509 rfl ?_
  refine g_iconst hZ dL_law_510 ?_
  refine g_iadd hZ dL_law_511 ?_
  refine hld _ _ _ _ _ (i + 1) (by omega) (by omega) dL_law_512 ?_
  refine g_callV hZ (t_X9_value E S₁ w h n (a2.x he₁ rfl rfl) (by rw [e61]; exact a4) (by rw [e61]; exact a5) kp (a10.x he₁ rfl rfl rfl) (xs (i + 1)) (hxs _)) kL_69 ⟨by decide, by decide⟩ rfl rfl rfl rfl (Nat.le_of_ble_eq_true rfl) dL_law_513 ?_
  rintro _ S₂ ⟨he₂, rfl, k₂, h54⟩
  rw [e61] at k₂ h54 ⊢
  refine g_same hZ 760 dL_law_516 rfl ?_
  exact next _ ⟨w, h, n, hs, _, tx, hI.kp ((he₁.mono rfl).tr (he₂.mono rfl)) (k₁.x he₂ rfl rfl rfl) k₂ kc₁ (by rw [he₂ 33 0 rfl, h33, h54, he₁ 54 0 rfl, a12])⟩
/-- lead -/
theorem lw_13 {Z : gS → List (Nat × Value) → Nat → List Value → Prop} {E : gE} {b : Nat} {xs : Nat → Int} {L : Nat} (C : LwC Z E b xs L) {S : gS} (hI : Inv S) {i : Nat} (hi : i + 5 ≤ L) (next : ∀ S₉ : gS, Inv S₉ → Z S₉ (lwL E b i) 760 []) : Z S (lwL E b i) 521 [] := by
  obtain ⟨hZ, hld, hln, hG, hxs, hL⟩ := C
  obtain ⟨w, h, n, hs, kp, tx, hI⟩ := hI
  obtain ⟨a1, a2, a3, a4, a5, a6, a7, a8, a9, a10, a11, a12, a13, a14⟩ := id hI
  refine g_aload_n hZ dL_law_521 rfl ?_
  refine g_callV hZ (t_X8_lead E S w h n a1 (S 61) a3 a4 a5 kp a9 a11) kL_70 ⟨by decide, by decide⟩ rfl rfl rfl rfl (Nat.le_of_ble_eq_true rfl) dL_law_522 ?_
  rintro _ S₁ ⟨he₁, rfl, k₁, kc₁, h33⟩
  have e61 : S₁ 61 = S 61 := funext fun j => he₁ 61 j rfl
  refine g_aload_n hZ dL_law_525 rfl ?_
  refine g_callV hZ (t_X9_lead E S₁ w h n (a2.x he₁ rfl rfl) (by rw [e61]; exact a4) (by rw [e61]; exact a5) kp (a10.x he₁ rfl rfl rfl)) kL_73 ⟨by decide, by decide⟩ rfl rfl rfl rfl (Nat.le_of_ble_eq_true rfl) dL_law_526 ?_
  rintro _ S₂ ⟨he₂, rfl, k₂, h54⟩
  rw [e61] at k₂ h54 ⊢
  refine g_same hZ 760 dL_law_529 rfl ?_
  exact next _ ⟨w, h, n, hs, _, tx, hI.kp ((he₁.mono rfl).tr (he₂.mono rfl)) (k₁.x he₂ rfl rfl rfl) k₂ kc₁ (by rw [he₂ 33 0 rfl, h33, h54, he₁ 54 0 rfl, a12])⟩
/-- kept -/
theorem lw_14 {Z : gS → List (Nat × Value) → Nat → List Value → Prop} {E : gE} {b : Nat} {xs : Nat → Int} {L : Nat} (C : LwC Z E b xs L) {S : gS} (hI : Inv S) {i : Nat} (hi : i + 5 ≤ L) (next : ∀ S₉ : gS, Inv S₉ → Z S₉ (lwL E b i) 760 []) : Z S (lwL E b i) 534 [] := by
  obtain ⟨hZ, hld, hln, hG, hxs, hL⟩ := C
  obtain ⟨w, h, n, hs, kp, tx, hI⟩ := hI
  obtain ⟨a1, a2, a3, a4, a5, a6, a7, a8, a9, a10, a11, a12, a13, a14⟩ := id hI
  refine g_aload_n hZ dL_law_534 rfl ?_
  refine g_aload_n hZ dL_law_535 rfl ?_
  refine g_iload_n hZ dL_law_536 rfl ?_
  refine g_iconst hZ dL_law_537 ?_
  refine g_iadd hZ dL_law_538 ?_
  refine hld _ _ _ _ _ (i + 1) (by omega) (by omega) dL_law_539 ?_
  refine g_callV hZ (t_X8_kept E S (xs (i + 1)) (hxs _)) kL_74 ⟨by decide, by decide⟩ rfl rfl rfl rfl (Nat.le_of_ble_eq_true rfl) dL_law_540 ?_
  rintro _ _ ⟨rfl, rfl⟩
  refine g_aload_n hZ dL_law_543 rfl ?_
  refine g_aload_n hZ dL_law_544 rfl ?_
  refine g_iload_n hZ dL_law_545 rfl ?_
  refine g_iconst hZ dL_law_546 ?_
  refine g_iadd hZ dL_law_547 ?_
  refine hld _ _ _ _ _ (i + 1) (by omega) (by omega) dL_law_548 ?_
  refine g_callV hZ (t_X9_kept E S (xs (i + 1)) (hxs _)) kL_77 ⟨by decide, by decide⟩ rfl rfl rfl rfl (Nat.le_of_ble_eq_true rfl) dL_law_549 ?_
  rintro _ _ ⟨rfl, rfl⟩
  have hq : (if 0 ≤ xs (i + 1) ∧ xs (i + 1) ≤ 1 then (if xs (i + 1) = 0 then S 53 0 else S 54 0) else -1001) = (if xs (i + 1) = 0 then S 32 0 else if xs (i + 1) = 1 then S 33 0 else -1001) := by
    have e32 : S 32 0 = S 53 0 := by rw [a9.1, a10.1]; unfold kX; rw [List.length_map]
    by_cases q0 : xs (i + 1) = 0
    · rw [if_pos (by omega), if_pos q0, if_pos q0, e32]
    · by_cases q1 : xs (i + 1) = 1
      · rw [if_pos (by omega), if_neg q0, if_neg q0, if_pos q1, a12]
      · rw [if_neg (by omega), if_neg q0, if_neg q1]
  rw [hq]
  refine g_same hZ 760 dL_law_552 rfl ?_
  exact next _ ⟨w, h, n, hs, kp, tx, hI⟩
/-- type -/
theorem lw_22 {Z : gS → List (Nat × Value) → Nat → List Value → Prop} {E : gE} {b : Nat} {xs : Nat → Int} {L : Nat} (C : LwC Z E b xs L) {S : gS} (hI : Inv S) {i : Nat} (hi : i + 5 ≤ L) (next : ∀ S₉ : gS, Inv S₉ → Z S₉ (lwL E b i) 760 []) : Z S (lwL E b i) 698 [] := by
  obtain ⟨hZ, hld, hln, hG, hxs, hL⟩ := C
  obtain ⟨w, h, n, hs, kp, tx, hI⟩ := hI
  obtain ⟨a1, a2, a3, a4, a5, a6, a7, a8, a9, a10, a11, a12, a13, a14⟩ := id hI
  refine g_aload_n hZ dL_law_698 rfl ?_
  refine g_aload_n hZ dL_law_699 rfl ?_
  refine g_iload_n hZ dL_law_700 rfl ?_
  refine g_iconst hZ dL_law_701 ?_
  refine g_iadd hZ dL_law_702 ?_
  refine hld _ _ _ _ _ (i + 1) (by omega) (by omega) dL_law_703 ?_
  refine g_callV hZ (t_X8_type E S tx a13 (xs (i + 1)) (hxs _)) kL_106 ⟨by decide, by decide⟩ rfl rfl rfl rfl (Nat.le_of_ble_eq_true rfl) dL_law_704 ?_
  rintro _ S₁ ⟨he₁, rfl, x₁⟩
  refine g_aload_n hZ dL_law_707 rfl ?_
  refine g_aload_n hZ dL_law_708 rfl ?_
  refine g_iload_n hZ dL_law_709 rfl ?_
  refine g_iconst hZ dL_law_710 ?_
  refine g_iadd hZ dL_law_711 ?_
  refine hld _ _ _ _ _ (i + 1) (by omega) (by omega) dL_law_712 ?_
  refine g_callV hZ (t_X9_type E S₁ tx (a14.x he₁ rfl rfl) (xs (i + 1)) (hxs _)) kL_109 ⟨by decide, by decide⟩ rfl rfl rfl rfl (Nat.le_of_ble_eq_true rfl) dL_law_713 ?_
  rintro _ S₂ ⟨he₂, rfl, m₂⟩
  refine g_same hZ 760 dL_law_716 rfl ?_
  exact next _ ⟨w, h, n, hs, kp, _, hI.tx ((he₁.mono rfl).tr (he₂.mono rfl)) (x₁.x he₂ rfl rfl) m₂⟩
/-- clearText -/
theorem lw_23 {Z : gS → List (Nat × Value) → Nat → List Value → Prop} {E : gE} {b : Nat} {xs : Nat → Int} {L : Nat} (C : LwC Z E b xs L) {S : gS} (hI : Inv S) {i : Nat} (hi : i + 5 ≤ L) (next : ∀ S₉ : gS, Inv S₉ → Z S₉ (lwL E b i) 760 []) : Z S (lwL E b i) 721 [] := by
  obtain ⟨hZ, hld, hln, hG, hxs, hL⟩ := C
  obtain ⟨w, h, n, hs, kp, tx, hI⟩ := hI
  obtain ⟨a1, a2, a3, a4, a5, a6, a7, a8, a9, a10, a11, a12, a13, a14⟩ := id hI
  refine g_aload_n hZ dL_law_721 rfl ?_
  refine g_callV hZ (t_X8_clearText E S tx a13) kL_110 ⟨by decide, by decide⟩ rfl rfl rfl rfl (Nat.le_of_ble_eq_true rfl) dL_law_722 ?_
  rintro _ S₁ ⟨he₁, rfl, x₁⟩
  refine g_aload_n hZ dL_law_725 rfl ?_
  refine g_callV hZ (t_X9_clearText E S₁ tx (a14.x he₁ rfl rfl)) kL_113 ⟨by decide, by decide⟩ rfl rfl rfl rfl (Nat.le_of_ble_eq_true rfl) dL_law_726 ?_
  rintro _ S₂ ⟨he₂, rfl, m₂⟩
  refine g_same hZ 760 dL_law_729 rfl ?_
  exact next _ ⟨w, h, n, hs, kp, _, hI.tx ((he₁.mono rfl).tr (he₂.mono rfl)) (x₁.x he₂ rfl rfl) m₂⟩
/-- run -/
theorem lw_25 {Z : gS → List (Nat × Value) → Nat → List Value → Prop} {E : gE} {b : Nat} {xs : Nat → Int} {L : Nat} (C : LwC Z E b xs L) {S : gS} (hI : Inv S) {i : Nat} (hi : i + 5 ≤ L) (next : ∀ S₉ : gS, Inv S₉ → Z S₉ (lwL E b i) 760 []) : Z S (lwL E b i) 747 [] := by
  obtain ⟨hZ, hld, hln, hG, hxs, hL⟩ := C
  obtain ⟨w, h, n, hs, kp, tx, hI⟩ := hI
  obtain ⟨a1, a2, a3, a4, a5, a6, a7, a8, a9, a10, a11, a12, a13, a14⟩ := id hI
  refine g_aload_n hZ dL_law_747 rfl ?_
  refine g_callV hZ (t_X8_run E hG S w h n a1 (S 61) a3 a4 a5 hs a6 tx a13) kL_118 ⟨by decide, by decide⟩ rfl rfl rfl rfl (Nat.le_of_ble_eq_true rfl) dL_law_748 ?_
  rintro _ S₁ (⟨hf, rfl, he₁⟩ | ⟨hf, rfl, he₁, x₁, h₁⟩)
  · have hI₁ := hI.scr (he₁.mono rfl)
    obtain ⟨b1, b2, b3, b4, b5, b6, b7, b8, b9, b10, b11, b12, b13, b14⟩ := id hI₁
    refine g_aload_n hZ dL_law_751 rfl ?_
    refine g_callV hZ (t_X9_run E S₁ w h n b2 b4 b5 hs b7 tx b14) kL_121 ⟨by decide, by decide⟩ rfl rfl rfl rfl (Nat.le_of_ble_eq_true rfl) dL_law_752 ?_
    rintro _ S₂ (⟨-, rfl, he₂⟩ | ⟨hf2, -⟩)
    · refine g_same hZ 760 dL_law_755 rfl ?_
      exact next _ ⟨w, h, n, hs, kp, tx, hI₁.scr (he₂.mono rfl)⟩
    · exact absurd hf2 hf
  · have e61 : S₁ 61 = S 61 := funext fun j => he₁ 61 j rfl
    obtain ⟨o1, o2⟩ := rnF_ok (tx := tx) a1.o 61 0 (S 61) 0 a4 a5
    refine g_aload_n hZ dL_law_751 rfl ?_
    refine g_callV hZ (t_X9_run E S₁ w h n (a2.x he₁ rfl rfl) (by rw [e61]; exact a4) (by rw [e61]; exact a5) hs (a7.x he₁ rfl rfl) tx (a14.x he₁ rfl rfl)) kL_121 ⟨by decide, by decide⟩ rfl rfl rfl rfl (Nat.le_of_ble_eq_true rfl) dL_law_752 ?_
    rintro _ S₂ (⟨hf2, -⟩ | ⟨-, rfl, he₂, m61, mh⟩)
    · exact absurd hf hf2
    · rw [e61] at m61 mh ⊢
      refine g_same hZ 760 dL_law_755 rfl ?_
      exact next _ ⟨w, h, n, _, kp, tx, hI.bd ((he₁.mono rfl).tr (he₂.mono rfl)) (by rw [m61]; exact x₁.x he₂ rfl) (by rw [m61]; exact o1) (by rw [m61]; exact o2) (h₁.x he₂ rfl rfl rfl rfl) mh (a8.push a1.o a4 a5)⟩
