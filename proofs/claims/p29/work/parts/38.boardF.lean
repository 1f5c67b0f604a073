/-! the class: BurningFields: value, exploreAndSolve -/
theorem aLow_in {r : Nat → Int} {n : Nat} {i : Int} (h : 0 ≤ i) {k : Nat} (hk : (rts r n)[i.toNat]? = some k) : aLow r n i = (k : Int) := by
  unfold aLow
  rw [if_neg (by omega), hk]
theorem aLow_out {r : Nat → Int} {n : Nat} {i : Int} (h : ¬ (0 ≤ i ∧ i < ((rts r n).length : Int))) : aLow r n i = -1 := by
  unfold aLow
  by_cases q : i < 0
  · rw [if_pos q]
  · rw [if_neg q, List.getElem?_eq_none (by omega)]
theorem t_X8_value (E : gE) (S : gS) (w h n : Nat) (hg : xG S w h n) (B : Nat → Int) (hX : XB S n B) (hB : mBd B n) (hc : mC3 B n) (kp : List (Nat × Nat)) (hk : XK S (kX n kp)) (hkc : kcan n kp) (i : Int) (ri : R32 i) : Ct E LAY mX8_value [.ref (gad E 0), iV i] S (fun r S' => Eqx [6, 7, 10, 11, 12, 13, 15, 16, 30, 31, 32, 33, 34, 35] S S' ∧ r = some (iV (aValue w n (rg w n B) B kp i).1) ∧ XK S' (kX n (aValue w n (rg w n B) B kp i).2.1) ∧ kcan n (aValue w n (rg w n B) B kp i).2.1 ∧ S' 33 0 = S 33 0 + (aValue w n (rg w n B) B kp i).2.2) := by
  have hn := hg.n15
  have hl := cntB_le (rootB (rg w n B)) n
  rw [← rts_len] at hl
  refine Ct.intro LAY_ok (by decide +kernel) (Nat.le_of_ble_eq_true rfl) rfl ?_
  intro Z hZ
  refine g_aload_n hZ dX8_value_0 rfl ?_
  refine g_callV hZ (t_X8_divideBoard E S w h n hg B hX hB) kX8_155 ⟨by decide, by decide⟩ rfl rfl rfl rfl (Nat.le_of_ble_eq_true rfl) dX8_value_1 ?_
  rintro _ S₁ ⟨rfl, he₁, hx₁⟩
  have hg₁ := hg.x he₁ rfl
  have hX₁ := hX.x he₁ rfl
  have hk₁ := hk.x he₁ rfl rfl rfl
  refine g_aload_n hZ dX8_value_4 rfl ?_
  refine g_getr hZ fX8_40 rfl rfl dX8_value_5 ?_
  refine g_iload_n hZ dX8_value_8 rfl ?_
  refine g_callV hZ (t_X5_has E S₁ w n hn B hx₁ i ri) kX8_162 ⟨by decide, by decide⟩ rfl rfl rfl rfl (Nat.le_of_ble_eq_true rfl) dX8_value_9 ?_
  rintro _ _ ⟨rfl, z, rfl, hz⟩
  rcases hz with ⟨rfl, hz⟩ | ⟨rfl, hz⟩
  · obtain ⟨root, hroot⟩ : ∃ root, (rts (rg w n B) n)[i.toNat]? = some root := ⟨_, List.getElem?_eq_getElem (by omega)⟩
    obtain ⟨m, e1, e2⟩ := hx₁.2 i.toNat root hroot
    have el := aLow_in hz.1 hroot
    refine g_if_ne hZ 19 dX8_value_12 rfl (by omega) (fun _ => ?_) (fun cX => absurd cX (by omega))
    refine g_aload_n hZ dX8_value_19 rfl ?_
    refine g_getr hZ fX8_40 rfl rfl dX8_value_20 ?_
    refine g_getr hZ fX8_159 rfl rfl dX8_value_23 ?_
    refine g_iload_n hZ dX8_value_26 rfl ?_
    refine g_iald hZ (i.toNat) rfl dX8_value_27 (by omega) (by omega) (by decide) (e1) ?_
    refine g_istore_n hZ dX8_value_28 (by decide) ?_
    refine g_aload_n hZ dX8_value_29 rfl ?_
    refine g_iload_n hZ dX8_value_30 rfl ?_
    refine g_callV hZ (t_X8_isShared E S₁ w h n hg₁ B hX₁ hB (root : Int) m e2) kX8_166 ⟨by decide, by decide⟩ rfl rfl rfl rfl (Nat.le_of_ble_eq_true rfl) dX8_value_31 ?_
    rintro _ _ ⟨rfl, z, rfl, hz2⟩
    rcases hz2 with ⟨rfl, hz2⟩ | ⟨rfl, hz2⟩
    · have ea : aValue w n (rg w n B) B kp i = (-1002, kp, 0) := by unfold aValue; rw [el, if_neg (by omega), if_pos hz2]
      rw [ea] at hZ
      refine g_if_eq hZ 41 dX8_value_34 rfl (by omega) (fun cX => absurd cX (by omega)) (fun _ => ?_)
      refine g_sipush hZ (z := (-1002)) dX8_value_37 rfl ?_
      refine g_iret hZ dX8_value_40 rfl ⟨he₁.mono rfl, rfl, hk₁, hkc, by rw [he₁ 33 0 rfl]; simp⟩
    · have ea : aValue w n (rg w n B) B kp i = askV w n (rg w n B) B kp (root : Int) := by unfold aValue; rw [el, if_neg (by omega), if_neg hz2]
      rw [ea] at hZ
      refine g_if_eq hZ 41 dX8_value_34 rfl (by omega) (fun _ => ?_) (fun cX => absurd (by omega) cX)
      refine g_aload_n hZ dX8_value_41 rfl ?_
      refine g_iload_n hZ dX8_value_42 rfl ?_
      refine g_callV hZ (t_X8_askValue E S₁ w h n hg₁ B hX₁ hB hc kp hk₁ hkc root hz2 m e2) kX8_169 ⟨by decide, by decide⟩ rfl rfl rfl rfl (Nat.le_of_ble_eq_true rfl) dX8_value_43 ?_
      rintro _ S₂ ⟨he₂, rfl, hk₂, hkc₂, h33⟩
      refine g_iret hZ dX8_value_46 rfl ⟨(he₁.mono rfl).tr (he₂.mono rfl), rfl, hk₂, hkc₂, by rw [h33, he₁ 33 0 rfl]⟩
  · have ea : aValue w n (rg w n B) B kp i = (-1001, kp, 0) := by unfold aValue; rw [aLow_out hz, if_pos (by omega)]
    rw [ea] at hZ
    refine g_if_ne hZ 19 dX8_value_12 rfl (by omega) (fun cX => absurd (by omega) cX) (fun _ => ?_)
    refine g_sipush hZ (z := (-1001)) dX8_value_15 rfl ?_
    refine g_iret hZ dX8_value_18 rfl ⟨he₁.mono rfl, rfl, hk₁, hkc, by rw [he₁ 33 0 rfl]; simp⟩
theorem t_X8_exploreAndSolveL (E : gE) (S : gS) (w h n : Nat) (hg : xG S w h n) (p0 : Nat) (hp0 : qP n true p0 p0) : Ct E LAY mX8_exploreAndSolve [.ref (gad E 5), jV (xP n p0 : Int), iV (sdP p0 : Int)] S (fun r S' => Eqx [6, 7, 10, 11, 12, 13, 14, 15, 16] S S' ∧ ∃ z, r = some (iV z) ∧ ((z = 0 ∧ bfs (scP w n true) 1501 0 [p0] = none) ∨ (z = 1 ∧ ∃ L, bfs (scP w n true) 1501 0 [p0] = some L ∧ PS S' 12 13 16 (L.map (xP n)) ∧ L[0]? = some p0 ∧ bOK (scP w n true) (qP n true p0) L ∧ ∀ (i p : Nat), L[i]? = some p → S' 14 i = b2i (GV w n true p).1 ∧ S' 15 i = ((GV w n true p).2 : Int)))) := by
  have hO := hg.o
  have hsd := sdP_12 p0
  have e3 : (3 : Int) - (sdP p0 : Int) = ((cond true (3 - sdP p0) (sdP p0) : Nat) : Int) := by
    show (3 : Int) - (sdP p0 : Int) = ((3 - sdP p0 : Nat) : Int)
    omega
  refine Ct.intro LAY_ok (by decide +kernel) (Nat.le_of_ble_eq_true rfl) rfl ?_
  intro Z hZ
  refine g_aload_n hZ dX8_exploreAndSolve_0 rfl ?_
  refine g_lload_n hZ dX8_exploreAndSolve_1 rfl ?_
  refine g_iload_n hZ dX8_exploreAndSolve_2 rfl ?_
  refine g_iload_n hZ dX8_exploreAndSolve_3 rfl ?_
  refine g_callS hZ (t_X8_otherSide E S (sdP p0 : Int)) kX8_176 ⟨by decide, by decide⟩ rfl rfl (Nat.le_of_ble_eq_true rfl) dX8_exploreAndSolve_4 ?_
  rintro _ _ ⟨rfl, rfl⟩
  refine g_callV hZ (As := [jV (xP n p0 : Int), iV (sdP p0 : Int), iV ((3 : Int) - (sdP p0 : Int))]) (by rw [e3]; exact t_X4_exploreL E S w h n hg true p0 hp0) kX8_179 ⟨by decide, by decide⟩ rfl rfl rfl rfl (Nat.le_of_ble_eq_true rfl) dX8_exploreAndSolve_7 ?_
  rintro _ S₁ ⟨he₁, h1, h2, z, rfl, hz⟩
  rcases hz with ⟨rfl, hb⟩ | ⟨rfl, L, hb, hPS⟩
  · refine g_if_ne hZ 15 dX8_exploreAndSolve_10 rfl (by omega) (fun cX => absurd (by omega) cX) (fun _ => ?_)
    refine g_iconst hZ dX8_exploreAndSolve_13 ?_
    refine g_zret hZ dX8_exploreAndSolve_14 rfl (Or.inl rfl) ⟨he₁.mono rfl, 0, rfl, Or.inl ⟨rfl, hb⟩⟩
  · have hbok : bOK (scP w n true) (qP n true p0) L := bfs_ok (rk := bcP n) (Q := qP n true p0) (fun p hp c hc => ⟨qP_nx hO hp c hc, bcP_nx hO c hc⟩) rfl (bI_0 hp0) hb
    have h0 : L[0]? = some p0 := (bfs_ok0 hO hp0.1 hb).2
    refine g_if_ne hZ 15 dX8_exploreAndSolve_10 rfl (by omega) (fun _ => ?_) (fun cX => absurd cX (by omega))
    refine g_aload_n hZ dX8_exploreAndSolve_15 rfl ?_
    refine g_callV hZ (t_X4_solveL E S₁ w h n (hg.x he₁ rfl) p0 L hPS hbok h0 h1 h2) kX8_264 ⟨by decide, by decide⟩ rfl rfl rfl rfl (Nat.le_of_ble_eq_true rfl) dX8_exploreAndSolve_16 ?_
    rintro _ S₂ ⟨rfl, he₂, hv⟩
    refine g_iconst hZ dX8_exploreAndSolve_19 ?_
    refine g_zret hZ dX8_exploreAndSolve_20 rfl (Or.inr rfl) ⟨(he₁.mono rfl).tr (he₂.mono rfl), 1, rfl, Or.inr ⟨rfl, L, hb, hPS.x he₂ rfl rfl rfl, h0, hbok, hv⟩⟩
theorem t_X8_exploreAndSolveR (E : gE) (S : gS) (w h n : Nat) (hg : xG S w h n) (p0 : Nat) (hp0 : qP n true p0 p0) : Ct E LAY mX8_exploreAndSolve [.ref (gad E 10), jV (xP n p0 : Int), iV (sdP p0 : Int)] S (fun r S' => Eqx [6, 7, 20, 21, 22, 23, 24, 25, 26] S S' ∧ ∃ z, r = some (iV z) ∧ ((z = 0 ∧ bfs (scP w n true) 1501 0 [p0] = none) ∨ (z = 1 ∧ ∃ L, bfs (scP w n true) 1501 0 [p0] = some L ∧ PS S' 22 23 26 (L.map (xP n)) ∧ L[0]? = some p0 ∧ bOK (scP w n true) (qP n true p0) L ∧ ∀ (i p : Nat), L[i]? = some p → S' 24 i = b2i (GV w n true p).1 ∧ S' 25 i = ((GV w n true p).2 : Int)))) := by
  have hO := hg.o
  have hsd := sdP_12 p0
  have e3 : (3 : Int) - (sdP p0 : Int) = ((cond true (3 - sdP p0) (sdP p0) : Nat) : Int) := by
    show (3 : Int) - (sdP p0 : Int) = ((3 - sdP p0 : Nat) : Int)
    omega
  refine Ct.intro LAY_ok (by decide +kernel) (Nat.le_of_ble_eq_true rfl) rfl ?_
  intro Z hZ
  refine g_aload_n hZ dX8_exploreAndSolve_0 rfl ?_
  refine g_lload_n hZ dX8_exploreAndSolve_1 rfl ?_
  refine g_iload_n hZ dX8_exploreAndSolve_2 rfl ?_
  refine g_iload_n hZ dX8_exploreAndSolve_3 rfl ?_
  refine g_callS hZ (t_X8_otherSide E S (sdP p0 : Int)) kX8_176 ⟨by decide, by decide⟩ rfl rfl (Nat.le_of_ble_eq_true rfl) dX8_exploreAndSolve_4 ?_
  rintro _ _ ⟨rfl, rfl⟩
  refine g_callV hZ (As := [jV (xP n p0 : Int), iV (sdP p0 : Int), iV ((3 : Int) - (sdP p0 : Int))]) (by rw [e3]; exact t_X4_exploreR E S w h n hg true p0 hp0) kX8_179 ⟨by decide, by decide⟩ rfl rfl rfl rfl (Nat.le_of_ble_eq_true rfl) dX8_exploreAndSolve_7 ?_
  rintro _ S₁ ⟨he₁, h1, h2, z, rfl, hz⟩
  rcases hz with ⟨rfl, hb⟩ | ⟨rfl, L, hb, hPS⟩
  · refine g_if_ne hZ 15 dX8_exploreAndSolve_10 rfl (by omega) (fun cX => absurd (by omega) cX) (fun _ => ?_)
    refine g_iconst hZ dX8_exploreAndSolve_13 ?_
    refine g_zret hZ dX8_exploreAndSolve_14 rfl (Or.inl rfl) ⟨he₁.mono rfl, 0, rfl, Or.inl ⟨rfl, hb⟩⟩
  · have hbok : bOK (scP w n true) (qP n true p0) L := bfs_ok (rk := bcP n) (Q := qP n true p0) (fun p hp c hc => ⟨qP_nx hO hp c hc, bcP_nx hO c hc⟩) rfl (bI_0 hp0) hb
    have h0 : L[0]? = some p0 := (bfs_ok0 hO hp0.1 hb).2
    refine g_if_ne hZ 15 dX8_exploreAndSolve_10 rfl (by omega) (fun _ => ?_) (fun cX => absurd cX (by omega))
    refine g_aload_n hZ dX8_exploreAndSolve_15 rfl ?_
    refine g_callV hZ (t_X4_solveR E S₁ w h n (hg.x he₁ rfl) p0 L hPS hbok h0 h1 h2) kX8_264 ⟨by decide, by decide⟩ rfl rfl rfl rfl (Nat.le_of_ble_eq_true rfl) dX8_exploreAndSolve_16 ?_
    rintro _ S₂ ⟨rfl, he₂, hv⟩
    refine g_iconst hZ dX8_exploreAndSolve_19 ?_
    refine g_zret hZ dX8_exploreAndSolve_20 rfl (Or.inr rfl) ⟨(he₁.mono rfl).tr (he₂.mono rfl), 1, rfl, Or.inr ⟨rfl, L, hb, hPS.x he₂ rfl rfl rfl, h0, hbok, hv⟩⟩
