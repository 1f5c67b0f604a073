/-! the class: BurningFields: outcomes -/
theorem t_X8_findOutcome (E : gE) (S : gS) (w h n : Nat) (hg : xG S w h n) (x : Nat) (A : Nat → Int) (hx : repX x n A) (hA : mBd A n) (hc : mC3 A n) : Ct E LAY mX8_findOutcome [.ref (gad E 0), jV (x : Int)] S (fun r S' => Eqx [6, 7, 10, 11, 12, 13, 14, 15, 16, 20, 21, 22, 23, 24, 25, 26] S S' ∧ r = some (iV (aOut w n (cod A n)))) := by
  have hn := hg.n15
  obtain ⟨s1, s2, s3⟩ := st_ok (s := 1) true hn hA hc (by omega)
  obtain ⟨r1, r2, r3⟩ := st_ok (s := 2) true hn hA hc (by omega)
  have ex := s3 x hx
  have ey := r3 x hx
  refine Ct.intro LAY_ok (by decide +kernel) (Nat.le_of_ble_eq_true rfl) rfl ?_
  intro Z hZ
  have no : ∀ (S₁ : gS), Eqx [6, 7, 10, 11, 12, 13, 14, 15, 16, 20, 21, 22, 23, 24, 25, 26] S S₁ → (winF w n (cod A n) 1 < 0 ∨ winF w n (cod A n) 2 < 0) → Z S₁ [(0, .ref (gad E 0)), (1, jV (x : Int))] 24 [] := by
    intro S₁ he hw
    have ea : aOut w n (cod A n) = -1004 := by unfold aOut; rw [if_pos hw]
    rw [ea] at hZ
    refine g_sipush hZ (z := (-1004)) dX8_findOutcome_24 rfl ?_
    refine g_iret hZ dX8_findOutcome_27 rfl ⟨he, rfl⟩
  refine g_aload_n hZ dX8_findOutcome_0 rfl ?_
  refine g_getr hZ fX8_30 rfl rfl dX8_findOutcome_1 ?_
  refine g_lload_n hZ dX8_findOutcome_4 rfl ?_
  refine g_iconst hZ dX8_findOutcome_5 ?_
  refine g_callS hZ (As := [.ref (gad E 5), jV (x : Int), iV 1]) (by have := t_X8_exploreAndSolveL E S w h n hg _ s1; rw [← ex, s2] at this; exact this) kX8_184 ⟨by decide, by decide⟩ rfl rfl (Nat.le_of_ble_eq_true rfl) dX8_findOutcome_6 ?_
  rintro _ S₁ ⟨he₁, z, rfl, hz⟩
  rcases hz with ⟨rfl, hb⟩ | ⟨rfl, L, hb, hPS, h0, hbok, hv⟩
  · refine g_if_eq hZ 24 dX8_findOutcome_9 rfl (by omega) (fun _ => ?_) (fun cX => absurd (by omega) cX)
    exact no S₁ (he₁.mono rfl) (Or.inl (by unfold winF; rw [hb]; show (-1004 : Int) < 0; decide))
  · have w1 : winF w n (cod A n) 1 = b2i (GV w n true (cod A n + 1073741824 * (1 - 1))).1 := by unfold winF; rw [hb]
    have hv0 := (hv 0 _ h0).1
    have hg₁ := hg.x he₁ rfl
    refine g_if_eq hZ 24 dX8_findOutcome_9 rfl (by omega) (fun cX => absurd cX (by omega)) (fun _ => ?_)
    refine g_aload_n hZ dX8_findOutcome_12 rfl ?_
    refine g_getr hZ fX8_34 rfl rfl dX8_findOutcome_13 ?_
    refine g_lload_n hZ dX8_findOutcome_16 rfl ?_
    refine g_iconst hZ dX8_findOutcome_17 ?_
    refine g_callS hZ (As := [.ref (gad E 10), jV (x : Int), iV 2]) (by have := t_X8_exploreAndSolveR E S₁ w h n hg₁ _ r1; rw [← ey, r2] at this; exact this) kX8_184 ⟨by decide, by decide⟩ rfl rfl (Nat.le_of_ble_eq_true rfl) dX8_findOutcome_18 ?_
    rintro _ S₂ ⟨he₂, z, rfl, hz⟩
    rcases hz with ⟨rfl, hb2⟩ | ⟨rfl, L2, hb2, hPS2, h02, hbok2, hv2⟩
    · refine g_if_ne hZ 28 dX8_findOutcome_21 rfl (by omega) (fun cX => absurd (by omega) cX) (fun _ => ?_)
      exact no S₂ ((he₁.mono rfl).tr (he₂.mono rfl)) (Or.inr (by unfold winF; rw [hb2]; show (-1004 : Int) < 0; decide))
    · have w2 : winF w n (cod A n) 2 = b2i (GV w n true (cod A n + 1073741824 * (2 - 1))).1 := by unfold winF; rw [hb2]
      have hv02 := (hv2 0 _ h02).1
      have hv01 : S₂ 14 0 = b2i (GV w n true (cod A n + 1073741824 * (1 - 1))).1 := (he₂ 14 0 rfl).trans hv0
      have ea : aOut w n (cod A n) = if winF w n (cod A n) 1 = 1 then (if winF w n (cod A n) 2 = 1 then 2 else 0) else (if winF w n (cod A n) 2 = 1 then 1 else 3) := by
        unfold aOut
        rw [if_neg]
        rw [w1, w2]
        have q1 := b2i_01 (GV w n true (cod A n + 1073741824 * (1 - 1))).1
        have q2 := b2i_01 (GV w n true (cod A n + 1073741824 * (2 - 1))).1
        omega
      rw [ea, w1, w2] at hZ
      have heT : Eqx [6, 7, 10, 11, 12, 13, 14, 15, 16, 20, 21, 22, 23, 24, 25, 26] S S₂ := (he₁.mono rfl).tr (he₂.mono rfl)
      refine g_if_ne hZ 28 dX8_findOutcome_21 rfl (by omega) (fun _ => ?_) (fun cX => absurd cX (by omega))
      refine g_aload_n hZ dX8_findOutcome_28 rfl ?_
      refine g_getr hZ fX8_30 rfl rfl dX8_findOutcome_29 ?_
      refine g_iconst hZ dX8_findOutcome_32 ?_
      refine g_callV hZ (As := [iV ((0 : Nat) : Int)]) (t_X4_isWonL E S₂ 0 (by omega) _ hv01 (b2i_01 _)) kX8_188 ⟨by decide, by decide⟩ rfl rfl rfl rfl (Nat.le_of_ble_eq_true rfl) dX8_findOutcome_33 ?_
      rintro _ _ ⟨rfl, rfl⟩
      refine g_istore_n hZ dX8_findOutcome_36 (by decide) ?_
      refine g_aload_n hZ dX8_findOutcome_37 rfl ?_
      refine g_getr hZ fX8_34 rfl rfl dX8_findOutcome_38 ?_
      refine g_iconst hZ dX8_findOutcome_41 ?_
      refine g_callV hZ (As := [iV ((0 : Nat) : Int)]) (t_X4_isWonR E S₂ 0 (by omega) _ hv02 (b2i_01 _)) kX8_188 ⟨by decide, by decide⟩ rfl rfl rfl rfl (Nat.le_of_ble_eq_true rfl) dX8_findOutcome_42 ?_
      rintro _ _ ⟨rfl, rfl⟩
      clear ea w1 w2
      generalize (GV w n true (cod A n + 1073741824 * (1 - 1))).1 = g1 at *
      generalize (GV w n true (cod A n + 1073741824 * (2 - 1))).1 = g2 at *
      cases g1 with
      | true =>
        cases g2 with
        | true =>
          refine g_istore hZ dX8_findOutcome_45 (by decide) ?_
          refine g_iload_n hZ dX8_findOutcome_47 rfl ?_
          refine g_if_eq hZ 62 dX8_findOutcome_48 rfl ⟨by decide, by decide⟩ (fun cX => absurd cX (by decide)) (fun _ => ?_)
          refine g_iload hZ dX8_findOutcome_51 rfl ?_
          refine g_if_eq hZ 60 dX8_findOutcome_53 rfl ⟨by decide, by decide⟩ (fun cX => absurd cX (by decide)) (fun _ => ?_)
          refine g_iconst hZ dX8_findOutcome_56 ?_
          refine g_goto hZ 61 dX8_findOutcome_57 rfl ?_
          refine g_iret hZ dX8_findOutcome_61 rfl ⟨heT, rfl⟩
        | false =>
          refine g_istore hZ dX8_findOutcome_45 (by decide) ?_
          refine g_iload_n hZ dX8_findOutcome_47 rfl ?_
          refine g_if_eq hZ 62 dX8_findOutcome_48 rfl ⟨by decide, by decide⟩ (fun cX => absurd cX (by decide)) (fun _ => ?_)
          refine g_iload hZ dX8_findOutcome_51 rfl ?_
          refine g_if_eq hZ 60 dX8_findOutcome_53 rfl ⟨by decide, by decide⟩ (fun _ => ?_) (fun cX => absurd (by decide) cX)
          refine g_iconst hZ dX8_findOutcome_60 ?_
          refine g_iret hZ dX8_findOutcome_61 rfl ⟨heT, rfl⟩
      | false =>
        cases g2 with
        | true =>
          refine g_istore hZ dX8_findOutcome_45 (by decide) ?_
          refine g_iload_n hZ dX8_findOutcome_47 rfl ?_
          refine g_if_eq hZ 62 dX8_findOutcome_48 rfl ⟨by decide, by decide⟩ (fun _ => ?_) (fun cX => absurd (by decide) cX)
          refine g_iload hZ dX8_findOutcome_62 rfl ?_
          refine g_if_eq hZ 71 dX8_findOutcome_64 rfl ⟨by decide, by decide⟩ (fun cX => absurd cX (by decide)) (fun _ => ?_)
          refine g_iconst hZ dX8_findOutcome_67 ?_
          refine g_goto hZ 72 dX8_findOutcome_68 rfl ?_
          refine g_iret hZ dX8_findOutcome_72 rfl ⟨heT, rfl⟩
        | false =>
          refine g_istore hZ dX8_findOutcome_45 (by decide) ?_
          refine g_iload_n hZ dX8_findOutcome_47 rfl ?_
          refine g_if_eq hZ 62 dX8_findOutcome_48 rfl ⟨by decide, by decide⟩ (fun _ => ?_) (fun cX => absurd (by decide) cX)
          refine g_iload hZ dX8_findOutcome_62 rfl ?_
          refine g_if_eq hZ 71 dX8_findOutcome_64 rfl ⟨by decide, by decide⟩ (fun _ => ?_) (fun cX => absurd (by decide) cX)
          refine g_iconst hZ dX8_findOutcome_71 ?_
          refine g_iret hZ dX8_findOutcome_72 rfl ⟨heT, rfl⟩
theorem t_X8_outcome (E : gE) (S : gS) (w h n : Nat) (hg : xG S w h n) (B : Nat → Int) (hX : XB S n B) (hB : mBd B n) (hc : mC3 B n) : Ct E LAY mX8_outcome [.ref (gad E 0)] S (fun r S' => Eqx [6, 7, 10, 11, 12, 13, 14, 15, 16, 20, 21, 22, 23, 24, 25, 26] S S' ∧ r = some (iV (aOut w n (cod B n)))) := by
  obtain ⟨x, x1, x2⟩ := id hX
  refine Ct.intro LAY_ok (by decide +kernel) (Nat.le_of_ble_eq_true rfl) rfl ?_
  intro Z hZ
  refine g_aload_n hZ dX8_outcome_0 rfl ?_
  refine g_aload_n hZ dX8_outcome_1 rfl ?_
  refine g_getj hZ fX8_69 rfl rfl dX8_outcome_2 x1 ?_
  refine g_callV hZ (t_X8_findOutcome E S w h n hg x B x2 hB hc) kX8_191 ⟨by decide, by decide⟩ rfl rfl rfl rfl (Nat.le_of_ble_eq_true rfl) dX8_outcome_5 ?_
  rintro _ S₁ ⟨he₁, rfl⟩
  refine g_iret hZ dX8_outcome_8 rfl ⟨he₁, rfl⟩
theorem t_X8_outcomeOf (E : gE) (S : gS) (w h n : Nat) (hg : xG S w h n) (B : Nat → Int) (hX : XB S n B) (hB : mBd B n) (hc : mC3 B n) (i : Int) (ri : R32 i) : Ct E LAY mX8_outcomeOf [.ref (gad E 0), iV i] S (fun r S' => Eqx [6, 7, 10, 11, 12, 13, 14, 15, 16, 20, 21, 22, 23, 24, 25, 26, 30, 31] S S' ∧ r = some (iV (aOutOf w n (rg w n B) B i))) := by
  have hn := hg.n15
  have hl := cntB_le (rootB (rg w n B)) n
  rw [← rts_len] at hl
  refine Ct.intro LAY_ok (by decide +kernel) (Nat.le_of_ble_eq_true rfl) rfl ?_
  intro Z hZ
  refine g_aload_n hZ dX8_outcomeOf_0 rfl ?_
  refine g_callV hZ (t_X8_divideBoard E S w h n hg B hX hB) kX8_155 ⟨by decide, by decide⟩ rfl rfl rfl rfl (Nat.le_of_ble_eq_true rfl) dX8_outcomeOf_1 ?_
  rintro _ S₁ ⟨rfl, he₁, hx₁⟩
  have hg₁ := hg.x he₁ rfl
  have hX₁ := hX.x he₁ rfl
  refine g_aload_n hZ dX8_outcomeOf_4 rfl ?_
  refine g_getr hZ fX8_40 rfl rfl dX8_outcomeOf_5 ?_
  refine g_iload_n hZ dX8_outcomeOf_8 rfl ?_
  refine g_callV hZ (t_X5_has E S₁ w n hn B hx₁ i ri) kX8_162 ⟨by decide, by decide⟩ rfl rfl rfl rfl (Nat.le_of_ble_eq_true rfl) dX8_outcomeOf_9 ?_
  rintro _ _ ⟨rfl, z, rfl, hz⟩
  rcases hz with ⟨rfl, hz⟩ | ⟨rfl, hz⟩
  · obtain ⟨root, hroot⟩ : ∃ root, (rts (rg w n B) n)[i.toNat]? = some root := ⟨_, List.getElem?_eq_getElem (by omega)⟩
    obtain ⟨m, e1, e2⟩ := hx₁.2 i.toNat root hroot
    have el := aLow_in hz.1 hroot
    have ea : aOutOf w n (rg w n B) B i = aOut w n (cod (alnB (rg w n B) B (root : Int)) n) := by unfold aOutOf; rw [el, if_neg (by omega)]
    rw [ea] at hZ
    refine g_if_ne hZ 19 dX8_outcomeOf_12 rfl (by omega) (fun _ => ?_) (fun cX => absurd cX (by omega))
    refine g_aload_n hZ dX8_outcomeOf_19 rfl ?_
    refine g_aload_n hZ dX8_outcomeOf_20 rfl ?_
    refine g_aload_n hZ dX8_outcomeOf_21 rfl ?_
    refine g_getr hZ fX8_40 rfl rfl dX8_outcomeOf_22 ?_
    refine g_getr hZ fX8_159 rfl rfl dX8_outcomeOf_25 ?_
    refine g_iload_n hZ dX8_outcomeOf_28 rfl ?_
    refine g_iald hZ (i.toNat) rfl dX8_outcomeOf_29 (by omega) (by omega) (by decide) (e1) ?_
    refine g_callV hZ (t_X8_aloneOf E S₁ w h n hg₁ B hX₁ hB root m e2) kX8_195 ⟨by decide, by decide⟩ rfl rfl rfl rfl (Nat.le_of_ble_eq_true rfl) dX8_outcomeOf_30 ?_
    rintro _ _ ⟨rfl, y, rfl, hy⟩
    have hab : mBd (alnB (rg w n B) B (root : Int)) n := alnB_bd hB
    have hcc := alnB_c3 (r := rg w n B) (root := (root : Int)) hB hc
    have hbk : ∀ k, k < n → bdP (cod (alnB (rg w n B) B (root : Int)) n) k = alnB (rg w n B) B (root : Int) k := fun k hk => bdP_cod hab hk
    have hca : mC3 (alnB (rg w n B) B (root : Int)) n := ⟨by rw [← cntZ_cong hbk]; exact hcc.1, by rw [← cntZ_cong hbk]; exact hcc.2⟩
    refine g_callV hZ (t_X8_findOutcome E S₁ w h n hg₁ y _ hy hab hca) kX8_191 ⟨by decide, by decide⟩ rfl rfl rfl rfl (Nat.le_of_ble_eq_true rfl) dX8_outcomeOf_33 ?_
    rintro _ S₂ ⟨he₂, rfl⟩
    refine g_iret hZ dX8_outcomeOf_36 rfl ⟨(he₁.mono rfl).tr (he₂.mono rfl), rfl⟩
  · have ea : aOutOf w n (rg w n B) B i = -1001 := by unfold aOutOf; rw [aLow_out hz, if_pos (by omega)]
    rw [ea] at hZ
    refine g_if_ne hZ 19 dX8_outcomeOf_12 rfl (by omega) (fun cX => absurd (by omega) cX) (fun _ => ?_)
    refine g_sipush hZ (z := (-1001)) dX8_outcomeOf_15 rfl ?_
    refine g_iret hZ dX8_outcomeOf_18 rfl ⟨he₁.mono rfl, rfl⟩
