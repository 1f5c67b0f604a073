/-! the reference: the play -/
def WR (w n : Nat) (S : gS) (L : List Nat) : Prop := ∀ (i p : Nat), L[i]? = some p → S 69 i = b2i (GV w n true p).1 ∧ S 70 i = ((GV w n true p).2 : Int)
def winF (w n c s : Nat) : Int := match bfs (scP w n true) 1501 0 [c + 1073741824 * (s - 1)] with | none => -1004 | some _ => b2i (GV w n true (c + 1073741824 * (s - 1))).1
theorem winF_bd {w n c s : Nat} : winF w n c s = -1004 ∨ winF w n c s = 0 ∨ winF w n c s = 1 := by
  unfold winF
  split
  · left; rfl
  · right; exact b2i_01 _
theorem cod_c3 {B : Nat → Int} {n : Nat} (hB : mBd B n) (hc : mC3 B n) : mC3 (bdP (cod B n)) n := by
  have := alnB_c3 (r := B) (root := -1) hB hc
  rw [alnB_m1] at this
  exact this
theorem t_X9_winsFrom (E : gE) (S : gS) (w h n : Nat) (hg : mG S w h n) (c : Nat) (hc0 : c < 1073741824) (hC : mC3 (bdP c) n) (s : Nat) (hs : s = 1 ∨ s = 2) : Ct E LAY mX9_winsFrom [.ref (gad E 27), iV (c : Int), iV (s : Int)] S (fun r S' => Eqx [55, 56, 62, 66, 67, 68, 69, 70] S S' ∧ r = some (iV (winF w n c s)) ∧ ∀ L, bfs (scP w n true) 1501 0 [c + 1073741824 * (s - 1)] = some L → RS S' L ∧ WR w n S' L) := by
  have hn := hg.n15
  refine Ct.intro LAY_ok (by decide +kernel) (Nat.le_of_ble_eq_true rfl) rfl ?_
  intro Z hZ
  refine g_aload_n hZ dX9_winsFrom_0 rfl ?_
  refine g_iload_n hZ dX9_winsFrom_1 rfl ?_
  refine g_iload_n hZ dX9_winsFrom_2 rfl ?_
  refine g_iconst hZ dX9_winsFrom_3 ?_
  refine g_callV hZ (As := [iV (c : Int), iV (s : Int), iV (cond true 1 0)]) (t_X9_isReached E S w h n hg c hc0 hC s hs true) kX9_156 ⟨by decide, by decide⟩ rfl rfl rfl rfl (Nat.le_of_ble_eq_true rfl) dX9_winsFrom_4 ?_
  rintro _ S₁ ⟨he₁, z, rfl, hz⟩
  rcases hz with ⟨rfl, hz⟩ | ⟨rfl, L, hz, hRS⟩
  · refine g_if_ne hZ 14 dX9_winsFrom_7 rfl (by omega) (fun cX => absurd (by omega) cX) (fun _ => ?_)
    refine g_sipush hZ (z := (-1004)) dX9_winsFrom_10 rfl ?_
    refine g_iret hZ dX9_winsFrom_13 rfl ⟨he₁.mono rfl, by unfold winF; rw [hz], fun L hL => by rw [hz] at hL; cases hL⟩
  · obtain ⟨hOK, h0⟩ := bfs_ok0 hg.2.2 (vP_start hn hc0 hC hs) hz
    refine g_if_ne hZ 14 dX9_winsFrom_7 rfl (by omega) (fun _ => ?_) (fun cX => absurd cX (by omega))
    refine g_aload_n hZ dX9_winsFrom_14 rfl ?_
    refine g_iconst hZ dX9_winsFrom_15 ?_
    refine g_callV hZ (As := [iV (cond true 1 0)]) (t_X9_weighs E S₁ w h n (hg.x he₁ rfl rfl) true L hRS hOK) kX9_160 ⟨by decide, by decide⟩ rfl rfl rfl rfl (Nat.le_of_ble_eq_true rfl) dX9_winsFrom_16 ?_
    rintro _ S₂ ⟨rfl, he₂, hW⟩
    have w1 := (hW 0 _ h0).1
    have ew : winF w n c s = b2i (GV w n true (c + 1073741824 * (s - 1))).1 := by unfold winF; rw [hz]
    have fin : ∀ z : Int, z = b2i (GV w n true (c + 1073741824 * (s - 1))).1 → Z S₂ [(0, .ref (gad E 27)), (1, iV (c : Int)), (2, iV (s : Int))] 33 [iV z] := by
      intro z hz2
      refine g_iret hZ dX9_winsFrom_33 rfl ⟨(he₁.mono rfl).tr (he₂.mono rfl), by rw [ew, hz2], fun L2 hL2 => by rw [hz] at hL2; cases hL2; exact ⟨hRS.x he₂ rfl rfl rfl, hW⟩⟩
    have h01 := b2i_01 (GV w n true (c + 1073741824 * (s - 1))).1
    refine g_aload_n hZ dX9_winsFrom_19 rfl ?_
    refine g_getr hZ fX9_41 rfl rfl dX9_winsFrom_20 ?_
    refine g_iconst hZ dX9_winsFrom_23 ?_
    refine g_zald hZ (0) rfl dX9_winsFrom_24 (rfl) (by omega) (by decide) (w1) ?_
    refine g_if_eq hZ 32 dX9_winsFrom_25 rfl (by omega) (fun c1 => ?_) (fun c1 => ?_)
    · refine g_iconst hZ dX9_winsFrom_32 ?_
      exact fin 0 c1.symm
    · refine g_iconst hZ dX9_winsFrom_28 ?_
      refine g_goto hZ 33 dX9_winsFrom_29 rfl ?_
      exact fin 1 (by omega)
def stP (n : Nat) (B : Nat → Int) (s : Nat) : Nat := cod B n + 1073741824 * (s - 1)
def aPos (w n : Nat) (B : Nat → Int) (s : Int) : Int := if s = 1 ∨ s = 2 then (match bfs (scP w n true) 1501 0 [stP n B s.toNat] with | none => -1004 | some L => (L.length : Int)) else -1001
theorem t_X9_positions (E : gE) (S : gS) (w h n : Nat) (hg : mG S w h n) (hB : mBd (S 61) n) (hc : mC3 (S 61) n) (s : Int) (rs : R32 s) : Ct E LAY mX9_positions [.ref (gad E 27), iV s] S (fun r S' => Eqx [55, 56, 62, 66, 67, 68] S S' ∧ r = some (iV (aPos w n (S 61) s))) := by
  have hn := hg.n15
  refine Ct.intro LAY_ok (by decide +kernel) (Nat.le_of_ble_eq_true rfl) rfl ?_
  intro Z hZ
  refine g_iload_n hZ dX9_positions_0 rfl ?_
  refine g_callS hZ (t_X9_isSide E S s rs) kX9_81 ⟨by decide, by decide⟩ rfl rfl (Nat.le_of_ble_eq_true rfl) dX9_positions_1 ?_
  rintro _ _ ⟨rfl, z1, rfl, hz1⟩
  rcases hz1 with ⟨rfl, hz1⟩ | ⟨rfl, hz1⟩
  · refine g_if_ne hZ 11 dX9_positions_4 rfl (by omega) (fun _ => ?_) (fun cX => absurd cX (by omega))
    refine g_aload_n hZ dX9_positions_11 rfl ?_
    refine g_aload_n hZ dX9_positions_12 rfl ?_
    refine g_iconst hZ dX9_positions_13 ?_
    refine g_callV hZ (t_X9_coded E S w h n hg hB (-1) (by omega) (fun q => by omega)) kX9_150 ⟨by decide, by decide⟩ rfl rfl rfl rfl (Nat.le_of_ble_eq_true rfl) dX9_positions_14 ?_
    rintro _ _ ⟨rfl, rfl⟩
    rw [alnB_m1]
    have es : s = ((s.toNat : Nat) : Int) := by omega
    refine g_iload_n hZ dX9_positions_17 rfl ?_
    refine g_iconst hZ dX9_positions_18 ?_
    refine g_callV hZ (As := [iV (cod (S 61) n : Int), iV s, iV (cond true 1 0)]) (by have := t_X9_isReached E S w h n hg (cod (S 61) n) (cod_lt30 hn hB) (cod_c3 hB hc) s.toNat (by omega) true; rw [← es] at this; exact this) kX9_156 ⟨by decide, by decide⟩ rfl rfl rfl rfl (Nat.le_of_ble_eq_true rfl) dX9_positions_19 ?_
    rintro _ S₁ ⟨he₁, z, rfl, hz⟩
    rcases hz with ⟨rfl, hz⟩ | ⟨rfl, L, hz, hRS⟩
    · refine g_if_eq hZ 32 dX9_positions_22 rfl (by omega) (fun _ => ?_) (fun cX => absurd (by omega) cX)
      refine g_sipush hZ (z := (-1004)) dX9_positions_32 rfl ?_
      refine g_iret hZ dX9_positions_35 rfl ⟨he₁, by unfold aPos stP; rw [if_pos hz1, hz]⟩
    · refine g_if_eq hZ 32 dX9_positions_22 rfl (by omega) (fun cX => absurd cX (by omega)) (fun _ => ?_)
      refine g_aload_n hZ dX9_positions_25 rfl ?_
      refine g_geti hZ fX9_135 rfl rfl dX9_positions_26 hRS.1 ?_
      refine g_goto hZ 35 dX9_positions_29 rfl ?_
      refine g_iret hZ dX9_positions_35 rfl ⟨he₁, by unfold aPos stP; rw [if_pos hz1, hz]⟩
  · refine g_if_ne hZ 11 dX9_positions_4 rfl (by omega) (fun cX => absurd (by omega) cX) (fun _ => ?_)
    refine g_sipush hZ (z := (-1001)) dX9_positions_7 rfl ?_
    refine g_iret hZ dX9_positions_10 rfl ⟨Eqx.rf, by unfold aPos; rw [if_neg hz1]⟩
def aWins (w n : Nat) (B : Nat → Int) (s : Int) : Int := if s = 1 ∨ s = 2 then winF w n (cod B n) s.toNat else -1001
theorem t_X9_wins (E : gE) (S : gS) (w h n : Nat) (hg : mG S w h n) (hB : mBd (S 61) n) (hc : mC3 (S 61) n) (s : Int) (rs : R32 s) : Ct E LAY mX9_wins [.ref (gad E 27), iV s] S (fun r S' => Eqx [55, 56, 62, 66, 67, 68, 69, 70] S S' ∧ r = some (iV (aWins w n (S 61) s))) := by
  have hn := hg.n15
  refine Ct.intro LAY_ok (by decide +kernel) (Nat.le_of_ble_eq_true rfl) rfl ?_
  intro Z hZ
  refine g_iload_n hZ dX9_wins_0 rfl ?_
  refine g_callS hZ (t_X9_isSide E S s rs) kX9_81 ⟨by decide, by decide⟩ rfl rfl (Nat.le_of_ble_eq_true rfl) dX9_wins_1 ?_
  rintro _ _ ⟨rfl, z1, rfl, hz1⟩
  rcases hz1 with ⟨rfl, hz1⟩ | ⟨rfl, hz1⟩
  · refine g_if_eq hZ 20 dX9_wins_4 rfl (by omega) (fun cX => absurd cX (by omega)) (fun _ => ?_)
    refine g_aload_n hZ dX9_wins_7 rfl ?_
    refine g_aload_n hZ dX9_wins_8 rfl ?_
    refine g_iconst hZ dX9_wins_9 ?_
    refine g_callV hZ (t_X9_coded E S w h n hg hB (-1) (by omega) (fun q => by omega)) kX9_150 ⟨by decide, by decide⟩ rfl rfl rfl rfl (Nat.le_of_ble_eq_true rfl) dX9_wins_10 ?_
    rintro _ _ ⟨rfl, rfl⟩
    rw [alnB_m1]
    have es : s = ((s.toNat : Nat) : Int) := by omega
    refine g_iload_n hZ dX9_wins_13 rfl ?_
    refine g_callV hZ (As := [iV (cod (S 61) n : Int), iV s]) (by have := t_X9_winsFrom E S w h n hg (cod (S 61) n) (cod_lt30 hn hB) (cod_c3 hB hc) s.toNat (by omega); rw [← es] at this; exact this) kX9_167 ⟨by decide, by decide⟩ rfl rfl rfl rfl (Nat.le_of_ble_eq_true rfl) dX9_wins_14 ?_
    rintro _ S₁ ⟨he₁, rfl, -⟩
    refine g_goto hZ 23 dX9_wins_17 rfl ?_
    refine g_iret hZ dX9_wins_23 rfl ⟨he₁, by unfold aWins; rw [if_pos hz1]⟩
  · refine g_if_eq hZ 20 dX9_wins_4 rfl (by omega) (fun _ => ?_) (fun cX => absurd (by omega) cX)
    refine g_sipush hZ (z := (-1001)) dX9_wins_20 rfl ?_
    refine g_iret hZ dX9_wins_23 rfl ⟨Eqx.rf, by unfold aWins; rw [if_neg hz1]⟩
def aOut (w n c : Nat) : Int := if winF w n c 1 < 0 ∨ winF w n c 2 < 0 then -1004 else if winF w n c 1 = 1 then (if winF w n c 2 = 1 then 2 else 0) else (if winF w n c 2 = 1 then 1 else 3)
theorem t_X9_outcomeFrom (E : gE) (S : gS) (w h n : Nat) (hg : mG S w h n) (c : Nat) (hc0 : c < 1073741824) (hC : mC3 (bdP c) n) : Ct E LAY mX9_outcomeFrom [.ref (gad E 27), iV (c : Int)] S (fun r S' => Eqx [55, 56, 62, 66, 67, 68, 69, 70] S S' ∧ r = some (iV (aOut w n c))) := by
  have hn := hg.n15
  refine Ct.intro LAY_ok (by decide +kernel) (Nat.le_of_ble_eq_true rfl) rfl ?_
  intro Z hZ
  refine g_aload_n hZ dX9_outcomeFrom_0 rfl ?_
  refine g_iload_n hZ dX9_outcomeFrom_1 rfl ?_
  refine g_iconst hZ dX9_outcomeFrom_2 ?_
  refine g_callV hZ (As := [iV (c : Int), iV ((1 : Nat) : Int)]) (t_X9_winsFrom E S w h n hg c hc0 hC 1 (Or.inl rfl)) kX9_167 ⟨by decide, by decide⟩ rfl rfl rfl rfl (Nat.le_of_ble_eq_true rfl) dX9_outcomeFrom_3 ?_
  rintro _ S₁ ⟨he₁, rfl, -⟩
  refine g_istore_n hZ dX9_outcomeFrom_6 (by decide) ?_
  refine g_aload_n hZ dX9_outcomeFrom_7 rfl ?_
  refine g_iload_n hZ dX9_outcomeFrom_8 rfl ?_
  refine g_iconst hZ dX9_outcomeFrom_9 ?_
  refine g_callV hZ (As := [iV (c : Int), iV ((2 : Nat) : Int)]) (t_X9_winsFrom E S₁ w h n (hg.x he₁ rfl rfl) c hc0 hC 2 (Or.inr rfl)) kX9_167 ⟨by decide, by decide⟩ rfl rfl rfl rfl (Nat.le_of_ble_eq_true rfl) dX9_outcomeFrom_10 ?_
  rintro _ S₂ ⟨he₂, rfl, -⟩
  have he := he₁.tr he₂
  have b1 := winF_bd (w := w) (n := n) (c := c) (s := 1)
  have b2 := winF_bd (w := w) (n := n) (c := c) (s := 2)
  have ea : aOut w n c = if winF w n c 1 < 0 ∨ winF w n c 2 < 0 then -1004 else if winF w n c 1 = 1 then (if winF w n c 2 = 1 then 2 else 0) else (if winF w n c 2 = 1 then 1 else 3) := rfl
  generalize winF w n c 1 = a at *
  generalize winF w n c 2 = b at *
  have bad : (a < 0 ∨ b < 0) → Z S₂ [(0, .ref (gad E 27)), (1, iV (c : Int)), (2, iV a), (3, iV b)] 22 [] := by
    intro q
    refine g_sipush hZ (z := (-1004)) dX9_outcomeFrom_22 rfl ?_
    refine g_iret hZ dX9_outcomeFrom_25 rfl ⟨he, by rw [ea, if_pos q]⟩
  refine g_istore_n hZ dX9_outcomeFrom_13 (by decide) ?_
  refine g_iload_n hZ dX9_outcomeFrom_14 rfl ?_
  refine g_if_lt hZ 22 dX9_outcomeFrom_15 rfl (by omega) (fun c1 => ?_) (fun c1 => ?_)
  · exact bad (Or.inl c1)
  · refine g_iload_n hZ dX9_outcomeFrom_18 rfl ?_
    refine g_if_ge hZ 26 dX9_outcomeFrom_19 rfl (by omega) (fun c2 => ?_) (fun c2 => ?_)
    · refine g_iload_n hZ dX9_outcomeFrom_26 rfl ?_
      refine g_iconst hZ dX9_outcomeFrom_27 ?_
      refine g_icmp_ne hZ 44 dX9_outcomeFrom_28 rfl (by omega) (fun c3 => ?_) (fun c3 => ?_)
      · refine g_iload_n hZ dX9_outcomeFrom_44 rfl ?_
        refine g_iconst hZ dX9_outcomeFrom_45 ?_
        refine g_icmp_ne hZ 53 dX9_outcomeFrom_46 rfl (by omega) (fun c4 => ?_) (fun c4 => ?_)
        · refine g_iconst hZ dX9_outcomeFrom_53 ?_
          refine g_iret hZ dX9_outcomeFrom_54 rfl ⟨he, by rw [ea, if_neg (by omega), if_neg c3, if_neg c4]⟩
        · refine g_iconst hZ dX9_outcomeFrom_49 ?_
          refine g_goto hZ 54 dX9_outcomeFrom_50 rfl ?_
          refine g_iret hZ dX9_outcomeFrom_54 rfl ⟨he, by rw [ea, if_neg (by omega), if_neg c3, if_pos c4]⟩
      · refine g_iload_n hZ dX9_outcomeFrom_31 rfl ?_
        refine g_iconst hZ dX9_outcomeFrom_32 ?_
        refine g_icmp_ne hZ 40 dX9_outcomeFrom_33 rfl (by omega) (fun c4 => ?_) (fun c4 => ?_)
        · refine g_iconst hZ dX9_outcomeFrom_40 ?_
          refine g_goto hZ 54 dX9_outcomeFrom_41 rfl ?_
          refine g_iret hZ dX9_outcomeFrom_54 rfl ⟨he, by rw [ea, if_neg (by omega), if_pos c3, if_neg c4]⟩
        · refine g_iconst hZ dX9_outcomeFrom_36 ?_
          refine g_goto hZ 54 dX9_outcomeFrom_37 rfl ?_
          refine g_iret hZ dX9_outcomeFrom_54 rfl ⟨he, by rw [ea, if_neg (by omega), if_pos c3, if_pos c4]⟩
    · exact bad (Or.inr (by omega))
theorem t_X9_outcome (E : gE) (S : gS) (w h n : Nat) (hg : mG S w h n) (hB : mBd (S 61) n) (hc : mC3 (S 61) n) : Ct E LAY mX9_outcome [.ref (gad E 27)] S (fun r S' => Eqx [55, 56, 62, 66, 67, 68, 69, 70] S S' ∧ r = some (iV (aOut w n (cod (S 61) n)))) := by
  have hn := hg.n15
  refine Ct.intro LAY_ok (by decide +kernel) (Nat.le_of_ble_eq_true rfl) rfl ?_
  intro Z hZ
  refine g_aload_n hZ dX9_outcome_0 rfl ?_
  refine g_aload_n hZ dX9_outcome_1 rfl ?_
  refine g_iconst hZ dX9_outcome_2 ?_
  refine g_callV hZ (t_X9_coded E S w h n hg hB (-1) (by omega) (fun q => by omega)) kX9_150 ⟨by decide, by decide⟩ rfl rfl rfl rfl (Nat.le_of_ble_eq_true rfl) dX9_outcome_3 ?_
  rintro _ _ ⟨rfl, rfl⟩
  rw [alnB_m1]
  refine g_callV hZ (t_X9_outcomeFrom E S w h n hg (cod (S 61) n) (cod_lt30 hn hB) (cod_c3 hB hc)) kX9_170 ⟨by decide, by decide⟩ rfl rfl rfl rfl (Nat.le_of_ble_eq_true rfl) dX9_outcome_6 ?_
  rintro _ S₁ ⟨he₁, rfl⟩
  refine g_iret hZ dX9_outcome_9 rfl ⟨he₁, rfl⟩
def aOutOf (w n : Nat) (r B : Nat → Int) (i : Int) : Int := if aLow r n i < 0 then -1001 else aOut w n (cod (alnB r B (aLow r n i)) n)
theorem t_X9_outcomeOf (E : gE) (S : gS) (w h n : Nat) (hg : mG S w h n) (hB : mBd (S 61) n) (hc : mC3 (S 61) n) (i : Int) (ri : R32 i) : Ct E LAY mX9_outcomeOf [.ref (gad E 27), iV i] S (fun r S' => Eqx [55, 56, 62, 66, 67, 68, 69, 70, 72] S S' ∧ r = some (iV (aOutOf w n (rg w n (S 61)) (S 61) i))) := by
  have hn := hg.n15
  refine Ct.intro LAY_ok (by decide +kernel) (Nat.le_of_ble_eq_true rfl) rfl ?_
  intro Z hZ
  refine g_aload_n hZ dX9_outcomeOf_0 rfl ?_
  refine g_iload_n hZ dX9_outcomeOf_1 rfl ?_
  refine g_callV hZ (t_X9_lowest E S w h n hg hB i ri) kX9_128 ⟨by decide, by decide⟩ rfl rfl rfl rfl (Nat.le_of_ble_eq_true rfl) dX9_outcomeOf_2 ?_
  rintro _ S₁ ⟨he₁, hr₁, rfl⟩
  have hg₁ := hg.x he₁ rfl rfl
  have e61 : S₁ 61 = S 61 := funext fun j => he₁ 61 j rfl
  have hB₁ : mBd (S₁ 61) n := by rw [e61]; exact hB
  have hlow := aLow_bd (r := rg w n (S 61)) (n := n) (i := i)
  generalize hA : aLow (rg w n (S 61)) n i = A at *
  have rA : R32 A := by
    rcases hlow with ⟨q, -⟩ | ⟨k, q, q2, -⟩ <;> omega
  refine g_istore_n hZ dX9_outcomeOf_5 (by decide) ?_
  refine g_iload_n hZ dX9_outcomeOf_6 rfl ?_
  refine g_if_ge hZ 16 dX9_outcomeOf_7 rfl (by omega) (fun c => ?_) (fun c => ?_)
  · refine g_aload_n hZ dX9_outcomeOf_16 rfl ?_
    refine g_aload_n hZ dX9_outcomeOf_17 rfl ?_
    refine g_iload_n hZ dX9_outcomeOf_18 rfl ?_
    refine g_callV hZ (t_X9_coded E S₁ w h n hg₁ hB₁ A rA (fun _ => hr₁)) kX9_150 ⟨by decide, by decide⟩ rfl rfl rfl rfl (Nat.le_of_ble_eq_true rfl) dX9_outcomeOf_19 ?_
    rintro _ _ ⟨rfl, rfl⟩
    rw [e61]
    refine g_callV hZ (t_X9_outcomeFrom E S₁ w h n hg₁ _ (cod_lt30 hn (alnB_bd hB)) (alnB_c3 hB hc)) kX9_170 ⟨by decide, by decide⟩ rfl rfl rfl rfl (Nat.le_of_ble_eq_true rfl) dX9_outcomeOf_22 ?_
    rintro _ S₂ ⟨he₂, rfl⟩
    refine g_iret hZ dX9_outcomeOf_25 rfl ⟨(he₁.mono rfl).tr (he₂.mono rfl), by unfold aOutOf; rw [hA, if_neg (by omega)]⟩
  · refine g_sipush hZ (z := (-1001)) dX9_outcomeOf_10 rfl ?_
    refine g_goto hZ 25 dX9_outcomeOf_13 rfl ?_
    refine g_iret hZ dX9_outcomeOf_25 rfl ⟨he₁.mono rfl, by unfold aOutOf; rw [hA, if_pos (by omega)]⟩
def ffl {α : Type} (P : α → Bool) : List α → Int → Int
  | [], _ => -1005
  | q :: r, k => if P q = true then k else ffl P r (k + 1)
def aBest (w n : Nat) (B : Nat → Int) (s : Int) : Int := if s = 1 ∨ s = 2 then (match bfs (scP w n true) 1501 0 [stP n B s.toNat] with | none => -1004 | some _ => ffl (fun q => !(GV w n true (nxP n true (stP n B s.toNat) q)).1) (mvs w n B s) 0) else -1001
theorem stP_bd {n : Nat} {B : Nat → Int} {s k : Nat} (hn : n ≤ 15) (hB : mBd B n) (hk : k < n) : bdP (stP n B s) k = B k := by
  unfold stP
  rw [bdP_side (by omega), bdP_cod hB hk]
theorem stP_sd {n : Nat} {B : Nat → Int} {s : Nat} (hn : n ≤ 15) (hB : mBd B n) (hs : s = 1 ∨ s = 2) : sdP (stP n B s) = s := by
  unfold stP
  rw [sdP_side (cod_lt30 hn hB) (by omega)]
  omega
theorem t_X9_bestMove (E : gE) (S : gS) (w h n : Nat) (hg : mG S w h n) (hB : mBd (S 61) n) (hc : mC3 (S 61) n) (s : Int) (rs : R32 s) : Ct E LAY mX9_bestMove [.ref (gad E 27), iV s] S (fun r S' => Eqx [55, 56, 62, 66, 67, 68, 69, 70] S S' ∧ r = some (iV (aBest w n (S 61) s))) := by
  have hn := hg.n15
  have hO := hg.2.2
  refine Ct.intro LAY_ok (by decide +kernel) (Nat.le_of_ble_eq_true rfl) rfl ?_
  intro Z hZ
  refine g_iload_n hZ dX9_bestMove_0 rfl ?_
  refine g_callS hZ (t_X9_isSide E S s rs) kX9_81 ⟨by decide, by decide⟩ rfl rfl (Nat.le_of_ble_eq_true rfl) dX9_bestMove_1 ?_
  rintro _ _ ⟨rfl, z1, rfl, hz1⟩
  rcases hz1 with ⟨rfl, hz1⟩ | ⟨rfl, hz1⟩
  · refine g_if_ne hZ 11 dX9_bestMove_4 rfl (by omega) (fun _ => ?_) (fun cX => absurd cX (by omega))
    refine g_aload_n hZ dX9_bestMove_11 rfl ?_
    refine g_aload_n hZ dX9_bestMove_12 rfl ?_
    refine g_iconst hZ dX9_bestMove_13 ?_
    refine g_callV hZ (t_X9_coded E S w h n hg hB (-1) (by omega) (fun q => by omega)) kX9_150 ⟨by decide, by decide⟩ rfl rfl rfl rfl (Nat.le_of_ble_eq_true rfl) dX9_bestMove_14 ?_
    rintro _ _ ⟨rfl, rfl⟩
    rw [alnB_m1]
    have es : s = ((s.toNat : Nat) : Int) := by omega
    have hs2 : s.toNat = 1 ∨ s.toNat = 2 := by omega
    have hp0 : vP n (stP n (S 61) s.toNat) := vP_start hn (cod_lt30 hn hB) (cod_c3 hB hc) hs2
    have hwb := winF_bd (w := w) (n := n) (c := cod (S 61) n) (s := s.toNat)
    refine g_iload_n hZ dX9_bestMove_17 rfl ?_
    refine g_callV hZ (As := [iV (cod (S 61) n : Int), iV s]) (by have := t_X9_winsFrom E S w h n hg (cod (S 61) n) (cod_lt30 hn hB) (cod_c3 hB hc) s.toNat hs2; rw [← es] at this; exact this) kX9_167 ⟨by decide, by decide⟩ rfl rfl rfl rfl (Nat.le_of_ble_eq_true rfl) dX9_bestMove_18 ?_
    rintro _ S₁ ⟨he₁, rfl, hRW⟩
    have hg₁ := hg.x he₁ rfl rfl
    have e61 : S₁ 61 = S 61 := funext fun j => he₁ 61 j rfl
    refine g_if_ge hZ 28 dX9_bestMove_21 rfl (by omega) (fun c => ?_) (fun c => ?_)
    · obtain ⟨L, hL⟩ : ∃ L, bfs (scP w n true) 1501 0 [stP n (S 61) s.toNat] = some L := by
        cases q : bfs (scP w n true) 1501 0 [stP n (S 61) s.toNat] with
        | none =>
          exfalso
          have : winF w n (cod (S 61) n) s.toNat = -1004 := by unfold winF; unfold stP at q; rw [q]
          omega
        | some L => exact ⟨L, rfl⟩
      obtain ⟨hRS, hW⟩ := hRW L hL
      obtain ⟨hOK, h0⟩ := bfs_ok0 hO hp0 hL
      obtain ⟨k1, k2, k3, k4⟩ := hOK
      have ea : aBest w n (S 61) s = ffl (fun q => !(GV w n true (nxP n true (stP n (S 61) s.toNat) q)).1) (mvs w n (S 61) s) 0 := by unfold aBest; rw [if_pos hz1, hL]
      have esd : ((sdP (stP n (S 61) s.toNat) : Nat) : Int) = s := by rw [stP_sd hn hB hs2]; omega
      have emv : mvs w n (bdP (stP n (S 61) s.toNat)) ((sdP (stP n (S 61) s.toNat) : Nat) : Int) = mvs w n (S 61) s := by rw [esd]; exact mvs_cong hO (fun k hk => stP_bd hn hB hk)
      have hml := mvs_bound (w := w) (B := S 61) (s := s) hn (hc.s hz1)
      have hstP : ∀ k, k < n → bdP (stP n (S 61) s.toNat) k = S 61 k := fun k hk => stP_bd hn hB hk
      have hsdP := stP_sd (n := n) (B := S 61) hn hB hs2
      generalize stP n (S 61) s.toNat = p0 at *
      refine g_aload_n hZ dX9_bestMove_28 rfl ?_
      refine g_iload_n hZ dX9_bestMove_29 rfl ?_
      refine g_callV hZ (t_X9_movesNow E S₁ w h n hg₁ (by rw [e61]; exact hB) s hz1 (by rw [e61]; exact hc.s hz1)) kX9_109 ⟨by decide, by decide⟩ rfl rfl rfl rfl (Nat.le_of_ble_eq_true rfl) dX9_bestMove_30 ?_
      rintro _ S₂ ⟨rfl, hm₂, h62⟩
      rw [e61] at hm₂ h62
      rw [ea] at hZ
      have he₁₂ : Eqx [55, 56, 62, 66, 67, 68, 69, 70] S S₂ := he₁.tr (hm₂.1.mono rfl)
      have hRS₂ := hRS.x hm₂.1 rfl rfl rfl
      have hg₂ := hg.x he₁₂ rfl rfl
      have hlen := hm₂.2.1
      have loop : ∀ (m j : Nat), j + m = (mvs w n (S 61) s).length → ffl (fun q => !(GV w n true (nxP n true p0 q)).1) ((mvs w n (S 61) s).drop j) (j : Int) = ffl (fun q => !(GV w n true (nxP n true p0 q)).1) (mvs w n (S 61) s) 0 → Z S₂ [(0, .ref (gad E 27)), (1, iV s), (2, iV (j : Int))] 36 [] := by
        intro m
        induction m with
        | zero =>
          intro j hj hf
          rw [List.drop_eq_nil_of_le (by omega)] at hf
          refine g_iload_n hZ dX9_bestMove_36 rfl ?_
          refine g_aload_n hZ dX9_bestMove_37 rfl ?_
          refine g_geti hZ fX9_102 rfl rfl dX9_bestMove_38 hlen ?_
          refine g_icmp_ge hZ 77 dX9_bestMove_41 rfl (by omega) (fun _ => ?_) (fun cX => absurd (by omega) cX)
          refine g_sipush hZ (z := (-1005)) dX9_bestMove_77 rfl ?_
          refine g_iret hZ dX9_bestMove_80 rfl ⟨he₁₂, by rw [← hf]; rfl⟩
        | succ m ih =>
          intro j hj hf
          obtain ⟨q, hq⟩ : ∃ q, (mvs w n (S 61) s)[j]? = some q := ⟨_, List.getElem?_eq_getElem (by omega)⟩
          have hqm := List.mem_of_getElem? hq
          have hqf := mvs_facts hO (by omega) hqm
          have hdr : (mvs w n (S 61) s).drop j = q :: (mvs w n (S 61) s).drop (j + 1) := by
            have hjl := (List.getElem?_eq_some_iff.mp hq)
            rw [List.drop_eq_getElem_cons hjl.1, hjl.2]
          rw [hdr, ffl] at hf
          have hqm2 : q ∈ mvs w n (bdP p0) ((sdP p0 : Nat) : Int) := by rw [emv]; exact hqm
          have hcm : nxP n true p0 q ∈ scP w n true p0 := List.mem_map.mpr ⟨q, hqm2, rfl⟩
          have hvx : vP n (nxP n true p0 q) := vP_nx hO hp0 _ hcm
          obtain ⟨a, hka, ha⟩ := k4 0 p0 _ h0 hcm
          have hal := (List.getElem?_eq_some_iff.mp ha).1
          have va1 : S₂ 69 a = b2i (GV w n true (nxP n true p0 q)).1 := (hm₂.1 69 a rfl).trans (hW a _ ha).1
          have hfk := hm₂.2.2 j q hq
          have ecd : cod (aftB (S₂ 62) q s) n + 1073741824 * ((3 - s).toNat - 1) = nxP n true p0 q := by
            unfold nxP
            rw [esd, cond_true, hsdP, show (3 - s).toNat - 1 = 2 - s.toNat by omega]
            congr 1
            exact cod_cong (fun k hk => by unfold aftB; rw [h62 k (by omega), hstP k hk])
          refine g_iload_n hZ dX9_bestMove_36 rfl ?_
          refine g_aload_n hZ dX9_bestMove_37 rfl ?_
          refine g_geti hZ fX9_102 rfl rfl dX9_bestMove_38 hlen ?_
          refine g_icmp_ge hZ 77 dX9_bestMove_41 rfl (by omega) (fun cX => absurd cX (by omega)) (fun _ => ?_)
          refine g_aload_n hZ dX9_bestMove_44 rfl ?_
          refine g_getr hZ fX9_41 rfl rfl dX9_bestMove_45 ?_
          refine g_aload_n hZ dX9_bestMove_48 rfl ?_
          refine g_aload_n hZ dX9_bestMove_49 rfl ?_
          refine g_aload_n hZ dX9_bestMove_50 rfl ?_
          refine g_getr hZ fX9_32 rfl rfl dX9_bestMove_51 ?_
          refine g_iload_n hZ dX9_bestMove_54 rfl ?_
          refine g_iald hZ (j) rfl dX9_bestMove_55 (rfl) (by omega) (by decide) (hfk) ?_
          refine g_iconst hZ dX9_bestMove_56 ?_
          refine g_iload_n hZ dX9_bestMove_57 rfl ?_
          refine g_isub hZ dX9_bestMove_58 ?_
          refine g_callV hZ (t_X9_behind E S₂ w h n hg₂ (fun k hk => by rw [h62 k (by omega)]; exact hB k hk) q hqf.1 hqf.2.1 hqf.2.2.1 s hz1 (by rw [h62 _ (by omega)]; exact hqf.2.2.2.1) (3 - s) (by omega)) kX9_147 ⟨by decide, by decide⟩ rfl rfl rfl rfl (Nat.le_of_ble_eq_true rfl) dX9_bestMove_59 ?_
          rintro _ _ ⟨rfl, rfl⟩
          rw [ecd]
          refine g_callV hZ (t_X9_placeOf E S₂ L hRS₂.2.1 hRS₂.2.2.1 k2 (fun x hx => (k3 x hx).1) (nxP n true p0 q) hvx.1) kX9_138 ⟨by decide, by decide⟩ rfl rfl rfl rfl (Nat.le_of_ble_eq_true rfl) dX9_bestMove_62 ?_
          rintro _ _ ⟨rfl, z, rfl, hz⟩
          have hza : z = (a : Int) := by
            rcases hz with ⟨i, hi, rfl⟩ | ⟨hni, -⟩
            · have := (List.getElem?_inj (List.getElem?_eq_some_iff.mp hi).1 k1).mp (hi.trans ha.symm)
              rw [this]
            · exact absurd (List.mem_of_getElem? ha) hni
          subst hza
          refine g_zald hZ (a) rfl dX9_bestMove_65 (rfl) (by omega) (by decide) (va1) ?_
          cases hgw : (GV w n true (nxP n true p0 q)).1 with
          | false =>
            refine g_if_ne hZ 71 dX9_bestMove_66 rfl ⟨by decide, by decide⟩ (fun cX => absurd (by decide) cX) (fun _ => ?_)
            refine g_iload_n hZ dX9_bestMove_69 rfl ?_
            rw [hgw] at hf
            refine g_iret hZ dX9_bestMove_70 rfl ⟨he₁₂, by rw [← hf]; rfl⟩
          | true =>
            refine g_if_ne hZ 71 dX9_bestMove_66 rfl ⟨by decide, by decide⟩ (fun _ => ?_) (fun cX => absurd cX (by decide))
            rw [hgw] at hf
            refine g_iinc hZ dX9_bestMove_71 rfl (by decide) ?_
            refine g_goto hZ 36 dX9_bestMove_74 rfl ?_
            exact ih (j + 1) (by omega) hf
      refine g_pop hZ dX9_bestMove_33 rfl ?_
      refine g_iconst hZ dX9_bestMove_34 ?_
      refine g_istore_n hZ dX9_bestMove_35 (by decide) ?_
      exact loop _ 0 (Nat.zero_add _) rfl
    · have ew : winF w n (cod (S 61) n) s.toNat = -1004 := by omega
      have hnone : bfs (scP w n true) 1501 0 [stP n (S 61) s.toNat] = none := by
        cases q : bfs (scP w n true) 1501 0 [stP n (S 61) s.toNat] with
        | none => rfl
        | some L =>
          exfalso
          have : winF w n (cod (S 61) n) s.toNat = b2i (GV w n true (stP n (S 61) s.toNat)).1 := by unfold winF stP; unfold stP at q; rw [q]
          have h01 := b2i_01 (GV w n true (stP n (S 61) s.toNat)).1
          omega
      refine g_sipush hZ (z := (-1004)) dX9_bestMove_24 rfl ?_
      refine g_iret hZ dX9_bestMove_27 rfl ⟨he₁, by unfold aBest; rw [if_pos hz1, hnone]⟩
  · refine g_if_ne hZ 11 dX9_bestMove_4 rfl (by omega) (fun cX => absurd (by omega) cX) (fun _ => ?_)
    refine g_sipush hZ (z := (-1001)) dX9_bestMove_7 rfl ?_
    refine g_iret hZ dX9_bestMove_10 rfl ⟨Eqx.rf, by unfold aBest; rw [if_neg hz1]⟩
def aLen (w n : Nat) (B : Nat → Int) (s : Int) : Int := if s = 1 ∨ s = 2 then (match bfs (scP w n true) 1501 0 [stP n B s.toNat] with | none => -1004 | some _ => ((GV w n true (stP n B s.toNat)).2 : Int)) else -1001
theorem t_X9_length (E : gE) (S : gS) (w h n : Nat) (hg : mG S w h n) (hB : mBd (S 61) n) (hc : mC3 (S 61) n) (s : Int) (rs : R32 s) : Ct E LAY mX9_length [.ref (gad E 27), iV s] S (fun r S' => Eqx [55, 56, 62, 66, 67, 68, 69, 70] S S' ∧ r = some (iV (aLen w n (S 61) s))) := by
  have hn := hg.n15
  have hO := hg.2.2
  refine Ct.intro LAY_ok (by decide +kernel) (Nat.le_of_ble_eq_true rfl) rfl ?_
  intro Z hZ
  refine g_iload_n hZ dX9_length_0 rfl ?_
  refine g_callS hZ (t_X9_isSide E S s rs) kX9_81 ⟨by decide, by decide⟩ rfl rfl (Nat.le_of_ble_eq_true rfl) dX9_length_1 ?_
  rintro _ _ ⟨rfl, z1, rfl, hz1⟩
  rcases hz1 with ⟨rfl, hz1⟩ | ⟨rfl, hz1⟩
  · refine g_if_ne hZ 11 dX9_length_4 rfl (by omega) (fun _ => ?_) (fun cX => absurd cX (by omega))
    refine g_aload_n hZ dX9_length_11 rfl ?_
    refine g_aload_n hZ dX9_length_12 rfl ?_
    refine g_iconst hZ dX9_length_13 ?_
    refine g_callV hZ (t_X9_coded E S w h n hg hB (-1) (by omega) (fun q => by omega)) kX9_150 ⟨by decide, by decide⟩ rfl rfl rfl rfl (Nat.le_of_ble_eq_true rfl) dX9_length_14 ?_
    rintro _ _ ⟨rfl, rfl⟩
    rw [alnB_m1]
    have es : s = ((s.toNat : Nat) : Int) := by omega
    have hs2 : s.toNat = 1 ∨ s.toNat = 2 := by omega
    have hp0 : vP n (stP n (S 61) s.toNat) := vP_start hn (cod_lt30 hn hB) (cod_c3 hB hc) hs2
    have hwb := winF_bd (w := w) (n := n) (c := cod (S 61) n) (s := s.toNat)
    refine g_iload_n hZ dX9_length_17 rfl ?_
    refine g_callV hZ (As := [iV (cod (S 61) n : Int), iV s]) (by have := t_X9_winsFrom E S w h n hg (cod (S 61) n) (cod_lt30 hn hB) (cod_c3 hB hc) s.toNat hs2; rw [← es] at this; exact this) kX9_167 ⟨by decide, by decide⟩ rfl rfl rfl rfl (Nat.le_of_ble_eq_true rfl) dX9_length_18 ?_
    rintro _ S₁ ⟨he₁, rfl, hRW⟩
    cases q : bfs (scP w n true) 1501 0 [stP n (S 61) s.toNat] with
    | none =>
      have ew : winF w n (cod (S 61) n) s.toNat = -1004 := by unfold winF; unfold stP at q; rw [q]
      refine g_if_ge hZ 30 dX9_length_21 rfl (by omega) (fun cX => absurd cX (by omega)) (fun _ => ?_)
      refine g_sipush hZ (z := (-1004)) dX9_length_24 rfl ?_
      refine g_goto hZ 36 dX9_length_27 rfl ?_
      refine g_iret hZ dX9_length_36 rfl ⟨he₁, by unfold aLen; rw [if_pos hz1, q]⟩
    | some L =>
      have ew : winF w n (cod (S 61) n) s.toNat = b2i (GV w n true (stP n (S 61) s.toNat)).1 := by unfold winF stP; unfold stP at q; rw [q]
      have h01 := b2i_01 (GV w n true (stP n (S 61) s.toNat)).1
      obtain ⟨hRS, hW⟩ := hRW L q
      obtain ⟨hOK, h0⟩ := bfs_ok0 hO hp0 q
      refine g_if_ge hZ 30 dX9_length_21 rfl (by omega) (fun _ => ?_) (fun cX => absurd (by omega) cX)
      refine g_aload_n hZ dX9_length_30 rfl ?_
      refine g_getr hZ fX9_45 rfl rfl dX9_length_31 ?_
      refine g_iconst hZ dX9_length_34 ?_
      refine g_iald hZ (0) rfl dX9_length_35 (rfl) (by omega) (by decide) ((hW 0 _ h0).2) ?_
      refine g_iret hZ dX9_length_36 rfl ⟨he₁, by unfold aLen; rw [if_pos hz1, q]⟩
  · refine g_if_ne hZ 11 dX9_length_4 rfl (by omega) (fun cX => absurd (by omega) cX) (fun _ => ?_)
    refine g_sipush hZ (z := (-1001)) dX9_length_7 rfl ?_
    refine g_iret hZ dX9_length_10 rfl ⟨Eqx.rf, by unfold aLen; rw [if_neg hz1]⟩
