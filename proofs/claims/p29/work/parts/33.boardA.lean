/-! the class: BurningFields: board calls -/
/-- the class's board -/
def XB (S : gS) (n : Nat) (B : Nat → Int) : Prop := ∃ x : Nat, S 0 0 = (x : Int) ∧ repX x n B
theorem XB.x {vs : List Nat} {S S1 : gS} {n : Nat} {B : Nat → Int} (hh : XB S n B) (he : Eqx vs S S1) (h1 : vs.contains 0 = false) : XB S1 n B := by
  obtain ⟨x, a, b⟩ := hh
  exact ⟨x, (he 0 0 h1).trans a, b⟩
theorem bc_isM {m n : Nat} {B : Nat → Int} {v : Int} (hn : n ≤ 15) (h : isM m (mkB n B v)) : m < 32768 ∧ bc m = cntZ B v n := by
  have hl : m < 2 ^ 15 := h.lt (n := 15) (fun k hk => mkB_out (by omega))
  refine ⟨hl, ?_⟩
  rw [bc_eq hl]
  have := cntB_mkO n B v (15 - n)
  rw [show n + (15 - n) = 15 by omega] at this
  rw [← this]
  exact cntB_cong (fun k _ => h k)
theorem t_X8_isBoardSize (E : gE) (S : gS) (W H : Int) (hW : R32 W) (hH : R32 H) : Ct E LAY mX8_isBoardSize [iV W, iV H] S (fun r S' => S = S' ∧ ∃ z, r = some (iV z) ∧ isB z (1 ≤ W ∧ W ≤ 5 ∧ 1 ≤ H ∧ H ≤ 5 ∧ W * H ≤ 15)) := by
  refine Ct.intro LAY_ok (by decide +kernel) (Nat.le_of_ble_eq_true rfl) rfl ?_
  intro Z hZ
  have no : ¬ (1 ≤ W ∧ W ≤ 5 ∧ 1 ≤ H ∧ H ≤ 5 ∧ W * H ≤ 15) → Z S [(0, iV W), (1, iV H)] 32 [] := by
    intro hno
    refine g_iconst hZ dX8_isBoardSize_32 ?_
    refine g_zret hZ dX8_isBoardSize_33 rfl (Or.inl rfl) ⟨rfl, 0, rfl, Or.inr ⟨rfl, hno⟩⟩
  refine g_iload_n hZ dX8_isBoardSize_0 rfl ?_
  refine g_iconst hZ dX8_isBoardSize_1 ?_
  refine g_icmp_lt hZ 32 dX8_isBoardSize_2 rfl (by omega) (fun c1 => ?_) (fun c1 => ?_)
  · exact no (fun h => by omega)
  · refine g_iload_n hZ dX8_isBoardSize_5 rfl ?_
    refine g_iconst hZ dX8_isBoardSize_6 ?_
    refine g_icmp_gt hZ 32 dX8_isBoardSize_7 rfl (by omega) (fun c2 => ?_) (fun c2 => ?_)
    · exact no (fun h => by omega)
    · refine g_iload_n hZ dX8_isBoardSize_10 rfl ?_
      refine g_iconst hZ dX8_isBoardSize_11 ?_
      refine g_icmp_lt hZ 32 dX8_isBoardSize_12 rfl (by omega) (fun c3 => ?_) (fun c3 => ?_)
      · exact no (fun h => by omega)
      · refine g_iload_n hZ dX8_isBoardSize_15 rfl ?_
        refine g_iconst hZ dX8_isBoardSize_16 ?_
        refine g_icmp_gt hZ 32 dX8_isBoardSize_17 rfl (by omega) (fun c4 => ?_) (fun c4 => ?_)
        · exact no (fun h => by omega)
        · have hp : 0 ≤ W * H ∧ W * H ≤ 25 := by
            rcases (show W = 1 ∨ W = 2 ∨ W = 3 ∨ W = 4 ∨ W = 5 by omega) with rfl | rfl | rfl | rfl | rfl <;> omega
          refine g_iload_n hZ dX8_isBoardSize_20 rfl ?_
          refine g_iload_n hZ dX8_isBoardSize_21 rfl ?_
          refine g_imul hZ dX8_isBoardSize_22 ?_
          refine g_bipush hZ (z := 15) dX8_isBoardSize_23 rfl ?_
          refine g_icmp_gt hZ 32 dX8_isBoardSize_25 rfl (by omega) (fun c5 => ?_) (fun c5 => ?_)
          · exact no (fun h => by have := h.2.2.2.2; omega)
          · refine g_iconst hZ dX8_isBoardSize_28 ?_
            refine g_goto hZ 33 dX8_isBoardSize_29 rfl ?_
            refine g_zret hZ dX8_isBoardSize_33 rfl (Or.inr rfl) ⟨rfl, 1, rfl, Or.inl ⟨rfl, by omega, by omega, by omega, by omega, by omega⟩⟩
theorem t_X8_isContents (E : gE) (S : gS) (v : Int) (hv : R32 v) : Ct E LAY mX8_isContents [iV v] S (fun r S' => S = S' ∧ ∃ z, r = some (iV z) ∧ isB z (0 ≤ v ∧ v ≤ 3)) := by
  refine Ct.intro LAY_ok (by decide +kernel) (Nat.le_of_ble_eq_true rfl) rfl ?_
  intro Z hZ
  refine g_iload_n hZ dX8_isContents_0 rfl ?_
  refine g_if_lt hZ 13 dX8_isContents_1 rfl (by omega) (fun c1 => ?_) (fun c1 => ?_)
  · refine g_iconst hZ dX8_isContents_13 ?_
    refine g_zret hZ dX8_isContents_14 rfl (Or.inl rfl) ⟨rfl, 0, rfl, Or.inr ⟨rfl, by omega⟩⟩
  · refine g_iload_n hZ dX8_isContents_4 rfl ?_
    refine g_iconst hZ dX8_isContents_5 ?_
    refine g_icmp_gt hZ 13 dX8_isContents_6 rfl (by omega) (fun c2 => ?_) (fun c2 => ?_)
    · refine g_iconst hZ dX8_isContents_13 ?_
      refine g_zret hZ dX8_isContents_14 rfl (Or.inl rfl) ⟨rfl, 0, rfl, Or.inr ⟨rfl, by omega⟩⟩
    · refine g_iconst hZ dX8_isContents_9 ?_
      refine g_goto hZ 14 dX8_isContents_10 rfl ?_
      refine g_zret hZ dX8_isContents_14 rfl (Or.inr rfl) ⟨rfl, 1, rfl, Or.inl ⟨rfl, by omega⟩⟩
theorem t_X8_isSide (E : gE) (S : gS) (v : Int) (hv : R32 v) : Ct E LAY mX8_isSide [iV v] S (fun r S' => S = S' ∧ ∃ z, r = some (iV z) ∧ isB z (v = 1 ∨ v = 2)) := by
  refine Ct.intro LAY_ok (by decide +kernel) (Nat.le_of_ble_eq_true rfl) rfl ?_
  intro Z hZ
  refine g_iload_n hZ dX8_isSide_0 rfl ?_
  refine g_iconst hZ dX8_isSide_1 ?_
  refine g_icmp_eq hZ 10 dX8_isSide_2 rfl (by omega) (fun c1 => ?_) (fun c1 => ?_)
  · refine g_iconst hZ dX8_isSide_10 ?_
    refine g_goto hZ 15 dX8_isSide_11 rfl ?_
    refine g_zret hZ dX8_isSide_15 rfl (Or.inr rfl) ⟨rfl, 1, rfl, Or.inl ⟨rfl, by omega⟩⟩
  · refine g_iload_n hZ dX8_isSide_5 rfl ?_
    refine g_iconst hZ dX8_isSide_6 ?_
    refine g_icmp_ne hZ 14 dX8_isSide_7 rfl (by omega) (fun c2 => ?_) (fun c2 => ?_)
    · refine g_iconst hZ dX8_isSide_14 ?_
      refine g_zret hZ dX8_isSide_15 rfl (Or.inl rfl) ⟨rfl, 0, rfl, Or.inr ⟨rfl, by omega⟩⟩
    · refine g_iconst hZ dX8_isSide_10 ?_
      refine g_goto hZ 15 dX8_isSide_11 rfl ?_
      refine g_zret hZ dX8_isSide_15 rfl (Or.inr rfl) ⟨rfl, 1, rfl, Or.inl ⟨rfl, by omega⟩⟩
theorem t_X8_otherSide (E : gE) (S : gS) (s : Int) : Ct E LAY mX8_otherSide [iV s] S (fun r S' => S = S' ∧ r = some (iV (3 - s))) := by
  refine Ct.intro LAY_ok (by decide +kernel) (Nat.le_of_ble_eq_true rfl) rfl ?_
  intro Z hZ
  refine g_iconst hZ dX8_otherSide_0 ?_
  refine g_iload_n hZ dX8_otherSide_1 rfl ?_
  refine g_isub hZ dX8_otherSide_2 ?_
  refine g_iret hZ dX8_otherSide_3 rfl ⟨rfl, rfl⟩
theorem t_X8_maskOf (E : gE) (S : gS) (w h n : Nat) (hg : xG S w h n) (B : Nat → Int) (hX : XB S n B) (hB : mBd B n) (v : Nat) (hv : v ≤ 3) : Ct E LAY mX8_maskOf [.ref (gad E 0), iV (v : Int)] S (fun r S' => S = S' ∧ ∃ m : Nat, r = some (iV (m : Int)) ∧ isM m (mkB n B (v : Int))) := by
  have hn := hg.n15
  obtain ⟨x, x1, x2⟩ := hX
  refine Ct.intro LAY_ok (by decide +kernel) (Nat.le_of_ble_eq_true rfl) rfl ?_
  intro Z hZ
  refine g_iload_n hZ dX8_maskOf_0 rfl ?_
  refine g_if_ne hZ 21 dX8_maskOf_1 rfl (by omega) (fun c1 => ?_) (fun c1 => ?_)
  · refine g_aload_n hZ dX8_maskOf_21 rfl ?_
    refine g_getj hZ fX8_69 rfl rfl dX8_maskOf_22 x1 ?_
    refine g_iload_n hZ dX8_maskOf_25 rfl ?_
    refine g_callS hZ (t_X0_mask E S x v x2.1 (by omega) hv) kX8_233 ⟨by decide, by decide⟩ rfl rfl (Nat.le_of_ble_eq_true rfl) dX8_maskOf_26 ?_
    rintro _ _ ⟨rfl, rfl⟩
    refine g_iret hZ dX8_maskOf_29 rfl ⟨rfl, _, rfl, msk_rep x2 hn (by omega) hv⟩
  · refine g_aload_n hZ dX8_maskOf_4 rfl ?_
    refine g_getj hZ fX8_69 rfl rfl dX8_maskOf_5 x1 ?_
    refine g_aload_n hZ dX8_maskOf_8 rfl ?_
    refine g_getr hZ fX8_12 rfl rfl dX8_maskOf_9 ?_
    refine g_geti hZ fX8_227 rfl rfl dX8_maskOf_12 hg.2.2.2.1 ?_
    refine g_callS hZ (t_X0_freeMask E S x n x2.1 hn) kX8_230 ⟨by decide, by decide⟩ rfl rfl (Nat.le_of_ble_eq_true rfl) dX8_maskOf_15 ?_
    rintro _ _ ⟨rfl, rfl⟩
    refine g_goto hZ 29 dX8_maskOf_18 rfl ?_
    have hv0 : v = 0 := by omega
    subst hv0
    refine g_iret hZ dX8_maskOf_29 rfl ⟨rfl, _, rfl, frM_rep x2 hn hB⟩
theorem t_X8_field (E : gE) (S : gS) (w h n : Nat) (hg : xG S w h n) (B : Nat → Int) (hX : XB S n B) (hB : mBd B n) (f : Int) (hf : R32 f) : Ct E LAY mX8_field [.ref (gad E 0), iV f] S (fun r S' => S = S' ∧ r = some (iV (if 0 ≤ f ∧ f < n then B f.toNat else -1001))) := by
  have hn := hg.n15
  obtain ⟨x, x1, x2⟩ := hX
  refine Ct.intro LAY_ok (by decide +kernel) (Nat.le_of_ble_eq_true rfl) rfl ?_
  intro Z hZ
  refine g_aload_n hZ dX8_field_0 rfl ?_
  refine g_getr hZ fX8_12 rfl rfl dX8_field_1 ?_
  refine g_iload_n hZ dX8_field_4 rfl ?_
  refine g_callV hZ (t_X1_has E S n hg.2.2.1 hn f hf) kX8_95 ⟨by decide, by decide⟩ rfl rfl rfl rfl (Nat.le_of_ble_eq_true rfl) dX8_field_5 ?_
  rintro _ _ ⟨rfl, z, rfl, hz⟩
  rcases hz with ⟨rfl, hz⟩ | ⟨rfl, hz⟩
  · rw [if_pos hz] at hZ
    have ef : f = ((f.toNat : Nat) : Int) := by omega
    generalize hk : f.toNat = k at *
    subst ef
    refine g_if_ne hZ 15 dX8_field_8 rfl (by omega) (fun _ => ?_) (fun cX => absurd cX (by omega))
    refine g_aload_n hZ dX8_field_15 rfl ?_
    refine g_getj hZ fX8_69 rfl rfl dX8_field_16 x1 ?_
    refine g_iload_n hZ dX8_field_19 rfl ?_
    refine g_callS hZ (t_X0_at E S x n B x2 hn hB k (by omega)) kX8_99 ⟨by decide, by decide⟩ rfl rfl (Nat.le_of_ble_eq_true rfl) dX8_field_20 ?_
    rintro _ _ ⟨rfl, rfl⟩
    refine g_iret hZ dX8_field_23 rfl ⟨rfl, rfl⟩
  · rw [if_neg hz] at hZ
    refine g_if_ne hZ 15 dX8_field_8 rfl (by omega) (fun cX => absurd (by omega) cX) (fun _ => ?_)
    refine g_sipush hZ (z := (-1001)) dX8_field_11 rfl ?_
    refine g_iret hZ dX8_field_14 rfl ⟨rfl, rfl⟩
theorem t_X8_count (E : gE) (S : gS) (w h n : Nat) (hg : xG S w h n) (B : Nat → Int) (hX : XB S n B) (hB : mBd B n) (v : Int) (hv : R32 v) : Ct E LAY mX8_count [.ref (gad E 0), iV v] S (fun r S' => S = S' ∧ r = some (iV (if 0 ≤ v ∧ v ≤ 3 then (cntZ B v n : Int) else -1001))) := by
  have hn := hg.n15
  refine Ct.intro LAY_ok (by decide +kernel) (Nat.le_of_ble_eq_true rfl) rfl ?_
  intro Z hZ
  refine g_iload_n hZ dX8_count_0 rfl ?_
  refine g_callS hZ (t_X8_isContents E S v hv) kX8_105 ⟨by decide, by decide⟩ rfl rfl (Nat.le_of_ble_eq_true rfl) dX8_count_1 ?_
  rintro _ _ ⟨rfl, z, rfl, hz⟩
  rcases hz with ⟨rfl, hz⟩ | ⟨rfl, hz⟩
  · rw [if_pos hz] at hZ
    have ev : v = ((v.toNat : Nat) : Int) := by omega
    generalize hk : v.toNat = k at *
    subst ev
    refine g_if_ne hZ 11 dX8_count_4 rfl (by omega) (fun _ => ?_) (fun cX => absurd cX (by omega))
    refine g_aload_n hZ dX8_count_11 rfl ?_
    refine g_iload_n hZ dX8_count_12 rfl ?_
    refine g_callV hZ (t_X8_maskOf E S w h n hg B hX hB k (by omega)) kX8_108 ⟨by decide, by decide⟩ rfl rfl rfl rfl (Nat.le_of_ble_eq_true rfl) dX8_count_13 ?_
    rintro _ _ ⟨rfl, m, rfl, hm⟩
    obtain ⟨m1, m2⟩ := bc_isM hn hm
    refine g_callS hZ (t_J6_bitCount E S m m1) kX8_112 ⟨by decide, by decide⟩ rfl rfl (Nat.le_of_ble_eq_true rfl) dX8_count_16 ?_
    rintro _ _ ⟨rfl, rfl⟩
    rw [m2]
    refine g_iret hZ dX8_count_19 rfl ⟨rfl, rfl⟩
  · rw [if_neg hz] at hZ
    refine g_if_ne hZ 11 dX8_count_4 rfl (by omega) (fun cX => absurd (by omega) cX) (fun _ => ?_)
    refine g_sipush hZ (z := (-1001)) dX8_count_7 rfl ?_
    refine g_iret hZ dX8_count_10 rfl ⟨rfl, rfl⟩
theorem t_X8_isSeen (E : gE) (S : gS) (w h n : Nat) (hg : xG S w h n) (B : Nat → Int) (hX : XB S n B) (hB : mBd B n) (f g : Int) (hf : R32 f) (hg2 : R32 g) : Ct E LAY mX8_isSeen [.ref (gad E 0), iV f, iV g] S (fun r S' => S = S' ∧ r = some (iV (if 0 ≤ f ∧ f < n ∧ 0 ≤ g ∧ g < n then (if seenB w (frB B) f.toNat g.toNat = true then 1 else 0) else -1001))) := by
  have hn := hg.n15
  refine Ct.intro LAY_ok (by decide +kernel) (Nat.le_of_ble_eq_true rfl) rfl ?_
  intro Z hZ
  have no : ¬ (0 ≤ f ∧ f < n ∧ 0 ≤ g ∧ g < n) → Z S [(0, .ref (gad E 0)), (1, iV f), (2, iV g)] 22 [] := by
    intro hno
    rw [if_neg hno] at hZ
    refine g_sipush hZ (z := (-1001)) dX8_isSeen_22 rfl ?_
    refine g_iret hZ dX8_isSeen_25 rfl ⟨rfl, rfl⟩
  refine g_aload_n hZ dX8_isSeen_0 rfl ?_
  refine g_getr hZ fX8_12 rfl rfl dX8_isSeen_1 ?_
  refine g_iload_n hZ dX8_isSeen_4 rfl ?_
  refine g_callV hZ (t_X1_has E S n hg.2.2.1 hn f hf) kX8_95 ⟨by decide, by decide⟩ rfl rfl rfl rfl (Nat.le_of_ble_eq_true rfl) dX8_isSeen_5 ?_
  rintro _ _ ⟨rfl, z, rfl, hz⟩
  rcases hz with ⟨rfl, hz⟩ | ⟨rfl, hz⟩
  · refine g_if_eq hZ 22 dX8_isSeen_8 rfl (by omega) (fun cX => absurd cX (by omega)) (fun _ => ?_)
    refine g_aload_n hZ dX8_isSeen_11 rfl ?_
    refine g_getr hZ fX8_12 rfl rfl dX8_isSeen_12 ?_
    refine g_iload_n hZ dX8_isSeen_15 rfl ?_
    refine g_callV hZ (t_X1_has E S n hg.2.2.1 hn g hg2) kX8_95 ⟨by decide, by decide⟩ rfl rfl rfl rfl (Nat.le_of_ble_eq_true rfl) dX8_isSeen_16 ?_
    rintro _ _ ⟨rfl, z, rfl, hz2⟩
    rcases hz2 with ⟨rfl, hz2⟩ | ⟨rfl, hz2⟩
    · rw [if_pos ⟨hz.1, hz.2, hz2.1, hz2.2⟩] at hZ
      have ef : f = ((f.toNat : Nat) : Int) := by omega
      have eg : g = ((g.toNat : Nat) : Int) := by omega
      generalize hk : f.toNat = k at *
      generalize hj : g.toNat = j at *
      subst ef
      subst eg
      refine g_if_ne hZ 26 dX8_isSeen_19 rfl (by omega) (fun _ => ?_) (fun cX => absurd cX (by omega))
      refine g_aload_n hZ dX8_isSeen_26 rfl ?_
      refine g_getr hZ fX8_12 rfl rfl dX8_isSeen_27 ?_
      refine g_iload_n hZ dX8_isSeen_30 rfl ?_
      refine g_aload_n hZ dX8_isSeen_31 rfl ?_
      refine g_iconst hZ dX8_isSeen_32 ?_
      refine g_callV hZ (As := [iV ((0 : Nat) : Int)]) (t_X8_maskOf E S w h n hg B hX hB 0 (by omega)) kX8_108 ⟨by decide, by decide⟩ rfl rfl rfl rfl (Nat.le_of_ble_eq_true rfl) dX8_isSeen_33 ?_
      rintro _ _ ⟨rfl, fm, rfl, hfm⟩
      have hfl : fm < 2 ^ 15 := hfm.lt (n := 15) (fun k hk => mkB_out (by omega))
      have hfb : ∀ u, u < n → fm.testBit u = frB B u := fun u hu => by
        have hfu : fm.testBit u = mkB n B ((0 : Nat) : Int) u := hfm u
        rw [hfu]; unfold mkB frB; simp [hu]
      refine g_callV hZ (t_X1_seenFrom E S w h n hg k (by omega) fm hfl (frB B) hfb) kX8_117 ⟨by decide, by decide⟩ rfl rfl rfl rfl (Nat.le_of_ble_eq_true rfl) dX8_isSeen_36 ?_
      rintro _ _ ⟨rfl, sm, rfl, hsm⟩
      have hsl : sm < 2 ^ 15 := hsm.lt (n := 15) (fun k hk => by simp; omega)
      have hsj : sm.testBit j = (decide (j < n) && seenB w (frB B) k j) := hsm j
      refine g_iload_n hZ dX8_isSeen_39 rfl ?_
      refine g_ishr hZ dX8_isSeen_40 (gi_shr (by omega) (by omega)) ?_
      refine g_iconst hZ dX8_isSeen_41 ?_
      refine g_iand hZ dX8_isSeen_42 (gi_and1 _) ?_
      rw [tb_div, hsj, decide_eq_true (show j < n by omega), Bool.true_and]
      refine g_iret hZ dX8_isSeen_43 rfl ⟨rfl, by split <;> rfl⟩
    · refine g_if_ne hZ 26 dX8_isSeen_19 rfl (by omega) (fun cX => absurd (by omega) cX) (fun _ => ?_)
      exact no (by omega)
  · refine g_if_eq hZ 22 dX8_isSeen_8 rfl (by omega) (fun _ => ?_) (fun cX => absurd (by omega) cX)
    exact no (by omega)
theorem t_X8_putContents (E : gE) (S : gS) (w h n : Nat) (hg : xG S w h n) (B : Nat → Int) (hX : XB S n B) (hB : mBd B n) (hC3 : mC3 B n) (f v : Int) (hf : R32 f) (hv : R32 v) : Ct E LAY mX8_putContents [.ref (gad E 0), iV f, iV v] S (fun r S' => r = some (iV (aSet n B f v)) ∧ (aSet n B f v < 0 → S = S') ∧ (0 ≤ aSet n B f v → Eqx [0] S S' ∧ XB S' n (upB B f.toNat v))) := by
  have hn := hg.n15
  obtain ⟨x, x1, x2⟩ := id hX
  refine Ct.intro LAY_ok (by decide +kernel) (Nat.le_of_ble_eq_true rfl) rfl ?_
  intro Z hZ
  have no : ¬ (0 ≤ f ∧ f < n ∧ 0 ≤ v ∧ v ≤ 3) → Z S [(0, .ref (gad E 0)), (1, iV f), (2, iV v)] 18 [] := by
    intro hno
    have ea : aSet n B f v = -1001 := by unfold aSet; rw [if_neg hno]
    rw [ea] at hZ
    refine g_sipush hZ (z := (-1001)) dX8_putContents_18 rfl ?_
    refine g_iret hZ dX8_putContents_21 rfl ⟨rfl, fun _ => rfl, fun h => absurd h (by omega)⟩
  refine g_aload_n hZ dX8_putContents_0 rfl ?_
  refine g_getr hZ fX8_12 rfl rfl dX8_putContents_1 ?_
  refine g_iload_n hZ dX8_putContents_4 rfl ?_
  refine g_callV hZ (t_X1_has E S n hg.2.2.1 hn f hf) kX8_95 ⟨by decide, by decide⟩ rfl rfl rfl rfl (Nat.le_of_ble_eq_true rfl) dX8_putContents_5 ?_
  rintro _ _ ⟨rfl, z, rfl, hz⟩
  rcases hz with ⟨rfl, hz⟩ | ⟨rfl, hz⟩
  · refine g_if_eq hZ 18 dX8_putContents_8 rfl (by omega) (fun cX => absurd cX (by omega)) (fun _ => ?_)
    refine g_iload_n hZ dX8_putContents_11 rfl ?_
    refine g_callS hZ (t_X8_isContents E S v hv) kX8_105 ⟨by decide, by decide⟩ rfl rfl (Nat.le_of_ble_eq_true rfl) dX8_putContents_12 ?_
    rintro _ _ ⟨rfl, z, rfl, hz2⟩
    rcases hz2 with ⟨rfl, hz2⟩ | ⟨rfl, hz2⟩
    · refine g_if_ne hZ 22 dX8_putContents_15 rfl (by omega) (fun _ => ?_) (fun cX => absurd cX (by omega))
      have ea : aSet n B f v = if (v = 1 ∨ v = 2) ∧ B f.toNat ≠ v ∧ cntZ B v n = 3 then -1003 else B f.toNat := by unfold aSet; rw [if_pos ⟨hz.1, hz.2, hz2.1, hz2.2⟩]
      have ef : f = ((f.toNat : Nat) : Int) := by omega
      have ev : v = ((v.toNat : Nat) : Int) := by omega
      have hbk := hB f.toNat (by omega)
      have put : 0 ≤ aSet n B f v → aSet n B f v = B f.toNat → ∀ (L9 : List (Nat × Value)), lkeep L9 [0, 1, 2, 3] = [(0, .ref (gad E 0)), (1, iV f), (2, iV v), (3, iV (B f.toNat))] → Z S L9 71 [] := by
        intro hge he L9 hL9
        refine g_keep hZ [0, 1, 2, 3] hL9 ?_
        refine g_aload_n hZ dX8_putContents_71 rfl ?_
        refine g_aload_n hZ dX8_putContents_72 rfl ?_
        refine g_getj hZ fX8_69 rfl rfl dX8_putContents_73 x1 ?_
        refine g_iload_n hZ dX8_putContents_76 rfl ?_
        refine g_iload_n hZ dX8_putContents_77 rfl ?_
        refine g_callS hZ (As := [jV (x : Int), iV f, iV v]) (by rw [ef, ev]; exact t_X0_with E S x n B x2 hn f.toNat v.toNat (by omega) (by omega)) kX8_236 ⟨by decide, by decide⟩ rfl rfl (Nat.le_of_ble_eq_true rfl) dX8_putContents_78 ?_
        rintro _ _ ⟨rfl, y, rfl, hy⟩
        refine g_putj hZ fX8_69 rfl rfl dX8_putContents_81 ?_
        refine g_iload_n hZ dX8_putContents_84 rfl ?_
        refine g_iret hZ dX8_putContents_85 rfl ⟨by rw [he], fun h => absurd h (by omega), fun _ => ⟨Eqx.rf.up rfl, y, upS_eq _ _ _ _, by rw [ev]; exact hy⟩⟩
      refine g_aload_n hZ dX8_putContents_22 rfl ?_
      refine g_getj hZ fX8_69 rfl rfl dX8_putContents_23 x1 ?_
      refine g_iload_n hZ dX8_putContents_26 rfl ?_
      refine g_callS hZ (As := [jV (x : Int), iV f]) (by rw [ef]; exact t_X0_at E S x n B x2 hn hB f.toNat (by omega)) kX8_99 ⟨by decide, by decide⟩ rfl rfl (Nat.le_of_ble_eq_true rfl) dX8_putContents_27 ?_
      rintro _ _ ⟨rfl, rfl⟩
      have hft : ((f.toNat : Nat) : Int).toNat = f.toNat := by omega
      refine g_istore_n hZ dX8_putContents_30 (by decide) ?_
      refine g_iload_n hZ dX8_putContents_31 rfl ?_
      refine g_callS hZ (t_X8_isSide E S v hv) kX8_138 ⟨by decide, by decide⟩ rfl rfl (Nat.le_of_ble_eq_true rfl) dX8_putContents_32 ?_
      rintro _ _ ⟨rfl, z, rfl, hz3⟩
      have out : ¬ ((v = 1 ∨ v = 2) ∧ B f.toNat ≠ v) → Z S [(0, .ref (gad E 0)), (1, iV f), (2, iV v), (3, iV (B f.toNat))] 47 [] := by
        intro hno
        refine g_iconst hZ dX8_putContents_47 ?_
        refine g_istore hZ dX8_putContents_48 (by decide) ?_
        refine g_iload hZ dX8_putContents_50 rfl ?_
        refine g_if_eq hZ 71 dX8_putContents_52 rfl (by omega) (fun _ => ?_) (fun cX => absurd (by omega) cX)
        have e2 : aSet n B f v = B f.toNat := by rw [ea, if_neg (fun h => hno ⟨h.1, h.2.1⟩)]
        exact put (by omega) e2 _ rfl
      rcases hz3 with ⟨rfl, hz3⟩ | ⟨rfl, hz3⟩
      · refine g_if_eq hZ 47 dX8_putContents_35 rfl (by omega) (fun cX => absurd cX (by omega)) (fun _ => ?_)
        refine g_iload_n hZ dX8_putContents_38 rfl ?_
        refine g_iload_n hZ dX8_putContents_39 rfl ?_
        refine g_icmp_eq hZ 47 dX8_putContents_40 rfl (by omega) (fun c1 => ?_) (fun c1 => ?_)
        · exact out (fun h => h.2 (by omega))
        · refine g_iconst hZ dX8_putContents_43 ?_
          refine g_goto hZ 48 dX8_putContents_44 rfl ?_
          refine g_istore hZ dX8_putContents_48 (by decide) ?_
          refine g_iload hZ dX8_putContents_50 rfl ?_
          refine g_if_eq hZ 71 dX8_putContents_52 rfl (by omega) (fun cX => absurd cX (by omega)) (fun _ => ?_)
          refine g_aload_n hZ dX8_putContents_55 rfl ?_
          refine g_iload_n hZ dX8_putContents_56 rfl ?_
          refine g_callV hZ (As := [iV v]) (by rw [ev]; exact t_X8_maskOf E S w h n hg B hX hB v.toNat (by omega)) kX8_108 ⟨by decide, by decide⟩ rfl rfl rfl rfl (Nat.le_of_ble_eq_true rfl) dX8_putContents_57 ?_
          rintro _ _ ⟨rfl, m, rfl, hm⟩
          rw [← ev] at hm
          obtain ⟨m1, m2⟩ := bc_isM hn hm
          have c3 := hC3.s hz3
          refine g_callS hZ (t_J6_bitCount E S m m1) kX8_112 ⟨by decide, by decide⟩ rfl rfl (Nat.le_of_ble_eq_true rfl) dX8_putContents_60 ?_
          rintro _ _ ⟨rfl, rfl⟩
          rw [m2]
          refine g_iconst hZ dX8_putContents_63 ?_
          refine g_icmp_lt hZ 71 dX8_putContents_64 rfl (by omega) (fun c2 => ?_) (fun c2 => ?_)
          · have e2 : aSet n B f v = B f.toNat := by rw [ea, if_neg (fun h => by have := h.2.2; omega)]
            exact put (by omega) e2 _ rfl
          · have e2 : aSet n B f v = -1003 := by rw [ea, if_pos ⟨hz3, fun e => c1 (by omega), by omega⟩]
            rw [e2] at hZ
            refine g_sipush hZ (z := (-1003)) dX8_putContents_67 rfl ?_
            refine g_iret hZ dX8_putContents_70 rfl ⟨rfl, fun _ => rfl, fun h => absurd h (by omega)⟩
      · refine g_if_eq hZ 47 dX8_putContents_35 rfl (by omega) (fun _ => ?_) (fun cX => absurd (by omega) cX)
        exact out (fun h => hz3 h.1)
    · refine g_if_ne hZ 22 dX8_putContents_15 rfl (by omega) (fun cX => absurd (by omega) cX) (fun _ => ?_)
      exact no (by omega)
  · refine g_if_eq hZ 18 dX8_putContents_8 rfl (by omega) (fun _ => ?_) (fun cX => absurd (by omega) cX)
    exact no (by omega)
theorem t_X8_setField (E : gE) (S : gS) (w h n : Nat) (hg : xG S w h n) (B : Nat → Int) (hX : XB S n B) (hB : mBd B n) (hC3 : mC3 B n) (hs : List hEn) (hh : XHs S hs) (f v : Int) (hf : R32 f) (hv : R32 v) : Ct E LAY mX8_setField [.ref (gad E 0), iV f, iV v] S (fun r S' => r = some (iV (aSet n B f v)) ∧ (aSet n B f v < 0 → S = S') ∧ (0 ≤ aSet n B f v → Eqx [0, 36, 37, 38, 39] S S' ∧ XB S' n (upB B f.toNat v) ∧ XHs S' (hpush hs (w, h, B)))) := by
  obtain ⟨x, x1, x2⟩ := id hX
  refine Ct.intro LAY_ok (by decide +kernel) (Nat.le_of_ble_eq_true rfl) rfl ?_
  intro Z hZ
  refine g_aload_n hZ dX8_setField_0 rfl ?_
  refine g_getj hZ fX8_69 rfl rfl dX8_setField_1 x1 ?_
  refine g_lstore_n hZ dX8_setField_4 (by decide) ?_
  refine g_aload_n hZ dX8_setField_5 rfl ?_
  refine g_iload_n hZ dX8_setField_6 rfl ?_
  refine g_iload_n hZ dX8_setField_7 rfl ?_
  refine g_callV hZ (t_X8_putContents E S w h n hg B hX hB hC3 f v hf hv) kX8_91 ⟨by decide, by decide⟩ rfl rfl rfl rfl (Nat.le_of_ble_eq_true rfl) dX8_setField_8 ?_
  rintro _ S₁ ⟨rfl, p1, p2⟩
  have hr : R32 (aSet n B f v) := by
    unfold aSet
    split
    · rename_i q
      have := hB f.toNat (by omega)
      split <;> omega
    · omega
  generalize aSet n B f v = ans at *
  refine g_istore hZ dX8_setField_11 (by decide) ?_
  refine g_iload hZ dX8_setField_13 rfl ?_
  refine g_if_lt hZ 30 dX8_setField_15 rfl (by omega) (fun c => ?_) (fun c => ?_)
  · refine g_iload hZ dX8_setField_30 rfl ?_
    refine g_iret hZ dX8_setField_32 rfl ⟨rfl, p1, fun h => absurd h (by omega)⟩
  · obtain ⟨q1, q2⟩ := p2 (by omega)
    refine g_aload_n hZ dX8_setField_18 rfl ?_
    refine g_getr hZ fX8_54 rfl rfl dX8_setField_19 ?_
    refine g_aload_n hZ dX8_setField_22 rfl ?_
    refine g_getr hZ fX8_12 rfl rfl dX8_setField_23 ?_
    refine g_lload_n hZ dX8_setField_26 rfl ?_
    refine g_callV hZ (t_X2_record E S₁ w h n (hg.x q1 rfl) hs (hh.x q1 rfl rfl rfl rfl) x B x2) kX8_84 ⟨by decide, by decide⟩ rfl rfl rfl rfl (Nat.le_of_ble_eq_true rfl) dX8_setField_27 ?_
    rintro _ S₂ ⟨rfl, he₂, hh₂⟩
    refine g_iload hZ dX8_setField_30 rfl ?_
    refine g_iret hZ dX8_setField_32 rfl ⟨rfl, fun h => absurd h (by omega), fun _ => ⟨(q1.mono rfl).tr (he₂.mono rfl), q2.x he₂ rfl, hh₂⟩⟩
