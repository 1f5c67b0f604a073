/-! the class: BurningFields: reset, moves, move -/
theorem XB.fill {S : gS} {n : Nat} {B : Nat → Int} (h : XB S n B) : ∃ x : Nat, S 0 0 = (x : Int) ∧ repX x n B := h
theorem t_X8_reset (E : gE) (S : gS) (w h n : Nat) (hg : xG S w h n) (B : Nat → Int) (hX : XB S n B) (hs : List hEn) (hh : XHs S hs) (W H : Int) (hW : R32 W) (hH : R32 H) : Ct E LAY mX8_reset [.ref (gad E 0), iV W, iV H] S (fun r S' => r = some (iV (aReset w h W H)) ∧ (aReset w h W H < 0 → S = S') ∧ (0 ≤ aReset w h W H → Eqx [0, 1, 2, 3, 4, 5, 32, 36, 37, 38, 39] S S' ∧ xG S' W.toNat H.toNat (W.toNat * H.toNat) ∧ XB S' (W.toNat * H.toNat) (fun k => if k < 15 then 0 else B k) ∧ XK S' [] ∧ XHs S' (hpush hs (w, h, B)))) := by
  obtain ⟨x, x1, x2⟩ := id hX
  refine Ct.intro LAY_ok (by decide +kernel) (Nat.le_of_ble_eq_true rfl) rfl ?_
  intro Z hZ
  refine g_iload_n hZ dX8_reset_0 rfl ?_
  refine g_iload_n hZ dX8_reset_1 rfl ?_
  refine g_callS hZ (t_X8_isBoardSize E S W H hW hH) kX8_73 ⟨by decide, by decide⟩ rfl rfl (Nat.le_of_ble_eq_true rfl) dX8_reset_2 ?_
  rintro _ _ ⟨rfl, z, rfl, hz⟩
  rcases hz with ⟨rfl, hz⟩ | ⟨rfl, hz⟩
  · have ea : aReset w h W H = 10 * (w : Int) + h := by unfold aReset; rw [if_pos hz]
    rw [ea] at hZ
    have eW : W = ((W.toNat : Nat) : Int) := by omega
    have eH : H = ((H.toNat : Nat) : Int) := by omega
    have hgO : gOK W.toNat H.toNat (W.toNat * H.toNat) := by
      refine ⟨by omega, by omega, by omega, by omega, rfl, ?_⟩
      have h5 := hz.2.2.2.2
      rw [eW, eH] at h5
      have : ((W.toNat * H.toNat : Nat) : Int) ≤ 15 := by rw [Int.natCast_mul]; exact h5
      omega
    refine g_if_ne hZ 12 dX8_reset_5 rfl (by omega) (fun _ => ?_) (fun cX => absurd cX (by omega))
    refine g_bipush hZ (z := 10) dX8_reset_12 rfl ?_
    refine g_aload_n hZ dX8_reset_14 rfl ?_
    refine g_getr hZ fX8_12 rfl rfl dX8_reset_15 ?_
    refine g_geti hZ fX8_77 rfl rfl dX8_reset_18 hg.1 ?_
    refine g_imul hZ dX8_reset_21 ?_
    refine g_aload_n hZ dX8_reset_22 rfl ?_
    refine g_getr hZ fX8_12 rfl rfl dX8_reset_23 ?_
    refine g_geti hZ fX8_81 rfl rfl dX8_reset_26 hg.2.1 ?_
    refine g_iadd hZ dX8_reset_29 ?_
    refine g_istore_n hZ dX8_reset_30 (by decide) ?_
    refine g_aload_n hZ dX8_reset_31 rfl ?_
    refine g_getr hZ fX8_54 rfl rfl dX8_reset_32 ?_
    refine g_aload_n hZ dX8_reset_35 rfl ?_
    refine g_getr hZ fX8_12 rfl rfl dX8_reset_36 ?_
    refine g_aload_n hZ dX8_reset_39 rfl ?_
    refine g_getj hZ fX8_69 rfl rfl dX8_reset_40 x1 ?_
    refine g_callV hZ (t_X2_record E S w h n hg hs hh x B x2) kX8_84 ⟨by decide, by decide⟩ rfl rfl rfl rfl (Nat.le_of_ble_eq_true rfl) dX8_reset_43 ?_
    rintro _ S₁ ⟨rfl, he₁, hh₁⟩
    refine g_aload_n hZ dX8_reset_46 rfl ?_
    refine g_getr hZ fX8_12 rfl rfl dX8_reset_47 ?_
    refine g_iload_n hZ dX8_reset_50 rfl ?_
    refine g_iload_n hZ dX8_reset_51 rfl ?_
    refine g_callV hZ (As := [iV W, iV H]) (by rw [eW, eH]; exact t_X1_resize E LAY (Or.inr rfl) S₁ W.toNat H.toNat (W.toNat * H.toNat) hgO) kX8_65 ⟨by decide, by decide⟩ rfl rfl rfl rfl (Nat.le_of_ble_eq_true rfl) dX8_reset_52 ?_
    rintro _ S₂ ⟨rfl, he₂, hg₂⟩
    refine g_aload_n hZ dX8_reset_55 rfl ?_
    refine g_lconst hZ (z := 0) dX8_reset_56 rfl ?_
    refine g_putj hZ fX8_69 rfl rfl dX8_reset_57 ?_
    refine g_aload_n hZ dX8_reset_60 rfl ?_
    refine g_getr hZ fX8_47 rfl rfl dX8_reset_61 ?_
    refine g_callV hZ (t_X7_empty E _) kX8_88 ⟨by decide, by decide⟩ rfl rfl rfl rfl (Nat.le_of_ble_eq_true rfl) dX8_reset_64 ?_
    rintro _ S₃ ⟨rfl, he₃, hk₃⟩
    have e0 : S₃ 0 0 = ((0 : Nat) : Int) := (he₃ 0 0 rfl).trans (upS_eq _ _ _ _)
    have he₂₃ : Eqx [0, 32] S₂ S₃ := (Eqx.rf.up rfl).tr (he₃.mono rfl)
    refine g_iload_n hZ dX8_reset_67 rfl ?_
    refine g_iret hZ dX8_reset_68 rfl ⟨rfl, fun q => absurd q (by omega), fun _ => ⟨((he₁.mono rfl).tr (he₂.mono rfl)).tr (he₂₃.mono rfl), hg₂.x he₂₃ rfl, ⟨0, e0, rep_cong (rep_0 _) (fun k hk => ?_)⟩, hk₃, (hh₁.x he₂ rfl rfl rfl rfl).x he₂₃ rfl rfl rfl rfl⟩⟩
    have := hgO.2.2.2.2.2
    rw [if_pos (by omega)]
  · have ea : aReset w h W H = -1001 := by unfold aReset; rw [if_neg hz]
    rw [ea] at hZ
    refine g_if_ne hZ 12 dX8_reset_5 rfl (by omega) (fun cX => absurd (by omega) cX) (fun _ => ?_)
    refine g_sipush hZ (z := (-1001)) dX8_reset_8 rfl ?_
    refine g_iret hZ dX8_reset_11 rfl ⟨rfl, fun _ => rfl, fun q => absurd q (by omega)⟩
theorem t_X8_moves (E : gE) (S : gS) (w h n : Nat) (hg : xG S w h n) (B : Nat → Int) (hX : XB S n B) (hB : mBd B n) (hc : mC3 B n) (s : Int) (rs : R32 s) : Ct E LAY mX8_moves [.ref (gad E 0), iV s] S (fun r S' => Eqx [6, 7] S S' ∧ r = some (iV (if s = 1 ∨ s = 2 then ((mvs w n B s).length : Int) else -1001))) := by
  obtain ⟨x, x1, x2⟩ := id hX
  refine Ct.intro LAY_ok (by decide +kernel) (Nat.le_of_ble_eq_true rfl) rfl ?_
  intro Z hZ
  refine g_iload_n hZ dX8_moves_0 rfl ?_
  refine g_callS hZ (t_X8_isSide E S s rs) kX8_138 ⟨by decide, by decide⟩ rfl rfl (Nat.le_of_ble_eq_true rfl) dX8_moves_1 ?_
  rintro _ _ ⟨rfl, z1, rfl, hz1⟩
  rcases hz1 with ⟨rfl, hz1⟩ | ⟨rfl, hz1⟩
  · have es : s = ((s.toNat : Nat) : Int) := by omega
    rw [if_pos hz1] at hZ
    refine g_if_ne hZ 11 dX8_moves_4 rfl (by omega) (fun _ => ?_) (fun cX => absurd cX (by omega))
    refine g_aload_n hZ dX8_moves_11 rfl ?_
    refine g_getr hZ fX8_21 rfl rfl dX8_moves_12 ?_
    refine g_aload_n hZ dX8_moves_15 rfl ?_
    refine g_getj hZ fX8_69 rfl rfl dX8_moves_16 x1 ?_
    refine g_iload_n hZ dX8_moves_19 rfl ?_
    refine g_callV hZ (As := [jV (x : Int), iV s]) (by have := t_X3_fill E S w h n hg x B x2 hB s.toNat (by omega) (by rw [← es]; exact hc.s hz1); rw [← es] at this; exact this) kX8_141 ⟨by decide, by decide⟩ rfl rfl rfl rfl (Nat.le_of_ble_eq_true rfl) dX8_moves_20 ?_
    rintro _ S₁ ⟨rfl, he₁, hx₁⟩
    refine g_aload_n hZ dX8_moves_23 rfl ?_
    refine g_getr hZ fX8_21 rfl rfl dX8_moves_24 ?_
    refine g_geti hZ fX8_145 rfl rfl dX8_moves_27 hx₁.1 ?_
    refine g_iret hZ dX8_moves_30 rfl ⟨he₁, rfl⟩
  · rw [if_neg hz1] at hZ
    refine g_if_ne hZ 11 dX8_moves_4 rfl (by omega) (fun cX => absurd (by omega) cX) (fun _ => ?_)
    refine g_sipush hZ (z := (-1001)) dX8_moves_7 rfl ?_
    refine g_iret hZ dX8_moves_10 rfl ⟨Eqx.rf, rfl⟩
theorem t_X8_moveAt (E : gE) (S : gS) (w h n : Nat) (hg : xG S w h n) (B : Nat → Int) (hX : XB S n B) (hB : mBd B n) (hc : mC3 B n) (s i v : Int) (rs : R32 s) (ri : R32 i) (rv : R32 v) : Ct E LAY mX8_moveAt [.ref (gad E 0), iV s, iV i, iV v] S (fun r S' => Eqx [6, 7] S S' ∧ r = some (iV (aMoveAt w n B s i v))) := by
  have hn := hg.n15
  have hO := hg.o
  obtain ⟨x, x1, x2⟩ := id hX
  refine Ct.intro LAY_ok (by decide +kernel) (Nat.le_of_ble_eq_true rfl) rfl ?_
  intro Z hZ
  have no : ¬ ((s = 1 ∨ s = 2) ∧ 0 ≤ i ∧ 0 ≤ v ∧ v ≤ 2) → Z S [(0, .ref (gad E 0)), (1, iV s), (2, iV i), (3, iV v)] 20 [] := by
    intro hno
    have ea : aMoveAt w n B s i v = -1001 := by unfold aMoveAt; rw [if_neg hno]
    rw [ea] at hZ
    refine g_sipush hZ (z := (-1001)) dX8_moveAt_20 rfl ?_
    refine g_iret hZ dX8_moveAt_23 rfl ⟨Eqx.rf, rfl⟩
  refine g_iload_n hZ dX8_moveAt_0 rfl ?_
  refine g_callS hZ (t_X8_isSide E S s rs) kX8_138 ⟨by decide, by decide⟩ rfl rfl (Nat.le_of_ble_eq_true rfl) dX8_moveAt_1 ?_
  rintro _ _ ⟨rfl, z1, rfl, hz1⟩
  rcases hz1 with ⟨rfl, hz1⟩ | ⟨rfl, hz1⟩
  · refine g_if_eq hZ 20 dX8_moveAt_4 rfl (by omega) (fun cX => absurd cX (by omega)) (fun _ => ?_)
    refine g_iload_n hZ dX8_moveAt_7 rfl ?_
    refine g_if_lt hZ 20 dX8_moveAt_8 rfl (by omega) (fun c1 => ?_) (fun c1 => ?_)
    · exact no (fun q => by omega)
    · refine g_iload_n hZ dX8_moveAt_11 rfl ?_
      refine g_if_lt hZ 20 dX8_moveAt_12 rfl (by omega) (fun c2 => ?_) (fun c2 => ?_)
      · exact no (fun q => by omega)
      · refine g_iload_n hZ dX8_moveAt_15 rfl ?_
        refine g_iconst hZ dX8_moveAt_16 ?_
        refine g_icmp_le hZ 24 dX8_moveAt_17 rfl (by omega) (fun c3 => ?_) (fun c3 => ?_)
        · have es : s = ((s.toNat : Nat) : Int) := by omega
          have ei : i = ((i.toNat : Nat) : Int) := by omega
          have hml := mvs_bound hn (hc.s hz1) (w := w)
          have ea1 : ∀ q, (mvs w n B s)[i.toNat]? = some q → aMoveAt w n B s i v = mpart q v := fun q hq => by unfold aMoveAt; rw [if_pos ⟨hz1, by omega, by omega, by omega⟩, hq]
          have ea0 : (mvs w n B s)[i.toNat]? = none → aMoveAt w n B s i v = -1005 := fun hq => by unfold aMoveAt; rw [if_pos ⟨hz1, by omega, by omega, by omega⟩, hq]
          refine g_aload_n hZ dX8_moveAt_24 rfl ?_
          refine g_getr hZ fX8_21 rfl rfl dX8_moveAt_25 ?_
          refine g_aload_n hZ dX8_moveAt_28 rfl ?_
          refine g_getj hZ fX8_69 rfl rfl dX8_moveAt_29 x1 ?_
          refine g_iload_n hZ dX8_moveAt_32 rfl ?_
          refine g_callV hZ (As := [jV (x : Int), iV s]) (by have := t_X3_fill E S w h n hg x B x2 hB s.toNat (by omega) (by rw [← es]; exact hc.s hz1); rw [← es] at this; exact this) kX8_141 ⟨by decide, by decide⟩ rfl rfl rfl rfl (Nat.le_of_ble_eq_true rfl) dX8_moveAt_33 ?_
          rintro _ S₁ ⟨rfl, he₁, hx₁⟩
          refine g_iload_n hZ dX8_moveAt_36 rfl ?_
          refine g_aload_n hZ dX8_moveAt_37 rfl ?_
          refine g_getr hZ fX8_21 rfl rfl dX8_moveAt_38 ?_
          refine g_geti hZ fX8_145 rfl rfl dX8_moveAt_41 hx₁.1 ?_
          refine g_icmp_lt hZ 51 dX8_moveAt_44 rfl (by omega) (fun c4 => ?_) (fun c4 => ?_)
          · obtain ⟨q, hq⟩ : ∃ q, (mvs w n B s)[i.toNat]? = some q := ⟨_, List.getElem?_eq_getElem (by omega)⟩
            have hin := mvs_in (List.mem_of_getElem? hq)
            have hqx := hx₁.2 i.toNat q hq
            rw [ea1 q hq] at hZ
            refine g_iload_n hZ dX8_moveAt_51 rfl ?_
            refine g_if_ne hZ 64 dX8_moveAt_52 rfl (by omega) (fun c5 => ?_) (fun c5 => ?_)
            · refine g_iload_n hZ dX8_moveAt_64 rfl ?_
              refine g_iconst hZ dX8_moveAt_65 ?_
              refine g_icmp_ne hZ 80 dX8_moveAt_66 rfl (by omega) (fun c6 => ?_) (fun c6 => ?_)
              · have hv : v = 2 := by omega
                refine g_aload_n hZ dX8_moveAt_80 rfl ?_
                refine g_getr hZ fX8_21 rfl rfl dX8_moveAt_81 ?_
                refine g_iload_n hZ dX8_moveAt_84 rfl ?_
                refine g_callV hZ (As := [iV i]) (by rw [ei]; exact t_X3_burntOf E S₁ i.toNat (by omega) q hqx (by omega) (by omega) (by omega)) kX8_152 ⟨by decide, by decide⟩ rfl rfl rfl rfl (Nat.le_of_ble_eq_true rfl) dX8_moveAt_85 ?_
                rintro _ _ ⟨rfl, rfl⟩
                refine g_iret hZ dX8_moveAt_88 rfl ⟨he₁, by rw [hv]; rfl⟩
              · have hv : v = 1 := by omega
                refine g_aload_n hZ dX8_moveAt_69 rfl ?_
                refine g_getr hZ fX8_21 rfl rfl dX8_moveAt_70 ?_
                refine g_iload_n hZ dX8_moveAt_73 rfl ?_
                refine g_callV hZ (As := [iV i]) (by rw [ei]; exact t_X3_toOf E S₁ i.toNat (by omega) q hqx (by omega) (by omega) (by omega)) kX8_149 ⟨by decide, by decide⟩ rfl rfl rfl rfl (Nat.le_of_ble_eq_true rfl) dX8_moveAt_74 ?_
                rintro _ _ ⟨rfl, rfl⟩
                refine g_goto hZ 88 dX8_moveAt_77 rfl ?_
                refine g_iret hZ dX8_moveAt_88 rfl ⟨he₁, by rw [hv]; rfl⟩
            · have hv : v = 0 := by omega
              refine g_aload_n hZ dX8_moveAt_55 rfl ?_
              refine g_getr hZ fX8_21 rfl rfl dX8_moveAt_56 ?_
              refine g_iload_n hZ dX8_moveAt_59 rfl ?_
              refine g_callV hZ (As := [iV i]) (by rw [ei]; exact t_X3_fromOf E S₁ i.toNat (by omega) q hqx (by omega) (by omega) (by omega)) kX8_146 ⟨by decide, by decide⟩ rfl rfl rfl rfl (Nat.le_of_ble_eq_true rfl) dX8_moveAt_60 ?_
              rintro _ _ ⟨rfl, rfl⟩
              refine g_iret hZ dX8_moveAt_63 rfl ⟨he₁, by rw [hv]; rfl⟩
          · rw [ea0 (List.getElem?_eq_none (by omega))] at hZ
            refine g_sipush hZ (z := (-1005)) dX8_moveAt_47 rfl ?_
            refine g_iret hZ dX8_moveAt_50 rfl ⟨he₁, rfl⟩
        · exact no (fun q => by omega)
  · refine g_if_eq hZ 20 dX8_moveAt_4 rfl (by omega) (fun _ => ?_) (fun cX => absurd (by omega) cX)
    exact no (fun q => hz1 q.1)
theorem t_X8_makeMove (E : gE) (S : gS) (w h n : Nat) (hg : xG S w h n) (B : Nat → Int) (hX : XB S n B) (hB : mBd B n) (hc : mC3 B n) (s a t u : Int) (rs : R32 s) (ra : R32 a) (rt : R32 t) (ru : R32 u) : Ct E LAY mX8_makeMove [.ref (gad E 0), iV s, iV a, iV t, iV u] S (fun r S' => r = some (iV (aMove w n B s a t u)) ∧ (aMove w n B s a t u < 0 → Eqx [6, 7] S S') ∧ (0 ≤ aMove w n B s a t u → Eqx [0, 6, 7] S S' ∧ XB S' n (aftB B (a.toNat, t.toNat, u.toNat) s))) := by
  have hn := hg.n15
  have hO := hg.o
  obtain ⟨x, x1, x2⟩ := id hX
  refine Ct.intro LAY_ok (by decide +kernel) (Nat.le_of_ble_eq_true rfl) rfl ?_
  intro Z hZ
  have no : ¬ ((s = 1 ∨ s = 2) ∧ 0 ≤ a ∧ a < n ∧ 0 ≤ t ∧ t < n ∧ 0 ≤ u ∧ u < n) → Z S [(0, .ref (gad E 0)), (1, iV s), (2, iV a), (3, iV t), (4, iV u)] 41 [] := by
    intro hno
    have ea : aMove w n B s a t u = -1001 := by unfold aMove; rw [if_neg hno]
    rw [ea] at hZ
    refine g_sipush hZ (z := (-1001)) dX8_makeMove_41 rfl ?_
    refine g_iret hZ dX8_makeMove_44 rfl ⟨rfl, fun _ => Eqx.rf, fun q => absurd q (by omega)⟩
  refine g_iload_n hZ dX8_makeMove_0 rfl ?_
  refine g_callS hZ (t_X8_isSide E S s rs) kX8_138 ⟨by decide, by decide⟩ rfl rfl (Nat.le_of_ble_eq_true rfl) dX8_makeMove_1 ?_
  rintro _ _ ⟨rfl, z1, rfl, hz1⟩
  rcases hz1 with ⟨rfl, hz1⟩ | ⟨rfl, hz1⟩
  · refine g_if_eq hZ 41 dX8_makeMove_4 rfl (by omega) (fun cX => absurd cX (by omega)) (fun _ => ?_)
    refine g_aload_n hZ dX8_makeMove_7 rfl ?_
    refine g_getr hZ fX8_12 rfl rfl dX8_makeMove_8 ?_
    refine g_iload_n hZ dX8_makeMove_11 rfl ?_
    refine g_callV hZ (t_X1_has E S n hg.2.2.1 hn a ra) kX8_95 ⟨by decide, by decide⟩ rfl rfl rfl rfl (Nat.le_of_ble_eq_true rfl) dX8_makeMove_12 ?_
    rintro _ _ ⟨rfl, z2, rfl, hz2⟩
    rcases hz2 with ⟨rfl, hz2⟩ | ⟨rfl, hz2⟩
    · refine g_if_eq hZ 41 dX8_makeMove_15 rfl (by omega) (fun cX => absurd cX (by omega)) (fun _ => ?_)
      refine g_aload_n hZ dX8_makeMove_18 rfl ?_
      refine g_getr hZ fX8_12 rfl rfl dX8_makeMove_19 ?_
      refine g_iload_n hZ dX8_makeMove_22 rfl ?_
      refine g_callV hZ (t_X1_has E S n hg.2.2.1 hn t rt) kX8_95 ⟨by decide, by decide⟩ rfl rfl rfl rfl (Nat.le_of_ble_eq_true rfl) dX8_makeMove_23 ?_
      rintro _ _ ⟨rfl, z3, rfl, hz3⟩
      rcases hz3 with ⟨rfl, hz3⟩ | ⟨rfl, hz3⟩
      · refine g_if_eq hZ 41 dX8_makeMove_26 rfl (by omega) (fun cX => absurd cX (by omega)) (fun _ => ?_)
        refine g_aload_n hZ dX8_makeMove_29 rfl ?_
        refine g_getr hZ fX8_12 rfl rfl dX8_makeMove_30 ?_
        refine g_iload hZ dX8_makeMove_33 rfl ?_
        refine g_callV hZ (t_X1_has E S n hg.2.2.1 hn u ru) kX8_95 ⟨by decide, by decide⟩ rfl rfl rfl rfl (Nat.le_of_ble_eq_true rfl) dX8_makeMove_35 ?_
        rintro _ _ ⟨rfl, z4, rfl, hz4⟩
        rcases hz4 with ⟨rfl, hz4⟩ | ⟨rfl, hz4⟩
        · have hin : (s = 1 ∨ s = 2) ∧ 0 ≤ a ∧ a < n ∧ 0 ≤ t ∧ t < n ∧ 0 ≤ u ∧ u < n := ⟨hz1, hz2.1, hz2.2, hz3.1, hz3.2, hz4.1, hz4.2⟩
          have es : s = ((s.toNat : Nat) : Int) := by omega
          have ea : a = ((a.toNat : Nat) : Int) := by omega
          have et : t = ((t.toNat : Nat) : Int) := by omega
          have eu : u = ((u.toNat : Nat) : Int) := by omega
          have hml := mvs_bound hn (hc.s hz1) (w := w)
          refine g_if_ne hZ 45 dX8_makeMove_38 rfl (by omega) (fun _ => ?_) (fun cX => absurd cX (by omega))
          refine g_aload_n hZ dX8_makeMove_45 rfl ?_
          refine g_getr hZ fX8_21 rfl rfl dX8_makeMove_46 ?_
          refine g_aload_n hZ dX8_makeMove_49 rfl ?_
          refine g_getj hZ fX8_69 rfl rfl dX8_makeMove_50 x1 ?_
          refine g_iload_n hZ dX8_makeMove_53 rfl ?_
          refine g_callV hZ (As := [jV (x : Int), iV s]) (by have := t_X3_fill E S w h n hg x B x2 hB s.toNat (by omega) (by rw [← es]; exact hc.s hz1); rw [← es] at this; exact this) kX8_141 ⟨by decide, by decide⟩ rfl rfl rfl rfl (Nat.le_of_ble_eq_true rfl) dX8_makeMove_54 ?_
          rintro _ S₁ ⟨rfl, he₁, hx₁⟩
          have x1₁ : S₁ 0 0 = (x : Int) := (he₁ 0 0 rfl).trans x1
          have hg₁ := hg.x he₁ rfl
          refine g_aload_n hZ dX8_makeMove_57 rfl ?_
          refine g_getr hZ fX8_21 rfl rfl dX8_makeMove_58 ?_
          refine g_iload_n hZ dX8_makeMove_61 rfl ?_
          refine g_iload_n hZ dX8_makeMove_62 rfl ?_
          refine g_iload hZ dX8_makeMove_63 rfl ?_
          refine g_callV hZ (As := [iV a, iV t, iV u]) (by have := t_X3_find E S₁ _ hx₁ hml (fun q hq => by have := mvs_in hq; omega) (a.toNat, t.toNat, u.toNat) (by show a.toNat < 15; omega) (by show t.toNat < 15; omega) (by show u.toNat < 15; omega); dsimp only at this; rw [← ea, ← et, ← eu] at this; exact this) kX8_239 ⟨by decide, by decide⟩ rfl rfl rfl rfl (Nat.le_of_ble_eq_true rfl) dX8_makeMove_65 ?_
          rintro _ _ ⟨rfl, z5, rfl, hz5⟩
          rcases hz5 with ⟨i, hi, rfl⟩ | ⟨hni, rfl⟩
          · have hil := (List.getElem?_eq_some_iff.mp hi).1
            have hmem := List.mem_of_getElem? hi
            have e9 : aMove w n B s a t u = ((mvs w n (aftB B (a.toNat, t.toNat, u.toNat) s) (3 - s)).length : Int) := by unfold aMove; rw [if_pos hin, if_pos hmem]
            rw [e9] at hZ
            have hs3 : 3 - s = 1 ∨ 3 - s = 2 := by omega
            refine g_istore hZ dX8_makeMove_68 (by decide) ?_
            refine g_iload hZ dX8_makeMove_70 rfl ?_
            refine g_iconst hZ dX8_makeMove_72 ?_
            refine g_icmp_ne hZ 80 dX8_makeMove_73 rfl (by omega) (fun _ => ?_) (fun cX => absurd cX (by omega))
            refine g_aload_n hZ dX8_makeMove_80 rfl ?_
            refine g_aload_n hZ dX8_makeMove_81 rfl ?_
            refine g_getr hZ fX8_21 rfl rfl dX8_makeMove_82 ?_
            refine g_aload_n hZ dX8_makeMove_85 rfl ?_
            refine g_getj hZ fX8_69 rfl rfl dX8_makeMove_86 x1₁ ?_
            refine g_iload_n hZ dX8_makeMove_89 rfl ?_
            refine g_iload hZ dX8_makeMove_90 rfl ?_
            refine g_callV hZ (As := [jV (x : Int), iV s, iV (i : Int)]) (by have := t_X3_after E S₁ w h n hO x B x2 s.toNat (by omega) i (by omega) (a.toNat, t.toNat, u.toNat) (hx₁.2 i _ hi) (by rw [← es]; exact hmem); rw [← es] at this; exact this) kX8_199 ⟨by decide, by decide⟩ rfl rfl rfl rfl (Nat.le_of_ble_eq_true rfl) dX8_makeMove_92 ?_
            rintro _ _ ⟨rfl, y, rfl, hy⟩
            refine g_putj hZ fX8_69 rfl rfl dX8_makeMove_95 ?_
            refine g_aload_n hZ dX8_makeMove_98 rfl ?_
            refine g_getr hZ fX8_21 rfl rfl dX8_makeMove_99 ?_
            refine g_aload_n hZ dX8_makeMove_102 rfl ?_
            refine g_getj hZ fX8_69 rfl rfl dX8_makeMove_103 (upS_eq _ _ _ _) ?_
            refine g_iload_n hZ dX8_makeMove_106 rfl ?_
            refine g_callS hZ (t_X8_otherSide E _ s) kX8_176 ⟨by decide, by decide⟩ rfl rfl (Nat.le_of_ble_eq_true rfl) dX8_makeMove_107 ?_
            rintro _ _ ⟨rfl, rfl⟩
            have hbd : mBd (aftB B (a.toNat, t.toNat, u.toNat) s) n := aftB_bd hB hz1
            have hcn : cntZ (aftB B (a.toNat, t.toNat, u.toNat) s) (3 - s) n ≤ 3 := by rw [aftB_cnt hO hz1 hmem hs3]; exact hc.s hs3
            have es3 : 3 - s = (((3 - s).toNat : Nat) : Int) := by omega
            have hgU : xG (upS S₁ 0 0 (y : Int)) w h n := hg₁.x (vs := [0]) (Eqx.rf.up rfl) rfl
            refine g_callV hZ (As := [jV (y : Int), iV (3 - s)]) (by have := t_X3_fill E (upS S₁ 0 0 (y : Int)) w h n hgU y _ hy hbd (3 - s).toNat (by omega) (by rw [← es3]; exact hcn); rw [← es3] at this; exact this) kX8_141 ⟨by decide, by decide⟩ rfl rfl rfl rfl (Nat.le_of_ble_eq_true rfl) dX8_makeMove_110 ?_
            rintro _ S₂ ⟨rfl, he₂, hx₂⟩
            refine g_aload_n hZ dX8_makeMove_113 rfl ?_
            refine g_getr hZ fX8_21 rfl rfl dX8_makeMove_114 ?_
            refine g_geti hZ fX8_145 rfl rfl dX8_makeMove_117 hx₂.1 ?_
            refine g_iret hZ dX8_makeMove_120 rfl ⟨rfl, fun q => absurd q (by omega), fun _ => ⟨((he₁.mono rfl).up rfl).tr (he₂.mono rfl), y, (he₂ 0 0 rfl).trans (upS_eq _ _ _ _), hy⟩⟩
          · have e9 : aMove w n B s a t u = -1002 := by unfold aMove; rw [if_pos hin, if_neg hni]
            rw [e9] at hZ
            refine g_istore hZ dX8_makeMove_68 (by decide) ?_
            refine g_iload hZ dX8_makeMove_70 rfl ?_
            refine g_iconst hZ dX8_makeMove_72 ?_
            refine g_icmp_ne hZ 80 dX8_makeMove_73 rfl (by omega) (fun cX => absurd (by omega) cX) (fun _ => ?_)
            refine g_sipush hZ (z := (-1002)) dX8_makeMove_76 rfl ?_
            refine g_iret hZ dX8_makeMove_79 rfl ⟨rfl, fun _ => he₁, fun q => absurd q (by omega)⟩
        · refine g_if_ne hZ 45 dX8_makeMove_38 rfl (by omega) (fun cX => absurd (by omega) cX) (fun _ => ?_)
          exact no (by omega)
      · refine g_if_eq hZ 41 dX8_makeMove_26 rfl (by omega) (fun _ => ?_) (fun cX => absurd (by omega) cX)
        exact no (by omega)
    · refine g_if_eq hZ 41 dX8_makeMove_15 rfl (by omega) (fun _ => ?_) (fun cX => absurd (by omega) cX)
      exact no (by omega)
  · refine g_if_eq hZ 41 dX8_makeMove_4 rfl (by omega) (fun _ => ?_) (fun cX => absurd (by omega) cX)
    exact no (fun q => hz1 q.1)
theorem t_X8_move (E : gE) (S : gS) (w h n : Nat) (hg : xG S w h n) (B : Nat → Int) (hX : XB S n B) (hB : mBd B n) (hc : mC3 B n) (hs : List hEn) (hh : XHs S hs) (s a t u : Int) (rs : R32 s) (ra : R32 a) (rt : R32 t) (ru : R32 u) : Ct E LAY mX8_move [.ref (gad E 0), iV s, iV a, iV t, iV u] S (fun r S' => r = some (iV (aMove w n B s a t u)) ∧ (aMove w n B s a t u < 0 → Eqx [6, 7] S S') ∧ (0 ≤ aMove w n B s a t u → Eqx [0, 6, 7, 36, 37, 38, 39] S S' ∧ XB S' n (aftB B (a.toNat, t.toNat, u.toNat) s) ∧ XHs S' (hpush hs (w, h, B)))) := by
  obtain ⟨x, x1, x2⟩ := id hX
  have hn := hg.n15
  have hr : R32 (aMove w n B s a t u) := by
    unfold aMove
    split
    · rename_i q
      split
      · rename_i q2
        have hs3 : 3 - s = 1 ∨ 3 - s = 2 := by omega
        have := mvs_bound (w := w) (B := aftB B (a.toNat, t.toNat, u.toNat) s) (s := 3 - s) hn (by rw [aftB_cnt hg.o q.1 q2 hs3]; exact hc.s hs3)
        omega
      · omega
    · omega
  refine Ct.intro LAY_ok (by decide +kernel) (Nat.le_of_ble_eq_true rfl) rfl ?_
  intro Z hZ
  refine g_aload_n hZ dX8_move_0 rfl ?_
  refine g_getj hZ fX8_69 rfl rfl dX8_move_1 x1 ?_
  refine g_lstore hZ dX8_move_4 (by decide) ?_
  refine g_aload_n hZ dX8_move_6 rfl ?_
  refine g_iload_n hZ dX8_move_7 rfl ?_
  refine g_iload_n hZ dX8_move_8 rfl ?_
  refine g_iload_n hZ dX8_move_9 rfl ?_
  refine g_iload hZ dX8_move_10 rfl ?_
  refine g_callV hZ (t_X8_makeMove E S w h n hg B hX hB hc s a t u rs ra rt ru) kX8_134 ⟨by decide, by decide⟩ rfl rfl rfl rfl (Nat.le_of_ble_eq_true rfl) dX8_move_12 ?_
  rintro _ S₁ ⟨rfl, p1, p2⟩
  generalize aMove w n B s a t u = ans at *
  refine g_istore hZ dX8_move_15 (by decide) ?_
  refine g_iload hZ dX8_move_17 rfl ?_
  refine g_if_lt hZ 35 dX8_move_19 rfl (by omega) (fun c => ?_) (fun c => ?_)
  · refine g_iload hZ dX8_move_35 rfl ?_
    refine g_iret hZ dX8_move_37 rfl ⟨rfl, p1, fun q => absurd q (by omega)⟩
  · obtain ⟨q1, q2⟩ := p2 (by omega)
    refine g_aload_n hZ dX8_move_22 rfl ?_
    refine g_getr hZ fX8_54 rfl rfl dX8_move_23 ?_
    refine g_aload_n hZ dX8_move_26 rfl ?_
    refine g_getr hZ fX8_12 rfl rfl dX8_move_27 ?_
    refine g_lload hZ dX8_move_30 rfl ?_
    refine g_callV hZ (t_X2_record E S₁ w h n (hg.x q1 rfl) hs (hh.x q1 rfl rfl rfl rfl) x B x2) kX8_84 ⟨by decide, by decide⟩ rfl rfl rfl rfl (Nat.le_of_ble_eq_true rfl) dX8_move_32 ?_
    rintro _ S₂ ⟨rfl, he₂, hh₂⟩
    refine g_iload hZ dX8_move_35 rfl ?_
    refine g_iret hZ dX8_move_37 rfl ⟨rfl, fun q => absurd q (by omega), fun _ => ⟨(q1.mono rfl).tr (he₂.mono rfl), q2.x he₂ rfl, hh₂⟩⟩
