/-! the class: BurningFields: length -/
theorem t_X8_length (E : gE) (S : gS) (w h n : Nat) (hg : xG S w h n) (B : Nat → Int) (hX : XB S n B) (hB : mBd B n) (hc : mC3 B n) (s : Int) (rs : R32 s) : Ct E LAY mX8_length [.ref (gad E 0), iV s] S (fun r S' => Eqx [6, 7, 10, 11, 12, 13, 14, 15, 16] S S' ∧ r = some (iV (aLen w n B s))) := by
  have hn := hg.n15
  obtain ⟨x, x1, x2⟩ := id hX
  refine Ct.intro LAY_ok (by decide +kernel) (Nat.le_of_ble_eq_true rfl) rfl ?_
  intro Z hZ
  refine g_iload_n hZ dX8_length_0 rfl ?_
  refine g_callS hZ (t_X8_isSide E S s rs) kX8_138 ⟨by decide, by decide⟩ rfl rfl (Nat.le_of_ble_eq_true rfl) dX8_length_1 ?_
  rintro _ _ ⟨rfl, z1, rfl, hz1⟩
  rcases hz1 with ⟨rfl, hz1⟩ | ⟨rfl, hz1⟩
  · have es : s = ((s.toNat : Nat) : Int) := by omega
    obtain ⟨s1, s2, s3⟩ := st_ok (s := s.toNat) true hn hB hc (by omega)
    have ex := s3 x x2
    refine g_if_ne hZ 11 dX8_length_4 rfl (by omega) (fun _ => ?_) (fun cX => absurd cX (by omega))
    refine g_aload_n hZ dX8_length_11 rfl ?_
    refine g_getr hZ fX8_30 rfl rfl dX8_length_12 ?_
    refine g_aload_n hZ dX8_length_15 rfl ?_
    refine g_getj hZ fX8_69 rfl rfl dX8_length_16 x1 ?_
    refine g_iload_n hZ dX8_length_19 rfl ?_
    refine g_callS hZ (As := [.ref (gad E 5), jV (x : Int), iV s]) (by have := t_X8_exploreAndSolveL E S w h n hg _ s1; rw [← ex, s2, ← es] at this; exact this) kX8_184 ⟨by decide, by decide⟩ rfl rfl (Nat.le_of_ble_eq_true rfl) dX8_length_20 ?_
    rintro _ S₁ ⟨he₁, z, rfl, hz⟩
    rcases hz with ⟨rfl, hb⟩ | ⟨rfl, L, hb, hPS, h0, hbok, hv⟩
    · have ea : aLen w n B s = -1004 := by unfold aLen stP; rw [if_pos hz1, hb]
      rw [ea] at hZ
      refine g_if_ne hZ 30 dX8_length_23 rfl (by omega) (fun cX => absurd (by omega) cX) (fun _ => ?_)
      refine g_sipush hZ (z := (-1004)) dX8_length_26 rfl ?_
      refine g_iret hZ dX8_length_29 rfl ⟨he₁, rfl⟩
    · have ea : aLen w n B s = ((GV w n true (cod B n + 1073741824 * (s.toNat - 1))).2 : Int) := by unfold aLen stP; rw [if_pos hz1, hb]
      have hv0 := (hv 0 _ h0).2
      rw [ea] at hZ
      refine g_if_ne hZ 30 dX8_length_23 rfl (by omega) (fun _ => ?_) (fun cX => absurd cX (by omega))
      refine g_aload_n hZ dX8_length_30 rfl ?_
      refine g_getr hZ fX8_30 rfl rfl dX8_length_31 ?_
      refine g_iconst hZ dX8_length_34 ?_
      refine g_callV hZ (As := [iV ((0 : Nat) : Int)]) (t_X4_restOfL E S₁ 0 (by omega) _ hv0) kX8_206 ⟨by decide, by decide⟩ rfl rfl rfl rfl (Nat.le_of_ble_eq_true rfl) dX8_length_35 ?_
      rintro _ _ ⟨rfl, rfl⟩
      refine g_iret hZ dX8_length_38 rfl ⟨he₁, rfl⟩
  · have ea : aLen w n B s = -1001 := by unfold aLen; rw [if_neg hz1]
    rw [ea] at hZ
    refine g_if_ne hZ 11 dX8_length_4 rfl (by omega) (fun cX => absurd (by omega) cX) (fun _ => ?_)
    refine g_sipush hZ (z := (-1001)) dX8_length_7 rfl ?_
    refine g_iret hZ dX8_length_10 rfl ⟨Eqx.rf, rfl⟩
