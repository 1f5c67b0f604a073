/-! the class: BurningFields: positions, wins, outcomes -/
theorem st_ok {n s : Nat} {A : Nat → Int} (alt : Bool) (hn : n ≤ 15) (hA : mBd A n) (hc : mC3 A n) (hs : s = 1 ∨ s = 2) : qP n alt (cod A n + 1073741824 * (s - 1)) (cod A n + 1073741824 * (s - 1)) ∧ sdP (cod A n + 1073741824 * (s - 1)) = s ∧ ∀ x, repX x n A → x = xP n (cod A n + 1073741824 * (s - 1)) := by
  have hcl := cod_lt30 hn hA
  have hv := vP_start (s := s) hn hcl (cod_c3 hA hc) hs
  have hsd : sdP (cod A n + 1073741824 * (s - 1)) = s := by rw [sdP_side hcl (by omega)]; omega
  have hbp : ∀ k, k < n → bdP (cod A n + 1073741824 * (s - 1)) k = A k := fun k hk => by rw [bdP_side (by omega), bdP_cod hA hk]
  refine ⟨⟨hv, Nat.le_refl _, ?_, ?_⟩, hsd, fun x hx => rep_eq hx (rep_cong (xP_ok n _) hbp)⟩
  · rw [Nat.sub_self]; rfl
  · rw [hsd, cod_cong hbp]
theorem t_X8_wins (E : gE) (S : gS) (w h n : Nat) (hg : xG S w h n) (B : Nat → Int) (hX : XB S n B) (hB : mBd B n) (hc : mC3 B n) (s : Int) (rs : R32 s) : Ct E LAY mX8_wins [.ref (gad E 0), iV s] S (fun r S' => Eqx [6, 7, 10, 11, 12, 13, 14, 15, 16] S S' ∧ r = some (iV (aWins w n B s))) := by
  have hn := hg.n15
  obtain ⟨x, x1, x2⟩ := id hX
  refine Ct.intro LAY_ok (by decide +kernel) (Nat.le_of_ble_eq_true rfl) rfl ?_
  intro Z hZ
  refine g_iload_n hZ dX8_wins_0 rfl ?_
  refine g_callS hZ (t_X8_isSide E S s rs) kX8_138 ⟨by decide, by decide⟩ rfl rfl (Nat.le_of_ble_eq_true rfl) dX8_wins_1 ?_
  rintro _ _ ⟨rfl, z1, rfl, hz1⟩
  rcases hz1 with ⟨rfl, hz1⟩ | ⟨rfl, hz1⟩
  · have es : s = ((s.toNat : Nat) : Int) := by omega
    obtain ⟨s1, s2, s3⟩ := st_ok (s := s.toNat) true hn hB hc (by omega)
    have ex := s3 x x2
    refine g_if_ne hZ 11 dX8_wins_4 rfl (by omega) (fun _ => ?_) (fun cX => absurd cX (by omega))
    refine g_aload_n hZ dX8_wins_11 rfl ?_
    refine g_getr hZ fX8_30 rfl rfl dX8_wins_12 ?_
    refine g_aload_n hZ dX8_wins_15 rfl ?_
    refine g_getj hZ fX8_69 rfl rfl dX8_wins_16 x1 ?_
    refine g_iload_n hZ dX8_wins_19 rfl ?_
    refine g_callS hZ (As := [.ref (gad E 5), jV (x : Int), iV s]) (by have := t_X8_exploreAndSolveL E S w h n hg _ s1; rw [← ex, s2, ← es] at this; exact this) kX8_184 ⟨by decide, by decide⟩ rfl rfl (Nat.le_of_ble_eq_true rfl) dX8_wins_20 ?_
    rintro _ S₁ ⟨he₁, z, rfl, hz⟩
    rcases hz with ⟨rfl, hb⟩ | ⟨rfl, L, hb, hPS, h0, hbok, hv⟩
    · have ea : aWins w n B s = -1004 := by unfold aWins winF; rw [if_pos hz1, hb]
      rw [ea] at hZ
      refine g_if_ne hZ 30 dX8_wins_23 rfl (by omega) (fun cX => absurd (by omega) cX) (fun _ => ?_)
      refine g_sipush hZ (z := (-1004)) dX8_wins_26 rfl ?_
      refine g_iret hZ dX8_wins_29 rfl ⟨he₁, rfl⟩
    · have ea : aWins w n B s = b2i (GV w n true (cod B n + 1073741824 * (s.toNat - 1))).1 := by unfold aWins winF; rw [if_pos hz1, hb]
      have hv0 := (hv 0 _ h0).1
      rw [ea] at hZ
      refine g_if_ne hZ 30 dX8_wins_23 rfl (by omega) (fun _ => ?_) (fun cX => absurd cX (by omega))
      refine g_aload_n hZ dX8_wins_30 rfl ?_
      refine g_getr hZ fX8_30 rfl rfl dX8_wins_31 ?_
      refine g_iconst hZ dX8_wins_34 ?_
      refine g_callV hZ (As := [iV ((0 : Nat) : Int)]) (t_X4_isWonL E S₁ 0 (by omega) _ hv0 (b2i_01 _)) kX8_188 ⟨by decide, by decide⟩ rfl rfl rfl rfl (Nat.le_of_ble_eq_true rfl) dX8_wins_35 ?_
      rintro _ _ ⟨rfl, rfl⟩
      cases hgw : (GV w n true (cod B n + 1073741824 * (s.toNat - 1))).1 with
      | true =>
        rw [hgw] at hZ
        refine g_if_eq hZ 45 dX8_wins_38 rfl ⟨by decide, by decide⟩ (fun cX => absurd cX (by decide)) (fun _ => ?_)
        refine g_iconst hZ dX8_wins_41 ?_
        refine g_goto hZ 46 dX8_wins_42 rfl ?_
        refine g_iret hZ dX8_wins_46 rfl ⟨he₁, rfl⟩
      | false =>
        rw [hgw] at hZ
        refine g_if_eq hZ 45 dX8_wins_38 rfl ⟨by decide, by decide⟩ (fun _ => ?_) (fun cX => absurd (by decide) cX)
        refine g_iconst hZ dX8_wins_45 ?_
        refine g_iret hZ dX8_wins_46 rfl ⟨he₁, rfl⟩
  · have ea : aWins w n B s = -1001 := by unfold aWins; rw [if_neg hz1]
    rw [ea] at hZ
    refine g_if_ne hZ 11 dX8_wins_4 rfl (by omega) (fun cX => absurd (by omega) cX) (fun _ => ?_)
    refine g_sipush hZ (z := (-1001)) dX8_wins_7 rfl ?_
    refine g_iret hZ dX8_wins_10 rfl ⟨Eqx.rf, rfl⟩

