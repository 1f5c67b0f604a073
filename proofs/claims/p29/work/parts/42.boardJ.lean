/-! the class: BurningFields: bestMove -/
theorem t_X8_bestMove (E : gE) (S : gS) (w h n : Nat) (hg : xG S w h n) (B : Nat → Int) (hX : XB S n B) (hB : mBd B n) (hc : mC3 B n) (s : Int) (rs : R32 s) : Ct E LAY mX8_bestMove [.ref (gad E 0), iV s] S (fun r S' => Eqx [6, 7, 10, 11, 12, 13, 14, 15, 16] S S' ∧ r = some (iV (aBest w n B s))) := by
  have hn := hg.n15
  have hO := hg.o
  obtain ⟨x, x1, x2⟩ := id hX
  refine Ct.intro LAY_ok (by decide +kernel) (Nat.le_of_ble_eq_true rfl) rfl ?_
  intro Z hZ
  refine g_iload_n hZ dX8_bestMove_0 rfl ?_
  refine g_callS hZ (t_X8_isSide E S s rs) kX8_138 ⟨by decide, by decide⟩ rfl rfl (Nat.le_of_ble_eq_true rfl) dX8_bestMove_1 ?_
  rintro _ _ ⟨rfl, z1, rfl, hz1⟩
  rcases hz1 with ⟨rfl, hz1⟩ | ⟨rfl, hz1⟩
  · have es : s = ((s.toNat : Nat) : Int) := by omega
    obtain ⟨s1, s2, s3⟩ := st_ok (s := s.toNat) true hn hB hc (by omega)
    have ex := s3 x x2
    have hbp : ∀ k, k < n → bdP (stP n B s.toNat) k = B k := fun k hk => stP_bd hn hB hk
    refine g_if_ne hZ 11 dX8_bestMove_4 rfl (by omega) (fun _ => ?_) (fun cX => absurd cX (by omega))
    refine g_aload_n hZ dX8_bestMove_11 rfl ?_
    refine g_getr hZ fX8_30 rfl rfl dX8_bestMove_12 ?_
    refine g_aload_n hZ dX8_bestMove_15 rfl ?_
    refine g_getj hZ fX8_69 rfl rfl dX8_bestMove_16 x1 ?_
    refine g_iload_n hZ dX8_bestMove_19 rfl ?_
    refine g_callS hZ (As := [.ref (gad E 5), jV (x : Int), iV s]) (by have := t_X8_exploreAndSolveL E S w h n hg _ s1; rw [← ex, s2, ← es] at this; exact this) kX8_184 ⟨by decide, by decide⟩ rfl rfl (Nat.le_of_ble_eq_true rfl) dX8_bestMove_20 ?_
    rintro _ S₁ ⟨he₁, z, rfl, hz⟩
    rcases hz with ⟨rfl, hb⟩ | ⟨rfl, L, hb, hPS, h0, hbok, hv⟩
    · have ea : aBest w n B s = -1004 := by unfold aBest stP; rw [if_pos hz1, hb]
      rw [ea] at hZ
      refine g_if_ne hZ 30 dX8_bestMove_23 rfl (by omega) (fun cX => absurd (by omega) cX) (fun _ => ?_)
      refine g_sipush hZ (z := (-1004)) dX8_bestMove_26 rfl ?_
      refine g_iret hZ dX8_bestMove_29 rfl ⟨he₁, rfl⟩
    · have ea : aBest w n B s = ffl (fun q => !(GV w n true (nxP n true (stP n B s.toNat) q)).1) (mvs w n B s) 0 := by unfold aBest stP; rw [if_pos hz1, hb]
      rw [ea] at hZ
      have x1₁ : S₁ 0 0 = (x : Int) := (he₁ 0 0 rfl).trans x1
      have hml := mvs_bound hn (hc.s hz1) (w := w)
      have em : mvs w n (bdP (stP n B s.toNat)) (sdP (stP n B s.toNat) : Int) = mvs w n B s := by
        show mvs w n (bdP (stP n B s.toNat)) ((sdP (cod B n + 1073741824 * (s.toNat - 1)) : Nat) : Int) = _
        rw [s2, ← es]
        exact mvs_cong hO hbp
      refine g_if_ne hZ 30 dX8_bestMove_23 rfl (by omega) (fun _ => ?_) (fun cX => absurd cX (by omega))
      refine g_aload_n hZ dX8_bestMove_30 rfl ?_
      refine g_getr hZ fX8_21 rfl rfl dX8_bestMove_31 ?_
      refine g_aload_n hZ dX8_bestMove_34 rfl ?_
      refine g_getj hZ fX8_69 rfl rfl dX8_bestMove_35 x1₁ ?_
      refine g_iload_n hZ dX8_bestMove_38 rfl ?_
      refine g_callV hZ (As := [jV (x : Int), iV s]) (by have := t_X3_fill E S₁ w h n (hg.x he₁ rfl) x B x2 hB s.toNat (by omega) (by rw [← es]; exact hc.s hz1); rw [← es] at this; exact this) kX8_141 ⟨by decide, by decide⟩ rfl rfl rfl rfl (Nat.le_of_ble_eq_true rfl) dX8_bestMove_39 ?_
      rintro _ S₂ ⟨rfl, he₂, hx₂⟩
      have heT : Eqx [6, 7, 10, 11, 12, 13, 14, 15, 16] S S₂ := he₁.tr (he₂.mono rfl)
      have hPS₂ := hPS.x he₂ rfl rfl rfl
      have x1₂ : S₂ 0 0 = (x : Int) := (he₂ 0 0 rfl).trans x1₁
      have loop : ∀ (m j : Nat) (L9 : List (Nat × Value)), j + m = (mvs w n B s).length → Z = Z → ffl (fun q => !(GV w n true (nxP n true (stP n B s.toNat) q)).1) (mvs w n B s) 0 = ffl (fun q => !(GV w n true (nxP n true (stP n B s.toNat) q)).1) ((mvs w n B s).drop j) (j : Int) → lkeep L9 [0, 1, 2] = [(0, .ref (gad E 0)), (1, iV s), (2, iV (j : Int))] → Z S₂ L9 44 [] := by
        intro m
        induction m with
        | zero =>
          intro j L9 hj _ hf hL9
          refine g_keep hZ [0, 1, 2] hL9 ?_
          rw [hf, List.drop_eq_nil_of_le (by omega)] at hZ
          refine g_iload_n hZ dX8_bestMove_44 rfl ?_
          refine g_aload_n hZ dX8_bestMove_45 rfl ?_
          refine g_getr hZ fX8_21 rfl rfl dX8_bestMove_46 ?_
          refine g_geti hZ fX8_145 rfl rfl dX8_bestMove_49 hx₂.1 ?_
          refine g_icmp_ge hZ 100 dX8_bestMove_52 rfl (by omega) (fun _ => ?_) (fun cX => absurd (by omega) cX)
          refine g_sipush hZ (z := (-1005)) dX8_bestMove_100 rfl ?_
          refine g_iret hZ dX8_bestMove_103 rfl ⟨heT, rfl⟩
        | succ m ih =>
          intro j L9 hj _ hf hL9
          obtain ⟨q, hqj⟩ : ∃ q, (mvs w n B s)[j]? = some q := ⟨_, List.getElem?_eq_getElem (by omega)⟩
          have hqm := List.mem_of_getElem? hqj
          have hqm2 : q ∈ mvs w n (bdP (stP n B s.toNat)) (sdP (stP n B s.toNat) : Int) := by rw [em]; exact hqm
          have hnf := nxP_facts (alt := true) hO hqm2
          have hdr : (mvs w n B s).drop j = q :: (mvs w n B s).drop (j + 1) := by
            have hjl := (List.getElem?_eq_some_iff.mp hqj)
            rw [List.drop_eq_getElem_cons hjl.1, hjl.2]
          have hcm : nxP n true (stP n B s.toNat) q ∈ scP w n true (stP n B s.toNat) := List.mem_map.mpr ⟨q, hqm2, rfl⟩
          obtain ⟨a, hka, ha⟩ := hbok.2.2.2 0 _ _ h0 hcm
          have hal := (List.getElem?_eq_some_iff.mp ha).1
          have hle := hbok.2.1
          have va : S₂ 14 a = _ := (he₂ 14 a rfl).trans (hv a _ ha).1
          rw [hdr, ffl] at hf
          refine g_keep hZ [0, 1, 2] hL9 ?_
          refine g_iload_n hZ dX8_bestMove_44 rfl ?_
          refine g_aload_n hZ dX8_bestMove_45 rfl ?_
          refine g_getr hZ fX8_21 rfl rfl dX8_bestMove_46 ?_
          refine g_geti hZ fX8_145 rfl rfl dX8_bestMove_49 hx₂.1 ?_
          refine g_icmp_ge hZ 100 dX8_bestMove_52 rfl (by omega) (fun cX => absurd cX (by omega)) (fun _ => ?_)
          refine g_aload_n hZ dX8_bestMove_55 rfl ?_
          refine g_getr hZ fX8_30 rfl rfl dX8_bestMove_56 ?_
          refine g_aload_n hZ dX8_bestMove_59 rfl ?_
          refine g_getr hZ fX8_21 rfl rfl dX8_bestMove_60 ?_
          refine g_aload_n hZ dX8_bestMove_63 rfl ?_
          refine g_getj hZ fX8_69 rfl rfl dX8_bestMove_64 x1₂ ?_
          refine g_iload_n hZ dX8_bestMove_67 rfl ?_
          refine g_iload_n hZ dX8_bestMove_68 rfl ?_
          refine g_callV hZ (As := [jV (x : Int), iV s, iV (j : Int)]) (by have := t_X3_after E S₂ w h n hO x B x2 s.toNat (by omega) j (by omega) q (hx₂.2 j q hqj) (by rw [← es]; exact hqm); rw [← es] at this; exact this) kX8_199 ⟨by decide, by decide⟩ rfl rfl rfl rfl (Nat.le_of_ble_eq_true rfl) dX8_bestMove_69 ?_
          rintro _ _ ⟨rfl, y, rfl, hy⟩
          have eaf : ∀ k, k < n → bdP (nxP n true (stP n B s.toNat) q) k = aftB B q s k := fun k hk => by
            rw [hnf.2.2 k hk]
            show aftB (bdP (stP n B s.toNat)) q ((sdP (cod B n + 1073741824 * (s.toNat - 1)) : Nat) : Int) k = _
            rw [s2, ← es]
            unfold aftB
            rw [hbp k hk]
          have ey : y = xP n (nxP n true (stP n B s.toNat) q) := rep_eq hy (rep_cong (xP_ok n _) eaf)
          subst ey
          refine g_callV hZ (t_X4_findL E S₂ (L.map (xP n)) hPS₂ (xP n (nxP n true (stP n B s.toNat) q)) (xP_lt n _)) kX8_203 ⟨by decide, by decide⟩ rfl rfl rfl rfl (Nat.le_of_ble_eq_true rfl) dX8_bestMove_72 ?_
          rintro _ _ ⟨rfl, z, rfl, hz⟩
          have hXa : (L.map (xP n))[a]? = some (xP n (nxP n true (stP n B s.toNat) q)) := by rw [List.getElem?_map, ha]; rfl
          have hza : z = (a : Int) := by
            rcases hz with ⟨-, hni⟩ | ⟨i, rfl, hi⟩
            · exact absurd (List.mem_of_getElem? hXa) hni
            · have := (List.getElem?_inj (List.getElem?_eq_some_iff.mp hi).1 hPS₂.2.2.2.1).mp (hi.trans hXa.symm)
              rw [this]
          subst hza
          refine g_istore_n hZ dX8_bestMove_75 (by decide) ?_
          refine g_iload_n hZ dX8_bestMove_76 rfl ?_
          refine g_iconst hZ dX8_bestMove_77 ?_
          refine g_icmp_eq hZ 94 dX8_bestMove_78 rfl (by omega) (fun cX => absurd cX (by omega)) (fun _ => ?_)
          refine g_aload_n hZ dX8_bestMove_81 rfl ?_
          refine g_getr hZ fX8_30 rfl rfl dX8_bestMove_82 ?_
          refine g_iload_n hZ dX8_bestMove_85 rfl ?_
          refine g_callV hZ (t_X4_isWonL E S₂ a (by omega) _ va (b2i_01 _)) kX8_188 ⟨by decide, by decide⟩ rfl rfl rfl rfl (Nat.le_of_ble_eq_true rfl) dX8_bestMove_86 ?_
          rintro _ _ ⟨rfl, rfl⟩
          cases hgw : (GV w n true (nxP n true (stP n B s.toNat) q)).1 with
          | true =>
            rw [hgw, if_neg (by decide)] at hf
            refine g_if_ne hZ 94 dX8_bestMove_89 rfl ⟨by decide, by decide⟩ (fun _ => ?_) (fun cX => absurd cX (by decide))
            refine g_iinc hZ dX8_bestMove_94 rfl (by decide) ?_
            refine g_goto hZ 44 dX8_bestMove_97 rfl ?_
            exact ih (j + 1) _ (by omega) rfl hf rfl
          | false =>
            rw [hgw, if_pos (by decide)] at hf
            rw [hf] at hZ
            refine g_if_ne hZ 94 dX8_bestMove_89 rfl ⟨by decide, by decide⟩ (fun cX => absurd (by decide) cX) (fun _ => ?_)
            refine g_iload_n hZ dX8_bestMove_92 rfl ?_
            refine g_iret hZ dX8_bestMove_93 rfl ⟨heT, rfl⟩
      refine g_iconst hZ dX8_bestMove_42 ?_
      refine g_istore_n hZ dX8_bestMove_43 (by decide) ?_
      exact loop _ 0 _ (Nat.zero_add _) rfl rfl rfl
  · have ea : aBest w n B s = -1001 := by unfold aBest; rw [if_neg hz1]
    rw [ea] at hZ
    refine g_if_ne hZ 11 dX8_bestMove_4 rfl (by omega) (fun cX => absurd (by omega) cX) (fun _ => ?_)
    refine g_sipush hZ (z := (-1001)) dX8_bestMove_7 rfl ?_
    refine g_iret hZ dX8_bestMove_10 rfl ⟨Eqx.rf, rfl⟩
