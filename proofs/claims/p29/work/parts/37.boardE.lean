/-! the class: BurningFields: askValue -/
theorem cod_bdP {x : Nat → Int} {n : Nat} (h : mBd x n) : cod (bdP (cod x n)) n = cod x n := cod_cong (fun _ hk => bdP_cod h hk)
noncomputable def kX (n : Nat) (kp : List (Nat × Nat)) : List (Nat × Nat) := kp.map (fun e => (xP n e.1, e.2))
def kcan (n : Nat) (kp : List (Nat × Nat)) : Prop := ∀ e ∈ kp, e.1 = cod (bdP e.1) n
theorem xP_can {n a c : Nat} (hn : n ≤ 15) (ha : a = cod (bdP a) n) (hc : c = cod (bdP c) n) (e : xP n a = xP n c) : a = c := by
  rw [ha, hc]
  exact cod_cong (fun k hk => rep_inj hn (xP_ok n a) (by rw [e]; exact xP_ok n c) (bdP_bd a n) (bdP_bd c n) hk)
theorem kfind_x {n c : Nat} (hn : n ≤ 15) (hc : c = cod (bdP c) n) : ∀ (kp : List (Nat × Nat)), kcan n kp → kfind (kX n kp) (xP n c) = kfind kp c
  | [], _ => rfl
  | e :: r, h => by
    have ih := kfind_x hn hc r (fun x hx => h x (List.mem_cons_of_mem _ hx))
    show (if xP n e.1 = xP n c then some e.2 else kfind (kX n r) (xP n c)) = if e.1 = c then some e.2 else kfind r c
    by_cases q : e.1 = c
    · rw [if_pos q, if_pos (by rw [q])]
    · rw [if_neg q, if_neg (fun z => q (xP_can hn (h e (by simp)) hc z)), ih]
theorem kpush_x {n : Nat} (kp : List (Nat × Nat)) (c v : Nat) : kpush (kX n kp) (xP n c, v) = kX n (kpush kp (c, v)) := by
  unfold kpush kX
  rw [List.length_map]
  by_cases q : kp.length = 40
  · rw [if_pos q, if_pos q]; rfl
  · rw [if_neg q, if_neg q, List.map_append]; rfl
theorem kcan_push {n : Nat} {kp : List (Nat × Nat)} {c v : Nat} (h : kcan n kp) (hc : c = cod (bdP c) n) : kcan n (kpush kp (c, v)) := by
  intro e he
  unfold kpush at he
  rcases List.mem_append.mp he with z | z
  · by_cases q : kp.length = 40
    · rw [if_pos q] at z; cases z
    · rw [if_neg q] at z; exact h e z
  · rw [List.mem_singleton] at z
    subst z
    exact hc
theorem t_X8_askValue (E : gE) (S : gS) (w h n : Nat) (hg : xG S w h n) (B : Nat → Int) (hX : XB S n B) (hB : mBd B n) (hc : mC3 B n) (kp : List (Nat × Nat)) (hk : XK S (kX n kp)) (hkc : kcan n kp) (root : Nat) (h3 : kindF (rg w n B) B n root ≠ 3) (m : Nat) (hm : isM m (rgB w n B (root : Int))) : Ct E LAY mX8_askValue [.ref (gad E 0), iV (m : Int)] S (fun r S' => Eqx [6, 7, 10, 11, 12, 13, 15, 16, 32, 33, 34, 35] S S' ∧ r = some (iV (askV w n (rg w n B) B kp root).1) ∧ XK S' (kX n (askV w n (rg w n B) B kp root).2.1) ∧ kcan n (askV w n (rg w n B) B kp root).2.1 ∧ S' 33 0 = S 33 0 + (askV w n (rg w n B) B kp root).2.2) := by
  have hn := hg.n15
  have hO := hg.o
  have hab := alnB_bd (r := rg w n B) (root := (root : Int)) hB
  have hcl := cod_lt30 hn hab
  have hcc := alnB_c3 (r := rg w n B) (root := (root : Int)) hB hc
  have hcan : cod (alnB (rg w n B) B (root : Int)) n = cod (bdP (cod (alnB (rg w n B) B (root : Int)) n)) n := (cod_bdP hab).symm
  have hbd : ∀ k, k < n → bdP (cod (alnB (rg w n B) B (root : Int)) n) k = alnB (rg w n B) B (root : Int) k := fun k hk => bdP_cod hab hk
  have hkb : 0 ≤ kindF (rg w n B) B n root ∧ kindF (rg w n B) B n root ≤ 3 := by unfold kindF; split <;> split <;> omega
  refine Ct.intro LAY_ok (by decide +kernel) (Nat.le_of_ble_eq_true rfl) rfl ?_
  intro Z hZ
  refine g_aload_n hZ dX8_askValue_0 rfl ?_
  refine g_iload_n hZ dX8_askValue_1 rfl ?_
  refine g_callV hZ (t_X8_kindOf E S w h n hg B hX hB root m hm) kX8_163 ⟨by decide, by decide⟩ rfl rfl rfl rfl (Nat.le_of_ble_eq_true rfl) dX8_askValue_2 ?_
  rintro _ _ ⟨rfl, rfl⟩
  generalize hK : kindF (rg w n B) B n (root : Int) = K at *
  refine g_istore_n hZ dX8_askValue_5 (by decide) ?_
  refine g_iload_n hZ dX8_askValue_6 rfl ?_
  refine g_callS hZ (t_X8_isSide E S K (by omega)) kX8_138 ⟨by decide, by decide⟩ rfl rfl (Nat.le_of_ble_eq_true rfl) dX8_askValue_7 ?_
  rintro _ _ ⟨rfl, z, rfl, hz⟩
  rcases hz with ⟨rfl, hz⟩ | ⟨rfl, hz⟩
  · refine g_if_ne hZ 15 dX8_askValue_10 rfl (by omega) (fun _ => ?_) (fun cX => absurd cX (by omega))
    refine g_aload_n hZ dX8_askValue_15 rfl ?_
    refine g_iload_n hZ dX8_askValue_16 rfl ?_
    refine g_callV hZ (t_X8_aloneOf E S w h n hg B hX hB root m hm) kX8_195 ⟨by decide, by decide⟩ rfl rfl rfl rfl (Nat.le_of_ble_eq_true rfl) dX8_askValue_17 ?_
    rintro _ _ ⟨rfl, y, rfl, hy⟩
    have ey : y = xP n (cod (alnB (rg w n B) B (root : Int)) n) := rep_eq hy (rep_cong (xP_ok n _) hbd)
    subst ey
    generalize hCd : cod (alnB (rg w n B) B (root : Int)) n = C at *
    have eK : K = ((K.toNat : Nat) : Int) := by omega
    have hp0 := vP_start hn hcl hcc (show K.toNat = 1 ∨ K.toNat = 2 by omega)
    have hsd : sdP (C + 1073741824 * (K.toNat - 1)) = K.toNat := by rw [sdP_side hcl (by omega)]; omega
    have hbp : ∀ k, k < n → bdP (C + 1073741824 * (K.toNat - 1)) k = bdP C k := fun k hk => bdP_side (by omega)
    have hxp : xP n (C + 1073741824 * (K.toNat - 1)) = xP n C := rep_eq (xP_ok n _) (rep_cong (xP_ok n C) (fun k hk => (hbp k hk).symm))
    have hqp : qP n false (C + 1073741824 * (K.toNat - 1)) (C + 1073741824 * (K.toNat - 1)) := ⟨hp0, Nat.le_refl _, by rw [sdF_f], by rw [hsd, cod_cong hbp, ← hcan]⟩
    have hkf := kfind_x hn hcan kp hkc
    refine g_lstore_n hZ dX8_askValue_20 (by decide) ?_
    refine g_aload_n hZ dX8_askValue_21 rfl ?_
    refine g_getr hZ fX8_47 rfl rfl dX8_askValue_22 ?_
    refine g_lload_n hZ dX8_askValue_25 rfl ?_
    refine g_callV hZ (t_X7_find E S (kX n kp) hk (xP n C) (xP_lt n C)) kX8_256 ⟨by decide, by decide⟩ rfl rfl rfl rfl (Nat.le_of_ble_eq_true rfl) dX8_askValue_26 ?_
    rintro _ _ ⟨rfl, z, rfl, hz2⟩
    have ask : askV w n (rg w n B) B kp (root : Int) = (match kfind kp C with
      | some v => ((v : Int), kp, 1)
      | none => match bfs (scP w n false) 1501 0 [C + 1073741824 * (K.toNat - 1)] with
        | none => (-1004, kp, 0)
        | some _ => (((GV w n false (C + 1073741824 * (K.toNat - 1))).2 : Int), kpush kp (C, (GV w n false (C + 1073741824 * (K.toNat - 1))).2), 0)) := by
      unfold askV
      rw [hK, hCd, if_neg (by omega)]
      rfl
    rcases hz2 with ⟨rfl, hf⟩ | ⟨i, e, rfl, hi, he1, hf⟩
    · rw [hkf] at hf
      simp only [hf] at ask
      refine g_istore hZ dX8_askValue_29 (by decide) ?_
      refine g_iload hZ dX8_askValue_31 rfl ?_
      refine g_iconst hZ dX8_askValue_33 ?_
      refine g_icmp_eq hZ 61 dX8_askValue_34 rfl (by omega) (fun _ => ?_) (fun cX => absurd (by omega) cX)
      refine g_aload_n hZ dX8_askValue_61 rfl ?_
      refine g_getr hZ fX8_30 rfl rfl dX8_askValue_62 ?_
      refine g_lload_n hZ dX8_askValue_65 rfl ?_
      refine g_iload_n hZ dX8_askValue_66 rfl ?_
      refine g_iload_n hZ dX8_askValue_67 rfl ?_
      refine g_callV hZ (As := [jV (xP n C : Int), iV K, iV K]) (by have := t_X4_exploreL E S w h n hg false (C + 1073741824 * (K.toNat - 1)) hqp; rw [hxp, hsd] at this; dsimp only [cond] at this; rw [← eK] at this; exact this) kX8_179 ⟨by decide, by decide⟩ rfl rfl rfl rfl (Nat.le_of_ble_eq_true rfl) dX8_askValue_68 ?_
      rintro _ S₁ ⟨he₁, h10, h11, z, rfl, hz3⟩
      rcases hz3 with ⟨rfl, hb⟩ | ⟨rfl, L, hb, hPS⟩
      · simp only [hb] at ask
        rw [ask] at hZ
        refine g_if_ne hZ 78 dX8_askValue_71 rfl (by omega) (fun cX => absurd (by omega) cX) (fun _ => ?_)
        refine g_sipush hZ (z := (-1004)) dX8_askValue_74 rfl ?_
        refine g_iret hZ dX8_askValue_77 rfl ⟨he₁.mono rfl, rfl, hk.x he₁ rfl rfl rfl, hkc, by rw [he₁ 33 0 rfl]; simp⟩
      · simp only [hb] at ask
        rw [ask] at hZ
        have hbok : bOK (scP w n false) (qP n false (C + 1073741824 * (K.toNat - 1))) L := bfs_ok (rk := bcP n) (Q := qP n false (C + 1073741824 * (K.toNat - 1))) (fun p hp c hc => ⟨qP_nx hO hp c hc, bcP_nx hO c hc⟩) rfl (bI_0 hqp) hb
        have h0 : L[0]? = some (C + 1073741824 * (K.toNat - 1)) := (bfs_ok0 hO hp0 hb).2
        have hgb := GV_b (w := w) (n := n) (alt := false) (p := C + 1073741824 * (K.toNat - 1))
        refine g_if_ne hZ 78 dX8_askValue_71 rfl (by omega) (fun _ => ?_) (fun cX => absurd cX (by omega))
        refine g_aload_n hZ dX8_askValue_78 rfl ?_
        refine g_getr hZ fX8_30 rfl rfl dX8_askValue_79 ?_
        refine g_callV hZ (t_X4_findMostMovesL E S₁ w h n (hg.x he₁ rfl) (C + 1073741824 * (K.toNat - 1)) L hPS hbok h0 (by rw [hsd, ← eK]; exact h10)) kX8_258 ⟨by decide, by decide⟩ rfl rfl rfl rfl (Nat.le_of_ble_eq_true rfl) dX8_askValue_82 ?_
        rintro _ S₂ ⟨rfl, he₂⟩
        generalize (GV w n false (C + 1073741824 * (K.toNat - 1))).2 = V at *
        refine g_istore hZ dX8_askValue_85 (by decide) ?_
        refine g_aload_n hZ dX8_askValue_87 rfl ?_
        refine g_getr hZ fX8_47 rfl rfl dX8_askValue_88 ?_
        refine g_lload_n hZ dX8_askValue_91 rfl ?_
        refine g_iload hZ dX8_askValue_92 rfl ?_
        refine g_callV hZ (t_X7_put E S₂ (kX n kp) ((hk.x he₁ rfl rfl rfl).x he₂ rfl rfl rfl) (xP n C) V (xP_lt n C) (by omega)) kX8_261 ⟨by decide, by decide⟩ rfl rfl rfl rfl (Nat.le_of_ble_eq_true rfl) dX8_askValue_94 ?_
        rintro _ S₃ ⟨rfl, he₃, hk₃⟩
        refine g_iload hZ dX8_askValue_97 rfl ?_
        refine g_iret hZ dX8_askValue_99 rfl ⟨((he₁.mono rfl).tr (he₂.mono rfl)).tr (he₃.mono rfl), rfl, by rw [← kpush_x]; exact hk₃, kcan_push hkc hcan, by rw [he₃ 33 0 rfl, he₂ 33 0 rfl, he₁ 33 0 rfl]; simp⟩
    · rw [hkf] at hf
      simp only [hf] at ask
      rw [ask] at hZ
      obtain ⟨b1, b2⟩ := hk.2.2.1 i e hi
      have hil := (List.getElem?_eq_some_iff.mp hi).1
      have h40 := hk.2.1
      refine g_istore hZ dX8_askValue_29 (by decide) ?_
      refine g_iload hZ dX8_askValue_31 rfl ?_
      refine g_iconst hZ dX8_askValue_33 ?_
      refine g_icmp_eq hZ 61 dX8_askValue_34 rfl (by omega) (fun cX => absurd cX (by omega)) (fun _ => ?_)
      refine g_aload_n hZ dX8_askValue_37 rfl ?_
      refine g_getr hZ fX8_47 rfl rfl dX8_askValue_38 ?_
      refine g_dup hZ dX8_askValue_41 rfl ?_
      refine g_geti hZ fX8_173 rfl rfl dX8_askValue_42 rfl ?_
      refine g_iconst hZ dX8_askValue_45 ?_
      refine g_iadd hZ dX8_askValue_46 ?_
      refine g_puti hZ fX8_173 rfl rfl dX8_askValue_47 ?_
      refine g_aload_n hZ dX8_askValue_50 rfl ?_
      refine g_getr hZ fX8_47 rfl rfl dX8_askValue_51 ?_
      refine g_getr hZ fX8_257 rfl rfl dX8_askValue_54 ?_
      refine g_iload hZ dX8_askValue_57 rfl ?_
      refine g_iald hZ (i) rfl dX8_askValue_59 (rfl) (by omega) (by decide) (b2) ?_
      refine g_iret hZ dX8_askValue_60 rfl ⟨Eqx.rf.up rfl, rfl, hk.x (vs := [33]) (Eqx.rf.up rfl) rfl rfl rfl, hkc, upS_eq _ _ _ _⟩
  · have ask : askV w n (rg w n B) B kp (root : Int) = (0, kp, 0) := by unfold askV; rw [hK, if_pos (by omega)]
    rw [ask] at hZ
    refine g_if_ne hZ 15 dX8_askValue_10 rfl (by omega) (fun cX => absurd (by omega) cX) (fun _ => ?_)
    refine g_iconst hZ dX8_askValue_13 ?_
    refine g_iret hZ dX8_askValue_14 rfl ⟨Eqx.rf, rfl, hk, hkc, by simp⟩
