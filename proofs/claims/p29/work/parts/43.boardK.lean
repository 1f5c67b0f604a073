/-! the class: BurningFields: regionInfo, lead -/
theorem low_bit {m r : Nat} (h1 : m.testBit r = true) (h2 : ∀ k, k < r → m.testBit k = false) : andn m (m - 1) = 2 ^ r ∧ 1 ≤ m := by
  have e1 : m % 2 ^ (r + 1) = 2 ^ r := by
    apply Nat.eq_of_testBit_eq
    intro k
    rw [Nat.testBit_mod_two_pow, Nat.testBit_two_pow]
    by_cases q : k = r
    · subst q; simp [h1]
    · by_cases q2 : k < r
      · rw [h2 k q2, decide_eq_false (show ¬ r = k by omega)]; simp
      · rw [decide_eq_false (show ¬ k < r + 1 by omega), decide_eq_false (show ¬ r = k by omega)]; simp
  have hp := Nat.two_pow_pos r
  have hps : 2 ^ (r + 1) = 2 ^ r * 2 := Nat.pow_succ 2 r
  obtain ⟨a, e⟩ : ∃ a, m = 2 ^ (r + 1) * a + 2 ^ r := ⟨m / 2 ^ (r + 1), by have := Nat.div_add_mod m (2 ^ (r + 1)); rw [e1] at this; exact this.symm⟩
  have e2 : m - 1 = 2 ^ (r + 1) * a + (2 ^ r - 1) := by
    rw [e]
    generalize 2 ^ (r + 1) * a = y
    omega
  refine ⟨?_, by rw [e]; generalize 2 ^ (r + 1) * a = y; omega⟩
  apply Nat.eq_of_testBit_eq
  intro k
  rw [andn_tb, e2, e, Nat.testBit_two_pow_mul_add a (show 2 ^ r < 2 ^ (r + 1) by omega) k, Nat.testBit_two_pow_mul_add a (show 2 ^ r - 1 < 2 ^ (r + 1) by omega) k, Nat.testBit_two_pow, Nat.testBit_two_pow_sub_one]
  by_cases q : k < r + 1
  · rw [if_pos q, if_pos q]
    by_cases q2 : r = k
    · subst q2; simp
    · rw [decide_eq_false q2]; simp
  · rw [if_neg q, if_neg q, decide_eq_false (show ¬ r = k by omega)]
    cases a.testBit (k - (r + 1)) <;> rfl
theorem bc_low : ∀ r, r < 15 → bc (2 ^ r - 1) = r := by decide +kernel
theorem rgB_low {w n m root : Nat} {B : Nat → Int} (hm : isM m (rgB w n B (root : Int))) (hr : root ∈ rts (rg w n B) n) : m.testBit root = true ∧ (∀ k, k < root → m.testBit k = false) ∧ root < n := by
  obtain ⟨a1, a2⟩ := List.mem_filter.mp hr
  have a3 := List.mem_range.mp a1
  have a4 : rg w n B root = (root : Int) := by unfold rootB at a2; exact of_decide_eq_true a2
  refine ⟨?_, fun k hk => ?_, a3⟩
  · have e : m.testBit root = rgB w n B (root : Int) root := hm root
    rw [e]; unfold rgB; rw [decide_eq_true a3, decide_eq_true a4]; rfl
  · have e : m.testBit k = rgB w n B (root : Int) k := hm k
    have b := rg_bd (w := w) (B := B) (show k < n by omega)
    rw [e]; unfold rgB; rw [decide_eq_false (show ¬ rg w n B k = (root : Int) by omega)]; simp
theorem t_X8_lead (E : gE) (S : gS) (w h n : Nat) (hg : xG S w h n) (B : Nat → Int) (hX : XB S n B) (hB : mBd B n) (hc : mC3 B n) (kp : List (Nat × Nat)) (hk : XK S (kX n kp)) (hkc : kcan n kp) : Ct E LAY mX8_lead [.ref (gad E 0)] S (fun r S' => Eqx [6, 7, 10, 11, 12, 13, 15, 16, 30, 31, 32, 33, 34, 35] S S' ∧ r = some (iV (aLead w n (rg w n B) B kp).1) ∧ XK S' (kX n (aLead w n (rg w n B) B kp).2.1) ∧ kcan n (aLead w n (rg w n B) B kp).2.1 ∧ S' 33 0 = S 33 0 + (aLead w n (rg w n B) B kp).2.2) := by
  have hn := hg.n15
  have hl := cntB_le (rootB (rg w n B)) n
  rw [← rts_len] at hl
  refine Ct.intro LAY_ok (by decide +kernel) (Nat.le_of_ble_eq_true rfl) rfl ?_
  intro Z hZ
  refine g_aload_n hZ dX8_lead_0 rfl ?_
  refine g_callV hZ (t_X8_divideBoard E S w h n hg B hX hB) kX8_155 ⟨by decide, by decide⟩ rfl rfl rfl rfl (Nat.le_of_ble_eq_true rfl) dX8_lead_1 ?_
  rintro _ S₁ ⟨rfl, he₁, hx₁⟩
  have hg₁ := hg.x he₁ rfl
  have hX₁ := hX.x he₁ rfl
  have hk₁ := hk.x he₁ rfl rfl rfl
  have h33 : S₁ 33 0 = S 33 0 := he₁ 33 0 rfl
  have second : (∀ k ∈ rts (rg w n B) n, kindF (rg w n B) B n k ≠ 3) → aLead w n (rg w n B) B kp = leadL w n (rg w n B) B (rts (rg w n B) n) 0 kp 0 → ∀ (m i : Nat) (sum : Int) (kq : List (Nat × Nat)) (hh : Int) (S₂ : gS) (L9 : List (Nat × Value)), i + m = (rts (rg w n B) n).length → Eqx [6, 7, 10, 11, 12, 13, 15, 16, 32, 33, 34, 35] S₁ S₂ → XK S₂ (kX n kq) → kcan n kq → S₂ 33 0 = S 33 0 + hh → leadL w n (rg w n B) B ((rts (rg w n B) n).drop i) sum kq hh = leadL w n (rg w n B) B (rts (rg w n B) n) 0 kp 0 → lkeep L9 [0, 1, 2] = [(0, .ref (gad E 0)), (1, iV sum), (2, iV (i : Int))] → Z S₂ L9 47 [] := by
    intro hno3 hA m
    rw [hA] at hZ
    induction m with
    | zero =>
      intro i sum kq hh S₂ L9 him he₂ hk₂ hkc₂ h33₂ hres hL9
      refine g_keep hZ [0, 1, 2] hL9 ?_
      rw [List.drop_eq_nil_of_le (by omega)] at hres
      have hres2 : (sum, kq, hh) = leadL w n (rg w n B) B (rts (rg w n B) n) 0 kp 0 := hres
      rw [← hres2] at hZ
      refine g_iload_n hZ dX8_lead_47 rfl ?_
      refine g_aload_n hZ dX8_lead_48 rfl ?_
      refine g_getr hZ fX8_40 rfl rfl dX8_lead_49 ?_
      refine g_geti hZ fX8_158 rfl rfl dX8_lead_52 ((he₂ 30 0 rfl).trans hx₁.1) ?_
      refine g_icmp_ge hZ 109 dX8_lead_55 rfl (by omega) (fun _ => ?_) (fun cX => absurd (by omega) cX)
      refine g_iload_n hZ dX8_lead_109 rfl ?_
      refine g_iret hZ dX8_lead_110 rfl ⟨(he₁.mono rfl).tr (he₂.mono rfl), rfl, hk₂, hkc₂, h33₂⟩
    | succ m ih =>
      intro i sum kq hh S₂ L9 him he₂ hk₂ hkc₂ h33₂ hres hL9
      obtain ⟨root, hroot⟩ : ∃ root, (rts (rg w n B) n)[i]? = some root := ⟨_, List.getElem?_eq_getElem (by omega)⟩
      obtain ⟨mk, e1, e2⟩ := hx₁.2 i root hroot
      have e1₂ : S₂ 31 i = (mk : Int) := (he₂ 31 i rfl).trans e1
      have hdr : (rts (rg w n B) n).drop i = root :: (rts (rg w n B) n).drop (i + 1) := by
        have hjl := (List.getElem?_eq_some_iff.mp hroot)
        rw [List.drop_eq_getElem_cons hjl.1, hjl.2]
      rw [hdr, leadL] at hres
      have hkb := kindF_bd (r := rg w n B) (B := B) (n := n) (root := (root : Int))
      have hb := askV_bd (w := w) (n := n) (r := rg w n B) (B := B) (kp := kq) (root := (root : Int)) hn (fun e he => by
        refine ⟨?_, ?_⟩
        · rw [hkc₂ e he]; exact cod_lt30 hn (bdP_bd _ _)
        · exact (hk₂.2.2.2 (xP n e.1, e.2) (List.mem_map.mpr ⟨e, he, rfl⟩)).2)
      refine g_keep hZ [0, 1, 2] hL9 ?_
      refine g_iload_n hZ dX8_lead_47 rfl ?_
      refine g_aload_n hZ dX8_lead_48 rfl ?_
      refine g_getr hZ fX8_40 rfl rfl dX8_lead_49 ?_
      refine g_geti hZ fX8_158 rfl rfl dX8_lead_52 ((he₂ 30 0 rfl).trans hx₁.1) ?_
      refine g_icmp_ge hZ 109 dX8_lead_55 rfl (by omega) (fun cX => absurd cX (by omega)) (fun _ => ?_)
      refine g_aload_n hZ dX8_lead_58 rfl ?_
      refine g_getr hZ fX8_40 rfl rfl dX8_lead_59 ?_
      refine g_getr hZ fX8_159 rfl rfl dX8_lead_62 ?_
      refine g_iload_n hZ dX8_lead_65 rfl ?_
      refine g_iald hZ (i) rfl dX8_lead_66 (rfl) (by omega) (by decide) (e1₂) ?_
      refine g_istore_n hZ dX8_lead_67 (by decide) ?_
      refine g_aload_n hZ dX8_lead_68 rfl ?_
      refine g_iload_n hZ dX8_lead_69 rfl ?_
      refine g_callV hZ (t_X8_askValue E S₂ w h n (hg₁.x he₂ rfl) B (hX₁.x he₂ rfl) hB hc kq hk₂ hkc₂ root (hno3 root (List.mem_of_getElem? hroot)) mk e2) kX8_169 ⟨by decide, by decide⟩ rfl rfl rfl rfl (Nat.le_of_ble_eq_true rfl) dX8_lead_70 ?_
      rintro _ S₃ ⟨he₃, rfl, hk₃, hkc₃, h33₃⟩
      have he₂₃ : Eqx [6, 7, 10, 11, 12, 13, 15, 16, 32, 33, 34, 35] S₁ S₃ := he₂.tr he₃
      generalize askV w n (rg w n B) B kq (root : Int) = av at *
      obtain ⟨v, kq2, hv⟩ := av
      dsimp only at hb hk₃ hkc₃ h33₃ hres ⊢
      refine g_istore hZ dX8_lead_73 (by decide) ?_
      refine g_iload hZ dX8_lead_75 rfl ?_
      refine g_if_ge hZ 83 dX8_lead_77 rfl (by omega) (fun c3 => ?_) (fun c3 => ?_)
      · rw [if_neg (by omega)] at hres
        refine g_iload_n hZ dX8_lead_83 rfl ?_
        refine g_aload_n hZ dX8_lead_84 rfl ?_
        refine g_iload_n hZ dX8_lead_85 rfl ?_
        refine g_callV hZ (t_X8_kindOf E S₃ w h n (hg₁.x he₂₃ rfl) B (hX₁.x he₂₃ rfl) hB (root : Int) mk e2) kX8_163 ⟨by decide, by decide⟩ rfl rfl rfl rfl (Nat.le_of_ble_eq_true rfl) dX8_lead_86 ?_
        rintro _ _ ⟨rfl, rfl⟩
        refine g_iconst hZ dX8_lead_89 ?_
        refine g_icmp_ne hZ 98 dX8_lead_90 rfl (by omega) (fun c4 => ?_) (fun c4 => ?_)
        · rw [if_neg c4] at hres
          refine g_iload hZ dX8_lead_98 rfl ?_
          refine g_ineg hZ dX8_lead_100 ?_
          refine g_iadd hZ dX8_lead_101 ?_
          refine g_istore_n hZ dX8_lead_102 (by decide) ?_
          refine g_iinc hZ dX8_lead_103 rfl (by decide) ?_
          refine g_goto hZ 47 dX8_lead_106 rfl ?_
          exact ih (i + 1) _ kq2 (hh + hv) S₃ _ (by omega) he₂₃ hk₃ hkc₃ (by rw [h33₃, h33₂]; omega) hres rfl
        · rw [if_pos c4] at hres
          refine g_iload hZ dX8_lead_93 rfl ?_
          refine g_goto hZ 101 dX8_lead_95 rfl ?_
          refine g_iadd hZ dX8_lead_101 ?_
          refine g_istore_n hZ dX8_lead_102 (by decide) ?_
          refine g_iinc hZ dX8_lead_103 rfl (by decide) ?_
          refine g_goto hZ 47 dX8_lead_106 rfl ?_
          exact ih (i + 1) _ kq2 (hh + hv) S₃ _ (by omega) he₂₃ hk₃ hkc₃ (by rw [h33₃, h33₂]; omega) hres rfl
      · rw [if_pos (by omega)] at hres
        have ev : v = -1004 := by omega
        subst ev
        rw [← hres] at hZ
        refine g_iload hZ dX8_lead_80 rfl ?_
        refine g_iret hZ dX8_lead_82 rfl ⟨(he₁.mono rfl).tr (he₂₃.mono rfl), rfl, hk₃, hkc₃, by rw [h33₃, h33₂]; show _ = S 33 0 + (hh + hv); omega⟩
  have first : ∀ (m i : Nat), i + m = (rts (rg w n B) n).length → (∀ (j r : Nat), j < i → (rts (rg w n B) n)[j]? = some r → kindF (rg w n B) B n (r : Int) ≠ 3) → Z S₁ [(0, .ref (gad E 0)), (1, iV (i : Int))] 6 [] := by
    intro m
    induction m with
    | zero =>
      intro i him hno
      have hno3 : ∀ k ∈ rts (rg w n B) n, kindF (rg w n B) B n k ≠ 3 := fun k hk => by
        obtain ⟨j, hj⟩ := List.getElem?_of_mem hk
        exact hno j k (by have := (List.getElem?_eq_some_iff.mp hj).1; omega) hj
      have hA : aLead w n (rg w n B) B kp = leadL w n (rg w n B) B (rts (rg w n B) n) 0 kp 0 := by
        unfold aLead
        rw [if_neg]
        intro q
        obtain ⟨k, h1, h2⟩ := List.any_eq_true.mp q
        exact hno3 k h1 (by simpa using h2)
      refine g_iload_n hZ dX8_lead_6 rfl ?_
      refine g_aload_n hZ dX8_lead_7 rfl ?_
      refine g_getr hZ fX8_40 rfl rfl dX8_lead_8 ?_
      refine g_geti hZ fX8_158 rfl rfl dX8_lead_11 hx₁.1 ?_
      refine g_icmp_ge hZ 43 dX8_lead_14 rfl (by omega) (fun _ => ?_) (fun cX => absurd (by omega) cX)
      refine g_iconst hZ dX8_lead_43 ?_
      refine g_istore_n hZ dX8_lead_44 (by decide) ?_
      refine g_iconst hZ dX8_lead_45 ?_
      refine g_istore_n hZ dX8_lead_46 (by decide) ?_
      exact second hno3 hA _ 0 0 kp 0 S₁ _ (Nat.zero_add _) Eqx.rf hk₁ hkc (by rw [h33]; simp) rfl rfl
    | succ m ih =>
      intro i him hno
      obtain ⟨root, hroot⟩ : ∃ root, (rts (rg w n B) n)[i]? = some root := ⟨_, List.getElem?_eq_getElem (by omega)⟩
      obtain ⟨mk, e1, e2⟩ := hx₁.2 i root hroot
      refine g_iload_n hZ dX8_lead_6 rfl ?_
      refine g_aload_n hZ dX8_lead_7 rfl ?_
      refine g_getr hZ fX8_40 rfl rfl dX8_lead_8 ?_
      refine g_geti hZ fX8_158 rfl rfl dX8_lead_11 hx₁.1 ?_
      refine g_icmp_ge hZ 43 dX8_lead_14 rfl (by omega) (fun cX => absurd cX (by omega)) (fun _ => ?_)
      refine g_aload_n hZ dX8_lead_17 rfl ?_
      refine g_aload_n hZ dX8_lead_18 rfl ?_
      refine g_getr hZ fX8_40 rfl rfl dX8_lead_19 ?_
      refine g_getr hZ fX8_159 rfl rfl dX8_lead_22 ?_
      refine g_iload_n hZ dX8_lead_25 rfl ?_
      refine g_iald hZ (i) rfl dX8_lead_26 (rfl) (by omega) (by decide) (e1) ?_
      refine g_callV hZ (t_X8_isShared E S₁ w h n hg₁ B hX₁ hB (root : Int) mk e2) kX8_166 ⟨by decide, by decide⟩ rfl rfl rfl rfl (Nat.le_of_ble_eq_true rfl) dX8_lead_27 ?_
      rintro _ _ ⟨rfl, z, rfl, hz⟩
      rcases hz with ⟨rfl, hz⟩ | ⟨rfl, hz⟩
      · have hA : aLead w n (rg w n B) B kp = (-1002, kp, 0) := by
          unfold aLead
          rw [if_pos]
          exact List.any_eq_true.mpr ⟨root, List.mem_of_getElem? hroot, by simpa using hz⟩
        refine g_if_eq hZ 37 dX8_lead_30 rfl (by omega) (fun cX => absurd cX (by omega)) (fun _ => ?_)
        rw [hA] at hZ
        refine g_sipush hZ (z := (-1002)) dX8_lead_33 rfl ?_
        refine g_iret hZ dX8_lead_36 rfl ⟨he₁.mono rfl, rfl, hk₁, hkc, by rw [h33]; simp⟩
      · refine g_if_eq hZ 37 dX8_lead_30 rfl (by omega) (fun _ => ?_) (fun cX => absurd (by omega) cX)
        refine g_iinc hZ dX8_lead_37 rfl (by decide) ?_
        refine g_goto hZ 6 dX8_lead_40 rfl ?_
        refine ih (i + 1) (by omega) (fun j r hj hr => ?_)
        by_cases q : j = i
        · subst q; rw [hroot] at hr; cases hr; exact hz
        · exact hno j r (by omega) hr
  refine g_iconst hZ dX8_lead_4 ?_
  refine g_istore_n hZ dX8_lead_5 (by decide) ?_
  exact first _ 0 (Nat.zero_add _) (fun j r hj => absurd hj (Nat.not_lt_zero j))

