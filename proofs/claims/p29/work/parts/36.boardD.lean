theorem t_X8_aloneOf (E : gE) (S : gS) (w h n : Nat) (hg : xG S w h n) (B : Nat → Int) (hX : XB S n B) (hB : mBd B n) (root : Nat) (m : Nat) (hm : isM m (rgB w n B (root : Int))) : Ct E LAY mX8_aloneOf [.ref (gad E 0), iV (m : Int)] S (fun r S' => S = S' ∧ ∃ y : Nat, r = some (jV (y : Int)) ∧ repX y n (alnB (rg w n B) B (root : Int))) := by
  have hn := hg.n15
  have hr := rg_ok w n B
  have key : ∀ v : Int, (v = 1 ∨ v = 2) → ∀ m1 : Nat, isM m1 (mkB n B v) → isM (m &&& m1) (mkB n (alnB (rg w n B) B (root : Int)) v) := fun v hv m1 h1 k => by
    have e1 : m.testBit k = rgB w n B (root : Int) k := hm k
    have e2 : m1.testBit k = mkB n B v k := h1 k
    rw [Nat.testBit_and, e1, e2]
    unfold rgB mkB alnB
    rw [Bool.eq_iff_iff]
    simp only [Bool.and_eq_true, decide_eq_true_eq]
    constructor
    · rintro ⟨⟨q1, q2⟩, -, q3⟩
      exact ⟨q1, by rw [if_neg (fun q => q.2 q2)]; exact q3⟩
    · rintro ⟨q1, q2⟩
      by_cases q : rg w n B k = (root : Int)
      · rw [if_neg (fun z => z.2 q)] at q2
        exact ⟨⟨q1, q⟩, q1, q2⟩
      · rw [if_pos ⟨by omega, q⟩] at q2
        omega
  have hbur : isM (andn (andM n) m) (mkB n (alnB (rg w n B) B (root : Int)) 3) := fun k => by
    have e1 : m.testBit k = rgB w n B (root : Int) k := hm k
    rw [andn_tb, e1]
    unfold andM rgB mkB alnB
    rw [Nat.testBit_two_pow_sub_one, Bool.eq_iff_iff]
    simp only [Bool.and_eq_true, decide_eq_true_eq, Bool.not_eq_true', Bool.and_eq_false_iff, decide_eq_false_iff_not]
    constructor
    · rintro ⟨q1, q2 | q2⟩
      · exact absurd q1 q2
      · exact ⟨q1, by rw [if_pos ⟨by omega, q2⟩]⟩
    · rintro ⟨q1, q2⟩
      refine ⟨q1, Or.inr (fun q => ?_)⟩
      rw [if_neg (fun z => z.2 q)] at q2
      have := hr.1 k q1 q2
      omega
  refine Ct.intro LAY_ok (by decide +kernel) (Nat.le_of_ble_eq_true rfl) rfl ?_
  intro Z hZ
  refine g_iload_n hZ dX8_aloneOf_0 rfl ?_
  refine g_aload_n hZ dX8_aloneOf_1 rfl ?_
  refine g_iconst hZ dX8_aloneOf_2 ?_
  refine g_callV hZ (As := [iV ((1 : Nat) : Int)]) (t_X8_maskOf E S w h n hg B hX hB 1 (by omega)) kX8_108 ⟨by decide, by decide⟩ rfl rfl rfl rfl (Nat.le_of_ble_eq_true rfl) dX8_aloneOf_3 ?_
  rintro _ _ ⟨rfl, m1, rfl, hm1⟩
  refine g_iand hZ dX8_aloneOf_6 (gi_and _ _) ?_
  refine g_iload_n hZ dX8_aloneOf_7 rfl ?_
  refine g_aload_n hZ dX8_aloneOf_8 rfl ?_
  refine g_iconst hZ dX8_aloneOf_9 ?_
  refine g_callV hZ (As := [iV ((2 : Nat) : Int)]) (t_X8_maskOf E S w h n hg B hX hB 2 (by omega)) kX8_108 ⟨by decide, by decide⟩ rfl rfl rfl rfl (Nat.le_of_ble_eq_true rfl) dX8_aloneOf_10 ?_
  rintro _ _ ⟨rfl, m2, rfl, hm2⟩
  refine g_iand hZ dX8_aloneOf_13 (gi_and _ _) ?_
  refine g_aload_n hZ dX8_aloneOf_14 rfl ?_
  refine g_getr hZ fX8_12 rfl rfl dX8_aloneOf_15 ?_
  refine g_geti hZ fX8_227 rfl rfl dX8_aloneOf_18 hg.2.2.2.1 ?_
  refine g_iload_n hZ dX8_aloneOf_21 rfl ?_
  refine g_iconst hZ dX8_aloneOf_22 ?_
  refine g_ixor hZ dX8_aloneOf_23 (gi_not _) ?_
  refine g_iand hZ dX8_aloneOf_24 (gi_andn _ _) ?_
  refine g_callS hZ (t_X0_of E S n (alnB (rg w n B) B (root : Int)) hn _ _ _ (key 1 (Or.inl rfl) m1 hm1) (key 2 (Or.inr rfl) m2 hm2) hbur) kX8_252 ⟨by decide, by decide⟩ rfl rfl (Nat.le_of_ble_eq_true rfl) dX8_aloneOf_25 ?_
  rintro _ _ ⟨rfl, y, rfl, hy⟩
  refine g_lret hZ dX8_aloneOf_28 rfl ⟨rfl, y, rfl, hy⟩
theorem t_X8_undo (E : gE) (S : gS) (w h n : Nat) (hg : xG S w h n) (B : Nat → Int) (hs : List hEn) (hh : XHs S hs) (hv : ∀ e ∈ hs, gOK e.1 e.2.1 (e.1 * e.2.1)) (ks : List (Nat × Nat)) (hk : XK S ks) : Ct E LAY mX8_undo [.ref (gad E 0)] S (fun r S' => (hs = [] ∧ r = some (iV (-1002)) ∧ S = S') ∨ (∃ gs e, hs = gs ++ [e] ∧ r = some (iV (gs.length : Int)) ∧ Eqx [0, 1, 2, 3, 4, 5, 32, 36] S S' ∧ xG S' e.1 e.2.1 (e.1 * e.2.1) ∧ XB S' (e.1 * e.2.1) (fun k => if k < 15 then e.2.2 k else B k) ∧ XK S' (if e.1 = w ∧ e.2.1 = h then ks else []) ∧ XHs S' gs)) := by
  obtain ⟨g1, g2, g3⟩ := id hh
  refine Ct.intro LAY_ok (by decide +kernel) (Nat.le_of_ble_eq_true rfl) rfl ?_
  intro Z hZ
  refine g_aload_n hZ dX8_undo_0 rfl ?_
  refine g_getr hZ fX8_54 rfl rfl dX8_undo_1 ?_
  refine g_geti hZ fX8_120 rfl rfl dX8_undo_4 g1 ?_
  refine g_iconst hZ dX8_undo_7 ?_
  refine g_isub hZ dX8_undo_8 ?_
  refine g_istore_n hZ dX8_undo_9 (by decide) ?_
  refine g_iload_n hZ dX8_undo_10 rfl ?_
  refine g_if_ge hZ 18 dX8_undo_11 rfl (by omega) (fun c => ?_) (fun c => ?_)
  · obtain ⟨gs, e, rfl⟩ : ∃ gs e, hs = gs ++ [e] := ⟨hs.dropLast, hs.getLast (fun q => by rw [q] at c; simp at c), (List.dropLast_concat_getLast _).symm⟩
    have hl9 : (gs ++ [e]).length = gs.length + 1 := by simp
    obtain ⟨a1, a2, x, a3, a4⟩ := g3 gs.length e (by rw [List.getElem?_append_right (Nat.le_refl _)]; simp)
    have hve := hv e (by simp)
    have e8 : (((gs ++ [e]).length : Nat) : Int) - 1 = (gs.length : Int) := by omega
    obtain ⟨v1, v2, v3, v4, -, v5⟩ := id hve
    have hwO := hg.o
    obtain ⟨u1, u2, u3, u4, u5, u6⟩ := id hwO
    have tail : ∀ (S₁ : gS) (L9 : List (Nat × Value)), Eqx [1, 2, 3, 4, 5, 32] S S₁ → xG S₁ e.1 e.2.1 (e.1 * e.2.1) → XK S₁ (if e.1 = w ∧ e.2.1 = h then ks else []) → lkeep L9 [0, 1] = [(0, .ref (gad E 0)), (1, iV (gs.length : Int))] → Z S₁ L9 76 [] := by
      intro S₁ L9 he hg₁ hk₁ hL9
      refine g_keep hZ [0, 1] hL9 ?_
      have a3₁ : S₁ 39 gs.length = (x : Int) := (he 39 _ rfl).trans a3
      refine g_aload_n hZ dX8_undo_76 rfl ?_
      refine g_aload_n hZ dX8_undo_77 rfl ?_
      refine g_getr hZ fX8_54 rfl rfl dX8_undo_78 ?_
      refine g_getr hZ fX8_130 rfl rfl dX8_undo_81 ?_
      refine g_iload_n hZ dX8_undo_84 rfl ?_
      refine g_lald hZ (gs.length) rfl dX8_undo_85 (rfl) (by omega) (by decide) (a3₁) ?_
      refine g_putj hZ fX8_69 rfl rfl dX8_undo_86 ?_
      refine g_aload_n hZ dX8_undo_89 rfl ?_
      refine g_getr hZ fX8_54 rfl rfl dX8_undo_90 ?_
      refine g_iload_n hZ dX8_undo_93 rfl ?_
      refine g_puti hZ fX8_120 rfl rfl dX8_undo_94 ?_
      refine g_iload_n hZ dX8_undo_97 rfl ?_
      have he₂ : Eqx [0, 36] S₁ (upS (upS S₁ 0 0 (x : Int)) 36 0 (gs.length : Int)) := (Eqx.rf.up rfl).up rfl
      refine g_iret hZ dX8_undo_98 rfl (Or.inr ⟨gs, e, rfl, rfl, (he.mono rfl).tr (he₂.mono rfl), hg₁.x he₂ rfl, ⟨x, ?_, rep_cong a4 (fun k hk => ?_)⟩, hk₁.x he₂ rfl rfl rfl, ?_, by omega, fun i e2 hi => ?_⟩)
      · rw [upS_v _ _ (by decide), upS_eq]
      · rw [if_pos (by omega)]
      · rw [upS_eq]
      · have hil := (List.getElem?_eq_some_iff.mp hi).1
        obtain ⟨b1, b2, y, b3, b4⟩ := g3 i e2 (by rw [List.getElem?_append_left hil]; exact hi)
        exact ⟨(he₂ 37 i rfl).trans ((he 37 i rfl).trans b1), (he₂ 38 i rfl).trans ((he 38 i rfl).trans b2), y, (he₂ 39 i rfl).trans ((he 39 i rfl).trans b3), b4⟩
    have change : ¬ (e.1 = w ∧ e.2.1 = h) → ∀ (L9 : List (Nat × Value)), lkeep L9 [0, 1, 2, 3] = [(0, .ref (gad E 0)), (1, iV (gs.length : Int)), (2, iV (e.1 : Int)), (3, iV (e.2.1 : Int))] → Z S L9 60 [] := by
      intro hne L9 hL9
      refine g_keep hZ [0, 1, 2, 3] hL9 ?_
      refine g_aload_n hZ dX8_undo_60 rfl ?_
      refine g_getr hZ fX8_47 rfl rfl dX8_undo_61 ?_
      refine g_callV hZ (t_X7_empty E S) kX8_88 ⟨by decide, by decide⟩ rfl rfl rfl rfl (Nat.le_of_ble_eq_true rfl) dX8_undo_64 ?_
      rintro _ S₁ ⟨rfl, he₁, hk₁⟩
      refine g_aload_n hZ dX8_undo_67 rfl ?_
      refine g_getr hZ fX8_12 rfl rfl dX8_undo_68 ?_
      refine g_iload_n hZ dX8_undo_71 rfl ?_
      refine g_iload_n hZ dX8_undo_72 rfl ?_
      refine g_callV hZ (t_X1_resize E LAY (Or.inr rfl) S₁ e.1 e.2.1 (e.1 * e.2.1) hve) kX8_65 ⟨by decide, by decide⟩ rfl rfl rfl rfl (Nat.le_of_ble_eq_true rfl) dX8_undo_73 ?_
      rintro _ S₂ ⟨rfl, he₂, hg₂⟩
      exact tail S₂ _ ((he₁.mono rfl).tr (he₂.mono rfl)) hg₂ (by rw [if_neg hne]; exact hk₁.x he₂ rfl rfl rfl) rfl
    rw [e8]
    refine g_aload_n hZ dX8_undo_18 rfl ?_
    refine g_getr hZ fX8_54 rfl rfl dX8_undo_19 ?_
    refine g_getr hZ fX8_123 rfl rfl dX8_undo_22 ?_
    refine g_iload_n hZ dX8_undo_25 rfl ?_
    refine g_iald hZ (gs.length) rfl dX8_undo_26 (rfl) (by omega) (by decide) (a1) ?_
    refine g_istore_n hZ dX8_undo_27 (by decide) ?_
    refine g_aload_n hZ dX8_undo_28 rfl ?_
    refine g_getr hZ fX8_54 rfl rfl dX8_undo_29 ?_
    refine g_getr hZ fX8_127 rfl rfl dX8_undo_32 ?_
    refine g_iload_n hZ dX8_undo_35 rfl ?_
    refine g_iald hZ (gs.length) rfl dX8_undo_36 (rfl) (by omega) (by decide) (a2) ?_
    refine g_istore_n hZ dX8_undo_37 (by decide) ?_
    refine g_iload_n hZ dX8_undo_38 rfl ?_
    refine g_aload_n hZ dX8_undo_39 rfl ?_
    refine g_getr hZ fX8_12 rfl rfl dX8_undo_40 ?_
    refine g_geti hZ fX8_77 rfl rfl dX8_undo_43 hg.1 ?_
    refine g_icmp_ne hZ 60 dX8_undo_46 rfl (by omega) (fun c1 => ?_) (fun c1 => ?_)
    · exact change (fun q => c1 (by rw [q.1])) _ rfl
    · refine g_iload_n hZ dX8_undo_49 rfl ?_
      refine g_aload_n hZ dX8_undo_50 rfl ?_
      refine g_getr hZ fX8_12 rfl rfl dX8_undo_51 ?_
      refine g_geti hZ fX8_81 rfl rfl dX8_undo_54 hg.2.1 ?_
      refine g_icmp_eq hZ 76 dX8_undo_57 rfl (by omega) (fun c2 => ?_) (fun c2 => ?_)
      · have q1 : e.1 = w := by omega
        have q2 : e.2.1 = h := by omega
        refine tail S _ Eqx.rf ?_ (by rw [if_pos ⟨q1, q2⟩]; exact hk) rfl
        rw [q1, q2, u5]
        exact hg
      · exact change (fun q => c2 (by rw [q.2])) _ rfl
  · have h0 : hs = [] := by
      cases hs with
      | nil => rfl
      | cons a l => rw [List.length_cons] at c; omega
    subst h0
    refine g_sipush hZ (z := (-1002)) dX8_undo_14 rfl ?_
    refine g_iret hZ dX8_undo_17 rfl (Or.inl ⟨rfl, rfl, rfl⟩)

