/-! the class: History, ValueTable -/
/-- the class's history: the same entries, each board in one number -/
def XHs (S : gS) (hs : List hEn) : Prop := S 36 0 = (hs.length : Int) ∧ hs.length ≤ 8 ∧ ∀ (i : Nat) (e : hEn), hs[i]? = some e → S 37 i = (e.1 : Int) ∧ S 38 i = (e.2.1 : Int) ∧ ∃ x : Nat, S 39 i = (x : Int) ∧ repX x (e.1 * e.2.1) e.2.2
theorem XHs.x {vs : List Nat} {S S1 : gS} {hs : List hEn} (hh : XHs S hs) (he : Eqx vs S S1) (h1 : vs.contains 36 = false) (h2 : vs.contains 37 = false) (h3 : vs.contains 38 = false) (h4 : vs.contains 39 = false) : XHs S1 hs := by
  refine ⟨(he 36 0 h1).trans hh.1, hh.2.1, fun i e hi => ?_⟩
  obtain ⟨a1, a2, x, a3, a4⟩ := hh.2.2 i e hi
  exact ⟨(he 37 _ h2).trans a1, (he 38 _ h3).trans a2, x, (he 39 _ h4).trans a3, a4⟩
theorem t_X2_dropOldest (E : gE) (S : gS) (hs : List hEn) (hh : XHs S hs) (h8 : hs.length = 8) : Ct E LAY mX2_dropOldest [.ref (gad E 20)] S (fun r S' => r = none ∧ Eqx [36, 37, 38, 39] S S' ∧ XHs S' hs.tail) := by
  obtain ⟨g1, g2, g3⟩ := hh
  refine Ct.intro LAY_ok (by decide +kernel) (Nat.le_of_ble_eq_true rfl) rfl ?_
  intro Z hZ
  have loop : ∀ (m k : Nat) (S₁ : gS), k + m = 8 → 1 ≤ k → Eqx [37, 38, 39] S S₁ → (∀ j, j < k - 1 → S₁ 37 j = S 37 (j + 1) ∧ S₁ 38 j = S 38 (j + 1) ∧ S₁ 39 j = S 39 (j + 1)) → (∀ j, k - 1 ≤ j → S₁ 37 j = S 37 j ∧ S₁ 38 j = S 38 j ∧ S₁ 39 j = S 39 j) → Z S₁ [(0, .ref (gad E 20)), (1, iV (k : Int))] 2 [] := by
    intro m
    induction m with
    | zero =>
      intro k S₁ hk hk1 he f1 f2
      refine g_iload_n hZ dX2_dropOldest_2 rfl ?_
      refine g_bipush hZ (z := 8) dX2_dropOldest_3 rfl ?_
      refine g_icmp_ge hZ 56 dX2_dropOldest_5 rfl (by omega) (fun _ => ?_) (fun cX => absurd (by omega) cX)
      refine g_aload_n hZ dX2_dropOldest_56 rfl ?_
      refine g_bipush hZ (z := 7) dX2_dropOldest_57 rfl ?_
      refine g_puti hZ fX2_22 rfl rfl dX2_dropOldest_59 ?_
      refine g_vret hZ dX2_dropOldest_62 rfl ⟨rfl, (he.mono rfl).up rfl, ?_, by rw [List.length_tail]; omega, fun i e hi => ?_⟩
      · rw [upS_eq, List.length_tail, h8]; rfl
      · rw [List.getElem?_tail] at hi
        have hil := (List.getElem?_eq_some_iff.mp hi).1
        obtain ⟨a1, a2, x, a3, a4⟩ := g3 (i + 1) e hi
        obtain ⟨b1, b2, b3⟩ := f1 i (by omega)
        refine ⟨?_, ?_, x, ?_, a4⟩
        · rw [upS_v _ _ (by decide)]; exact b1.trans a1
        · rw [upS_v _ _ (by decide)]; exact b2.trans a2
        · rw [upS_v _ _ (by decide)]; exact b3.trans a3
    | succ m ih =>
      intro k S₁ hk hk1 he f1 f2
      obtain ⟨q1, q2, q3⟩ := f2 k (by omega)
      refine g_iload_n hZ dX2_dropOldest_2 rfl ?_
      refine g_bipush hZ (z := 8) dX2_dropOldest_3 rfl ?_
      refine g_icmp_ge hZ 56 dX2_dropOldest_5 rfl (by omega) (fun cX => absurd cX (by omega)) (fun _ => ?_)
      refine g_aload_n hZ dX2_dropOldest_8 rfl ?_
      refine g_getr hZ fX2_9 rfl rfl dX2_dropOldest_9 ?_
      refine g_iload_n hZ dX2_dropOldest_12 rfl ?_
      refine g_iconst hZ dX2_dropOldest_13 ?_
      refine g_isub hZ dX2_dropOldest_14 ?_
      refine g_aload_n hZ dX2_dropOldest_15 rfl ?_
      refine g_getr hZ fX2_9 rfl rfl dX2_dropOldest_16 ?_
      refine g_iload_n hZ dX2_dropOldest_19 rfl ?_
      refine g_iald hZ (k) rfl dX2_dropOldest_20 (rfl) (by omega) (by decide) (q1) ?_
      refine g_iast hZ ((k - 1)) rfl dX2_dropOldest_21 (by omega) (by omega) (by decide) ?_
      refine g_aload_n hZ dX2_dropOldest_22 rfl ?_
      refine g_getr hZ fX2_15 rfl rfl dX2_dropOldest_23 ?_
      refine g_iload_n hZ dX2_dropOldest_26 rfl ?_
      refine g_iconst hZ dX2_dropOldest_27 ?_
      refine g_isub hZ dX2_dropOldest_28 ?_
      refine g_aload_n hZ dX2_dropOldest_29 rfl ?_
      refine g_getr hZ fX2_15 rfl rfl dX2_dropOldest_30 ?_
      refine g_iload_n hZ dX2_dropOldest_33 rfl ?_
      refine g_iald hZ (k) rfl dX2_dropOldest_34 (rfl) (by omega) (by decide) (q2) ?_
      refine g_iast hZ ((k - 1)) rfl dX2_dropOldest_35 (by omega) (by omega) (by decide) ?_
      refine g_aload_n hZ dX2_dropOldest_36 rfl ?_
      refine g_getr hZ fX2_18 rfl rfl dX2_dropOldest_37 ?_
      refine g_iload_n hZ dX2_dropOldest_40 rfl ?_
      refine g_iconst hZ dX2_dropOldest_41 ?_
      refine g_isub hZ dX2_dropOldest_42 ?_
      refine g_aload_n hZ dX2_dropOldest_43 rfl ?_
      refine g_getr hZ fX2_18 rfl rfl dX2_dropOldest_44 ?_
      refine g_iload_n hZ dX2_dropOldest_47 rfl ?_
      refine g_lald hZ (k) rfl dX2_dropOldest_48 (rfl) (by omega) (by decide) (q3) ?_
      refine g_last hZ ((k - 1)) rfl dX2_dropOldest_49 (by omega) (by omega) (by decide) ?_
      refine g_iinc hZ dX2_dropOldest_50 rfl (by decide) ?_
      refine g_goto hZ 2 dX2_dropOldest_53 rfl ?_
      refine ih (k + 1) _ (by omega) (by omega) (((he.up rfl).up rfl).up rfl) (fun j hj => ?_) (fun j hj => ?_)
      · by_cases q : j = k - 1
        · subst q
          refine ⟨?_, ?_, ?_⟩
          · rw [upS_v _ _ (by decide), upS_v _ _ (by decide), upS_eq]; congr 1; omega
          · rw [upS_v _ _ (by decide), upS_eq]; congr 1; omega
          · rw [upS_eq]; congr 1; omega
        · obtain ⟨b1, b2, b3⟩ := f1 j (by omega)
          refine ⟨?_, ?_, ?_⟩
          · rw [upS_v _ _ (by decide), upS_v _ _ (by decide), upS_j _ _ q]; exact b1
          · rw [upS_v _ _ (by decide), upS_j _ _ q, upS_v _ _ (by decide)]; exact b2
          · rw [upS_j _ _ q, upS_v _ _ (by decide), upS_v _ _ (by decide)]; exact b3
      · obtain ⟨b1, b2, b3⟩ := f2 j (by omega)
        have q : ¬ j = k - 1 := by omega
        refine ⟨?_, ?_, ?_⟩
        · rw [upS_v _ _ (by decide), upS_v _ _ (by decide), upS_j _ _ q]; exact b1
        · rw [upS_v _ _ (by decide), upS_j _ _ q, upS_v _ _ (by decide)]; exact b2
        · rw [upS_j _ _ q, upS_v _ _ (by decide), upS_v _ _ (by decide)]; exact b3
  refine g_iconst hZ dX2_dropOldest_0 ?_
  refine g_istore_n hZ dX2_dropOldest_1 (by decide) ?_
  exact loop 7 1 S (by omega) (by omega) Eqx.rf (fun j hj => absurd hj (by omega)) (fun j _ => ⟨rfl, rfl, rfl⟩)
theorem t_X2_record (E : gE) (S : gS) (w h n : Nat) (hg : xG S w h n) (hs : List hEn) (hh : XHs S hs) (x : Nat) (B : Nat → Int) (hx : repX x n B) : Ct E LAY mX2_record [.ref (gad E 20), .ref (gad E 1), jV (x : Int)] S (fun r S' => r = none ∧ Eqx [36, 37, 38, 39] S S' ∧ XHs S' (hpush hs (w, h, B))) := by
  obtain ⟨g1, g2, g3⟩ := id hh
  have en : n = w * h := hg.o.2.2.2.2.1.symm
  refine Ct.intro LAY_ok (by decide +kernel) (Nat.le_of_ble_eq_true rfl) rfl ?_
  intro Z hZ
  have tail : ∀ (S₁ : gS) (gs : List hEn), XHs S₁ gs → gs.length ≤ 7 → Eqx [36, 37, 38, 39] S S₁ → gs ++ [(w, h, B)] = hpush hs (w, h, B) → Z S₁ [(0, .ref (gad E 20)), (1, .ref (gad E 1)), (2, jV (x : Int))] 13 [] := by
    intro S₁ gs hh₁ hl he hp
    obtain ⟨p1, p2, p3⟩ := hh₁
    have hg₁ := hg.x he rfl
    refine g_aload_n hZ dX2_record_13 rfl ?_
    refine g_getr hZ fX2_9 rfl rfl dX2_record_14 ?_
    refine g_aload_n hZ dX2_record_17 rfl ?_
    refine g_geti hZ fX2_22 rfl rfl dX2_record_18 p1 ?_
    refine g_aload_n hZ dX2_record_21 rfl ?_
    refine g_geti hZ fX2_29 rfl rfl dX2_record_22 hg₁.1 ?_
    refine g_iast hZ (gs.length) rfl dX2_record_25 (rfl) (by omega) (by decide) ?_
    refine g_aload_n hZ dX2_record_26 rfl ?_
    refine g_getr hZ fX2_15 rfl rfl dX2_record_27 ?_
    refine g_aload_n hZ dX2_record_30 rfl ?_
    refine g_geti hZ fX2_22 rfl rfl dX2_record_31 p1 ?_
    refine g_aload_n hZ dX2_record_34 rfl ?_
    refine g_geti hZ fX2_34 rfl rfl dX2_record_35 hg₁.2.1 ?_
    refine g_iast hZ (gs.length) rfl dX2_record_38 (rfl) (by omega) (by decide) ?_
    refine g_aload_n hZ dX2_record_39 rfl ?_
    refine g_getr hZ fX2_18 rfl rfl dX2_record_40 ?_
    refine g_aload_n hZ dX2_record_43 rfl ?_
    refine g_geti hZ fX2_22 rfl rfl dX2_record_44 p1 ?_
    refine g_lload_n hZ dX2_record_47 rfl ?_
    refine g_last hZ (gs.length) rfl dX2_record_48 (rfl) (by omega) (by decide) ?_
    refine g_aload_n hZ dX2_record_49 rfl ?_
    refine g_dup hZ dX2_record_50 rfl ?_
    refine g_geti hZ fX2_22 rfl rfl dX2_record_51 p1 ?_
    refine g_iconst hZ dX2_record_54 ?_
    refine g_iadd hZ dX2_record_55 ?_
    refine g_puti hZ fX2_22 rfl rfl dX2_record_56 ?_
    refine g_vret hZ dX2_record_59 rfl ⟨rfl, (((he.up rfl).up rfl).up rfl).up rfl, ?_⟩
    rw [← hp]
    have hl1 : (gs ++ [(w, h, B)]).length = gs.length + 1 := by rw [List.length_append]; rfl
    refine ⟨?_, by omega, fun i e hi => ?_⟩
    · rw [upS_eq, hl1]; rfl
    · have hil := (List.getElem?_eq_some_iff.mp hi).1
      by_cases q : i < gs.length
      · rw [List.getElem?_append_left q] at hi
        obtain ⟨a1, a2, y, a3, a4⟩ := p3 i e hi
        have q2 : ¬ i = gs.length := by omega
        refine ⟨?_, ?_, y, ?_, a4⟩
        · rw [upS_v _ _ (by decide), upS_v _ _ (by decide), upS_v _ _ (by decide), upS_j _ _ q2]; exact a1
        · rw [upS_v _ _ (by decide), upS_v _ _ (by decide), upS_j _ _ q2, upS_v _ _ (by decide)]; exact a2
        · rw [upS_v _ _ (by decide), upS_j _ _ q2, upS_v _ _ (by decide), upS_v _ _ (by decide)]; exact a3
      · have : i = gs.length := by omega
        subst this
        rw [List.getElem?_append_right (Nat.le_refl _)] at hi
        simp at hi
        subst hi
        refine ⟨?_, ?_, x, ?_, by rw [en] at hx; exact hx⟩
        · rw [upS_v _ _ (by decide), upS_v _ _ (by decide), upS_v _ _ (by decide), upS_eq]
        · rw [upS_v _ _ (by decide), upS_v _ _ (by decide), upS_eq]
        · rw [upS_v _ _ (by decide), upS_eq]
  refine g_aload_n hZ dX2_record_0 rfl ?_
  refine g_geti hZ fX2_22 rfl rfl dX2_record_1 g1 ?_
  refine g_bipush hZ (z := 8) dX2_record_4 rfl ?_
  refine g_icmp_lt hZ 13 dX2_record_6 rfl (by omega) (fun c => ?_) (fun c => ?_)
  · exact tail S hs hh (by omega) Eqx.rf (by unfold hpush; rw [if_neg (by omega)])
  · refine g_aload_n hZ dX2_record_9 rfl ?_
    refine g_callV hZ (t_X2_dropOldest E S hs hh (by omega)) kX2_26 ⟨by decide, by decide⟩ rfl rfl rfl rfl (Nat.le_of_ble_eq_true rfl) dX2_record_10 ?_
    rintro _ S₂ ⟨rfl, he₂, hh₂⟩
    exact tail S₂ hs.tail hh₂ (by rw [List.length_tail]; omega) he₂ (by unfold hpush; rw [if_pos (by omega)])
/-- the class's table of values -/
def XK (S : gS) (ks : List (Nat × Nat)) : Prop := S 32 0 = (ks.length : Int) ∧ ks.length ≤ 40 ∧ (∀ (i : Nat) (e : Nat × Nat), ks[i]? = some e → S 34 i = (e.1 : Int) ∧ S 35 i = (e.2 : Int)) ∧ ∀ e ∈ ks, e.1 < 35184372088832 ∧ e.2 ≤ 16
theorem XK.x {vs : List Nat} {S S1 : gS} {ks : List (Nat × Nat)} (hh : XK S ks) (he : Eqx vs S S1) (h1 : vs.contains 32 = false) (h2 : vs.contains 34 = false) (h3 : vs.contains 35 = false) : XK S1 ks :=
  ⟨(he 32 0 h1).trans hh.1, hh.2.1, fun i e hi => ⟨(he 34 _ h2).trans (hh.2.2.1 i e hi).1, (he 35 _ h3).trans (hh.2.2.1 i e hi).2⟩, hh.2.2.2⟩
theorem t_X7_empty (E : gE) (S : gS) : Ct E LAY mX7_empty [.ref (gad E 17)] S (fun r S' => r = none ∧ Eqx [32] S S' ∧ XK S' []) := by
  refine Ct.intro LAY_ok (by decide +kernel) (Nat.le_of_ble_eq_true rfl) rfl ?_
  intro Z hZ
  refine g_aload_n hZ dX7_empty_0 rfl ?_
  refine g_iconst hZ dX7_empty_1 ?_
  refine g_puti hZ fX7_19 rfl rfl dX7_empty_2 ?_
  refine g_vret hZ dX7_empty_5 rfl ⟨rfl, Eqx.rf.up rfl, upS_eq _ _ _ _, by simp, fun i e hi => by simp at hi, fun e he => by simp at he⟩
/-- where an entry stands: -1 if none -/
def kat (ks : List (Nat × Nat)) (x : Nat) (z : Int) : Prop := (z = -1 ∧ kfind ks x = none) ∨ ∃ (i : Nat) (e : Nat × Nat), z = (i : Int) ∧ ks[i]? = some e ∧ e.1 = x ∧ kfind ks x = some e.2
theorem t_X7_find (E : gE) (S : gS) (ks : List (Nat × Nat)) (hk : XK S ks) (x : Nat) (hx : x < 35184372088832) : Ct E LAY mX7_find [.ref (gad E 17), jV (x : Int)] S (fun r S' => S = S' ∧ ∃ z, r = some (iV z) ∧ kat ks x z) := by
  obtain ⟨g1, g2, g3, g4⟩ := id hk
  refine Ct.intro LAY_ok (by decide +kernel) (Nat.le_of_ble_eq_true rfl) rfl ?_
  intro Z hZ
  have loop : ∀ (m i : Nat), i + m = ks.length → (∀ (j : Nat) (e : Nat × Nat), j < i → ks[j]? = some e → e.1 ≠ x) → Z S [(0, .ref (gad E 17)), (1, jV (x : Int)), (3, iV (i : Int))] 2 [] := by
    intro m
    induction m with
    | zero =>
      intro i hi hno
      refine g_iload_n hZ dX7_find_2 rfl ?_
      refine g_aload_n hZ dX7_find_3 rfl ?_
      refine g_geti hZ fX7_19 rfl rfl dX7_find_4 g1 ?_
      refine g_icmp_ge hZ 29 dX7_find_7 rfl (by omega) (fun _ => ?_) (fun cX => absurd (by omega) cX)
      refine g_iconst hZ dX7_find_29 ?_
      refine g_iret hZ dX7_find_30 rfl ⟨rfl, _, rfl, Or.inl ⟨rfl, kfind_no (fun j e hj => hno j e (by have := (List.getElem?_eq_some_iff.mp hj).1; omega) hj)⟩⟩
    | succ m ih =>
      intro i hi hno
      obtain ⟨e, he⟩ : ∃ e, ks[i]? = some e := ⟨_, List.getElem?_eq_getElem (by omega)⟩
      obtain ⟨e1, e2⟩ := g3 i e he
      obtain ⟨b1, b2⟩ := g4 e (List.mem_of_getElem? he)
      refine g_iload_n hZ dX7_find_2 rfl ?_
      refine g_aload_n hZ dX7_find_3 rfl ?_
      refine g_geti hZ fX7_19 rfl rfl dX7_find_4 g1 ?_
      refine g_icmp_ge hZ 29 dX7_find_7 rfl (by omega) (fun cX => absurd cX (by omega)) (fun _ => ?_)
      refine g_aload_n hZ dX7_find_10 rfl ?_
      refine g_getr hZ fX7_9 rfl rfl dX7_find_11 ?_
      refine g_iload_n hZ dX7_find_14 rfl ?_
      refine g_lald hZ (i) rfl dX7_find_15 (rfl) (by omega) (by decide) (e1) ?_
      refine g_lload_n hZ dX7_find_16 rfl ?_
      refine g_lcmp hZ dX7_find_17 (by omega) (by omega) ?_
      by_cases q : e.1 = x
      · rw [if_pos (by omega)]
        refine g_if_ne hZ 23 dX7_find_18 rfl (by omega) (fun cX => absurd (by omega) cX) (fun _ => ?_)
        refine g_iload_n hZ dX7_find_21 rfl ?_
        refine g_iret hZ dX7_find_22 rfl ⟨rfl, _, rfl, Or.inr ⟨i, e, rfl, he, q, kfind_drop hno he q⟩⟩
      · rw [if_neg (by omega)]
        refine g_if_ne hZ 23 dX7_find_18 rfl (by split <;> omega) (fun _ => ?_) (fun cX => absurd cX (by split <;> omega))
        refine g_iinc hZ dX7_find_23 rfl (by decide) ?_
        refine g_goto hZ 2 dX7_find_26 rfl ?_
        exact ih (i + 1) (by omega) (fun j y hj hy => by
          by_cases q2 : j = i
          · subst q2; rw [he] at hy; cases hy; exact q
          · exact hno j y (by omega) hy)
  refine g_iconst hZ dX7_find_0 ?_
  refine g_istore_n hZ dX7_find_1 (by decide) ?_
  exact loop ks.length 0 (by omega) (fun j e hj => absurd hj (Nat.not_lt_zero j))
theorem t_X7_put (E : gE) (S : gS) (ks : List (Nat × Nat)) (hk : XK S ks) (x v : Nat) (hx : x < 35184372088832) (hv : v ≤ 16) : Ct E LAY mX7_put [.ref (gad E 17), jV (x : Int), iV (v : Int)] S (fun r S' => r = none ∧ Eqx [32, 34, 35] S S' ∧ XK S' (kpush ks (x, v))) := by
  obtain ⟨g1, g2, g3, g4⟩ := id hk
  refine Ct.intro LAY_ok (by decide +kernel) (Nat.le_of_ble_eq_true rfl) rfl ?_
  intro Z hZ
  have tail : ∀ (S₁ : gS) (gs : List (Nat × Nat)), XK S₁ gs → gs.length ≤ 39 → Eqx [32, 34, 35] S S₁ → gs ++ [(x, v)] = kpush ks (x, v) → Z S₁ [(0, .ref (gad E 17)), (1, jV (x : Int)), (3, iV (v : Int))] 13 [] := by
    intro S₁ gs hk₁ hl he hp
    obtain ⟨p1, p2, p3, p4⟩ := hk₁
    refine g_aload_n hZ dX7_put_13 rfl ?_
    refine g_getr hZ fX7_9 rfl rfl dX7_put_14 ?_
    refine g_aload_n hZ dX7_put_17 rfl ?_
    refine g_geti hZ fX7_19 rfl rfl dX7_put_18 p1 ?_
    refine g_lload_n hZ dX7_put_21 rfl ?_
    refine g_last hZ (gs.length) rfl dX7_put_22 (rfl) (by omega) (by decide) ?_
    refine g_aload_n hZ dX7_put_23 rfl ?_
    refine g_getr hZ fX7_15 rfl rfl dX7_put_24 ?_
    refine g_aload_n hZ dX7_put_27 rfl ?_
    refine g_geti hZ fX7_19 rfl rfl dX7_put_28 p1 ?_
    refine g_iload_n hZ dX7_put_31 rfl ?_
    refine g_iast hZ (gs.length) rfl dX7_put_32 (rfl) (by omega) (by decide) ?_
    refine g_aload_n hZ dX7_put_33 rfl ?_
    refine g_dup hZ dX7_put_34 rfl ?_
    refine g_geti hZ fX7_19 rfl rfl dX7_put_35 p1 ?_
    refine g_iconst hZ dX7_put_38 ?_
    refine g_iadd hZ dX7_put_39 ?_
    refine g_puti hZ fX7_19 rfl rfl dX7_put_40 ?_
    refine g_vret hZ dX7_put_43 rfl ⟨rfl, ((he.up rfl).up rfl).up rfl, ?_⟩
    rw [← hp]
    have hl1 : (gs ++ [(x, v)]).length = gs.length + 1 := by rw [List.length_append]; rfl
    refine ⟨?_, by omega, fun i e hi => ?_, fun e he => ?_⟩
    · rw [upS_eq, hl1]; rfl
    · have hil := (List.getElem?_eq_some_iff.mp hi).1
      by_cases q : i < gs.length
      · rw [List.getElem?_append_left q] at hi
        obtain ⟨a1, a2⟩ := p3 i e hi
        have q2 : ¬ i = gs.length := by omega
        constructor
        · rw [upS_v _ _ (by decide), upS_v _ _ (by decide), upS_j _ _ q2]; exact a1
        · rw [upS_v _ _ (by decide), upS_j _ _ q2, upS_v _ _ (by decide)]; exact a2
      · have : i = gs.length := by omega
        subst this
        rw [List.getElem?_append_right (Nat.le_refl _)] at hi
        simp at hi
        subst hi
        constructor
        · rw [upS_v _ _ (by decide), upS_v _ _ (by decide), upS_eq]
        · rw [upS_v _ _ (by decide), upS_eq]
    · rcases List.mem_append.mp he with z | z
      · exact p4 e z
      · rw [List.mem_singleton] at z
        subst z
        exact ⟨hx, hv⟩
  refine g_aload_n hZ dX7_put_0 rfl ?_
  refine g_geti hZ fX7_19 rfl rfl dX7_put_1 g1 ?_
  refine g_bipush hZ (z := 40) dX7_put_4 rfl ?_
  refine g_icmp_lt hZ 13 dX7_put_6 rfl (by omega) (fun c => ?_) (fun c => ?_)
  · exact tail S ks hk (by omega) Eqx.rf (by unfold kpush; rw [if_neg (by omega)])
  · refine g_aload_n hZ dX7_put_9 rfl ?_
    refine g_callV hZ (t_X7_empty E S) kX7_23 ⟨by decide, by decide⟩ rfl rfl rfl rfl (Nat.le_of_ble_eq_true rfl) dX7_put_10 ?_
    rintro _ S₂ ⟨rfl, he₂, hk₂⟩
    exact tail S₂ [] hk₂ (by simp) (he₂.mono rfl) (by unfold kpush; rw [if_pos (by omega)])
