/-! the class: Script -/
def preM (tx : List Nat) (i w : Nat) : Prop := ∀ j, j < sLn w → chA tx (i + j) = sCh w j
def rdC (tx : List Nat) (a : Nat) : Option (Nat × Nat) := if chA tx a = 32 ∧ isD (chA tx (a + 1)) then some (if isD (chA tx (a + 2)) then (10 * (chA tx (a + 1) - 48) + (chA tx (a + 2) - 48), a + 3) else (chA tx (a + 1) - 48, a + 2)) else none
def rdCs (tx : List Nat) : Nat → Nat → Option (List Nat × Nat)
  | 0, a => some ([], a)
  | k + 1, a => match rdC tx a with
    | none => none
    | some (v, b) => match rdCs tx k b with
      | none => none
      | some (vs, c) => some (v :: vs, c)
theorem rdC_N (tx : List Nat) (a : Nat) : (rdC tx a = none → rdN tx a = none) ∧ ∀ v b, rdC tx a = some (v, b) → rdN tx a = some (v, b) ∨ (rdN tx a = none ∧ isD (chA tx b)) := by
  unfold rdC rdN
  by_cases c0 : chA tx a = 32 ∧ isD (chA tx (a + 1))
  · rw [if_pos c0]
    refine ⟨fun h => (by cases h), fun v b h => ?_⟩
    by_cases c2 : isD (chA tx (a + 2))
    · rw [if_pos c2] at h
      simp only [Option.some.injEq, Prod.mk.injEq] at h
      obtain ⟨hv, hb⟩ := h
      subst hv; subst hb
      by_cases c3 : isD (chA tx (a + 3))
      · have e : dct tx (a + 1) = 3 := dct_of (fun j hj => by
          rcases (show j = 0 ∨ j = 1 ∨ j = 2 by omega) with rfl | rfl | rfl
          · exact c0.2
          · exact c2
          · exact c3) (Nat.le_refl 3) (Or.inl rfl)
        right
        rw [e]
        exact ⟨if_neg (fun q => by omega), c3⟩
      · have e : dct tx (a + 1) = 2 := dct_of (fun j hj => by
          rcases (show j = 0 ∨ j = 1 by omega) with rfl | rfl
          · exact c0.2
          · exact c2) (by omega) (Or.inr c3)
        left
        rw [e, if_pos ⟨c0.1, Or.inr rfl⟩]
        simp only [nvT]
        congr 2
        show 10 * (10 * 0 + (chA tx (a + 1) - 48)) + (chA tx (a + 2) - 48) = 10 * (chA tx (a + 1) - 48) + (chA tx (a + 2) - 48)
        omega
    · rw [if_neg c2] at h
      simp only [Option.some.injEq, Prod.mk.injEq] at h
      obtain ⟨hv, hb⟩ := h
      subst hv; subst hb
      have e : dct tx (a + 1) = 1 := dct_of (fun j hj => by
        have : j = 0 := by omega
        subst this
        exact c0.2) (by omega) (Or.inr c2)
      left
      rw [e, if_pos ⟨c0.1, Or.inl rfl⟩]
      simp only [nvT]
      congr 2
      show 10 * 0 + (chA tx (a + 1) - 48) = chA tx (a + 1) - 48
      omega
  · rw [if_neg c0]
    refine ⟨fun _ => if_neg (fun q => ?_), fun v b h => by cases h⟩
    have e : dct tx (a + 1) = 0 := by
      unfold dct
      rw [if_neg (fun z => c0 ⟨q.1, z⟩)]
    omega
theorem rdC_no {tx : List Nat} {a : Nat} (h : chA tx a ≠ 32) : rdC tx a = none := by
  unfold rdC
  rw [if_neg (fun q => h q.1)]
theorem rdC_ok {tx : List Nat} {a v b : Nat} (h : rdC tx a = some (v, b)) : b ≤ a + 3 := by
  unfold rdC at h
  split at h
  · split at h
    · simp only [Option.some.injEq, Prod.mk.injEq] at h; omega
    · simp only [Option.some.injEq, Prod.mk.injEq] at h; omega
  · cases h
theorem rdCs_N (tx : List Nat) : ∀ (k a : Nat), (rdCs tx k a = none → rdNs tx k a = none) ∧ ∀ vs b, rdCs tx k a = some (vs, b) → rdNs tx k a = some (vs, b) ∨ (rdNs tx k a = none ∧ isD (chA tx b))
  | 0, a => ⟨fun h => (by cases h), fun vs b h => Or.inl h⟩
  | k + 1, a => by
    obtain ⟨n1, n2⟩ := rdC_N tx a
    rw [rdCs, rdNs]
    cases e : rdC tx a with
    | none => rw [n1 e]; exact ⟨fun _ => rfl, fun vs b h => by cases h⟩
    | some q =>
      obtain ⟨v, b⟩ := q
      obtain ⟨i1, i2⟩ := rdCs_N tx k b
      simp only
      rcases n2 v b e with e2 | ⟨e2, e3⟩
      · rw [e2]
        simp only
        cases f : rdCs tx k b with
        | none => rw [i1 f]; exact ⟨fun _ => rfl, fun vs c h => by cases h⟩
        | some q2 =>
          obtain ⟨ws, c⟩ := q2
          refine ⟨fun h => (by cases h), fun vs c2 h => ?_⟩
          simp only [Option.some.injEq, Prod.mk.injEq] at h
          obtain ⟨hv, hb⟩ := h
          subst hv; subst hb
          rcases i2 ws c f with g | ⟨g1, g2⟩
          · left; rw [g]
          · right; rw [g1]; exact ⟨rfl, g2⟩
      · rw [e2]
        refine ⟨fun _ => rfl, fun vs c h => Or.inr ⟨rfl, ?_⟩⟩
        cases k with
        | zero =>
          simp only [rdCs, Option.some.injEq, Prod.mk.injEq] at h
          rw [← h.2]; exact e3
        | succ k =>
          rw [rdCs, rdC_no (by omega)] at h
          simp at h
def fin59 (tx : List Nat) (w : Nat) (vs : List Nat) (o : Option (List Nat × Nat)) : Option (Nat × List Nat × Nat) := match o with
  | none => none
  | some (ws, b) => if chA tx b = 59 then some (w, vs ++ ws, b + 1) else none
theorem wrd_pre {tx : List Nat} {i w : Nat} (hw : w < 6) (h : preM tx i w) : (isL (chA tx (i + sLn w)) ∧ wrd tx i = none) ∨ (¬ isL (chA tx (i + sLn w)) ∧ wrd tx i = some (w, sLn w)) := by
  rcases (show w = 0 ∨ w = 1 ∨ w = 2 ∨ w = 3 ∨ w = 4 ∨ w = 5 by omega) with rfl | rfl | rfl | rfl | rfl | rfl
  · have e0 : chA tx i = 102 := h 0 (by decide)
    have e1 : chA tx (i + 1) = 114 := h 1 (by decide)
    have e2 : chA tx (i + 2) = 101 := h 2 (by decide)
    have e3 : chA tx (i + 3) = 101 := h 3 (by decide)
    by_cases q : isL (chA tx (i + 4))
    · exact Or.inl ⟨q, wrd_no (fun z => z.2.2.2.2 q) (by omega) (by omega) (by omega) (by omega) (by omega)⟩
    · exact Or.inr ⟨q, wrd_y0 ⟨e0, e1, e2, e3, q⟩⟩
  · have e0 : chA tx i = 108 := h 0 (by decide)
    have e1 : chA tx (i + 1) = 101 := h 1 (by decide)
    have e2 : chA tx (i + 2) = 102 := h 2 (by decide)
    have e3 : chA tx (i + 3) = 116 := h 3 (by decide)
    by_cases q : isL (chA tx (i + 4))
    · exact Or.inl ⟨q, wrd_no (by omega) (fun z => z.2.2.2.2 q) (by omega) (by omega) (by omega) (by omega)⟩
    · exact Or.inr ⟨q, wrd_y1 ⟨e0, e1, e2, e3, q⟩⟩
  · have e0 : chA tx i = 114 := h 0 (by decide)
    have e1 : chA tx (i + 1) = 105 := h 1 (by decide)
    have e2 : chA tx (i + 2) = 103 := h 2 (by decide)
    have e3 : chA tx (i + 3) = 104 := h 3 (by decide)
    have e4 : chA tx (i + 4) = 116 := h 4 (by decide)
    by_cases q : isL (chA tx (i + 5))
    · exact Or.inl ⟨q, wrd_no (by omega) (by omega) (fun z => z.2.2.2.2.2 q) (by omega) (by omega) (by omega)⟩
    · exact Or.inr ⟨q, wrd_y2 ⟨e0, e1, e2, e3, e4, q⟩⟩
  · have e0 : chA tx i = 98 := h 0 (by decide)
    have e1 : chA tx (i + 1) = 117 := h 1 (by decide)
    have e2 : chA tx (i + 2) = 114 := h 2 (by decide)
    have e3 : chA tx (i + 3) = 110 := h 3 (by decide)
    by_cases q : isL (chA tx (i + 4))
    · exact Or.inl ⟨q, wrd_no (by omega) (by omega) (by omega) (fun z => z.2.2.2.2 q) (by omega) (by omega)⟩
    · exact Or.inr ⟨q, wrd_y3 ⟨e0, e1, e2, e3, q⟩⟩
  · have e0 : chA tx i = 109 := h 0 (by decide)
    have e1 : chA tx (i + 1) = 111 := h 1 (by decide)
    have e2 : chA tx (i + 2) = 118 := h 2 (by decide)
    have e3 : chA tx (i + 3) = 101 := h 3 (by decide)
    by_cases q : isL (chA tx (i + 4))
    · exact Or.inl ⟨q, wrd_no (by omega) (by omega) (by omega) (by omega) (fun z => z.2.2.2.2 q) (by omega)⟩
    · exact Or.inr ⟨q, wrd_y4 ⟨e0, e1, e2, e3, q⟩⟩
  · have e0 : chA tx i = 112 := h 0 (by decide)
    have e1 : chA tx (i + 1) = 97 := h 1 (by decide)
    have e2 : chA tx (i + 2) = 115 := h 2 (by decide)
    have e3 : chA tx (i + 3) = 115 := h 3 (by decide)
    by_cases q : isL (chA tx (i + 4))
    · exact Or.inl ⟨q, wrd_no (by omega) (by omega) (by omega) (by omega) (by omega) (fun z => z.2.2.2.2 q)⟩
    · exact Or.inr ⟨q, wrd_y5 ⟨e0, e1, e2, e3, q⟩⟩
theorem pcmd_pre {tx : List Nat} {i w : Nat} (hw : w < 6) (h : preM tx i w) : pcmd tx i = fin59 tx w [] (rdCs tx (cntW w) (i + sLn w)) := by
  rcases wrd_pre hw h with ⟨q, e⟩ | ⟨q, e⟩
  · have el : pcmd tx i = none := by unfold pcmd; rw [e]
    rw [el]
    unfold isL at q
    cases k : cntW w with
    | zero =>
      show none = if chA tx (i + sLn w) = 59 then _ else none
      rw [if_neg (by omega)]
    | succ k =>
      rw [rdCs, rdC_no (by omega)]
      rfl
  · unfold pcmd
    rw [e]
    simp only
    obtain ⟨n1, n2⟩ := rdCs_N tx (cntW w) (i + sLn w)
    cases f : rdCs tx (cntW w) (i + sLn w) with
    | none => rw [n1 f]; rfl
    | some p =>
      obtain ⟨vs, b⟩ := p
      rcases n2 vs b f with g | ⟨g1, g2⟩
      · rw [g]; rfl
      · rw [g1]
        unfold isD at g2
        show none = if chA tx b = 59 then _ else none
        rw [if_neg (by omega)]
theorem pcmd_nopre {tx : List Nat} {i : Nat} (h : ∀ w, w < 6 → ¬ preM tx i w) : pcmd tx i = none := by
  have key : ∀ (w : Nat), w < 6 → (sLn w = 4 → ¬ (chA tx i = sCh w 0 ∧ chA tx (i + 1) = sCh w 1 ∧ chA tx (i + 2) = sCh w 2 ∧ chA tx (i + 3) = sCh w 3)) := fun w hw hl q => h w hw (fun j hj => by
    rcases (show j = 0 ∨ j = 1 ∨ j = 2 ∨ j = 3 by omega) with rfl | rfl | rfl | rfl
    · exact q.1
    · exact q.2.1
    · exact q.2.2.1
    · exact q.2.2.2)
  have e : wrd tx i = none := wrd_no (fun q => key 0 (by omega) rfl ⟨q.1, q.2.1, q.2.2.1, q.2.2.2.1⟩) (fun q => key 1 (by omega) rfl ⟨q.1, q.2.1, q.2.2.1, q.2.2.2.1⟩) (fun q => h 2 (by omega) (fun j hj => by
    have hj : j < 5 := hj
    rcases (show j = 0 ∨ j = 1 ∨ j = 2 ∨ j = 3 ∨ j = 4 by omega) with rfl | rfl | rfl | rfl | rfl
    · exact q.1
    · exact q.2.1
    · exact q.2.2.1
    · exact q.2.2.2.1
    · exact q.2.2.2.2.1)) (fun q => key 3 (by omega) rfl ⟨q.1, q.2.1, q.2.2.1, q.2.2.2.1⟩) (fun q => key 4 (by omega) rfl ⟨q.1, q.2.1, q.2.2.1, q.2.2.2.1⟩) (fun q => key 5 (by omega) rfl ⟨q.1, q.2.1, q.2.2.1, q.2.2.2.1⟩)
  unfold pcmd
  rw [e]
theorem XT.ch {S : gS} {tx : List Nat} (h : XT S tx) {k : Nat} (hk : k < tx.length) : S 42 k = (chA tx k : Int) := by
  obtain ⟨x, hx⟩ : ∃ x, tx[k]? = some x := ⟨_, List.getElem?_eq_getElem hk⟩
  rw [h.2.2.1 k x hx]
  unfold chA
  rw [hx]
  rfl
theorem t_X6_hasSign (E : gE) (S : gS) (tx : List Nat) (hT : XT S tx) (k : Nat) (hk : k < 1000) (c : Nat) (hc0 : 0 < c) (hc : c < 127) : Ct E LAY mX6_hasSign [.ref (gad E 24), iV (k : Int), iV (c : Int)] S (fun r S' => S = S' ∧ ∃ z, r = some (iV z) ∧ isB z (chA tx k = c)) := by
  have hl := hT.2.1
  have hlt := chA_lt hT.2.2.2 k
  refine Ct.intro LAY_ok (by decide +kernel) (Nat.le_of_ble_eq_true rfl) rfl ?_
  intro Z hZ
  have no : ¬ chA tx k = c → Z S [(0, .ref (gad E 24)), (1, iV (k : Int)), (2, iV (c : Int))] 26 [] := by
    intro h
    refine g_iconst hZ dX6_hasSign_26 ?_
    refine g_zret hZ dX6_hasSign_27 rfl (Or.inl rfl) ⟨rfl, 0, rfl, Or.inr ⟨rfl, h⟩⟩
  refine g_iload_n hZ dX6_hasSign_0 rfl ?_
  refine g_if_lt hZ 26 dX6_hasSign_1 rfl (by omega) (fun cX => absurd cX (by omega)) (fun _ => ?_)
  refine g_iload_n hZ dX6_hasSign_4 rfl ?_
  refine g_aload_n hZ dX6_hasSign_5 rfl ?_
  refine g_geti hZ fX6_19 rfl rfl dX6_hasSign_6 hT.1 ?_
  refine g_icmp_ge hZ 26 dX6_hasSign_9 rfl (by omega) (fun c1 => ?_) (fun c1 => ?_)
  · exact no (by rw [chA_out (by omega)]; omega)
  · refine g_aload_n hZ dX6_hasSign_12 rfl ?_
    refine g_getr hZ fX6_9 rfl rfl dX6_hasSign_13 ?_
    refine g_iload_n hZ dX6_hasSign_16 rfl ?_
    refine g_cald hZ (k) rfl dX6_hasSign_17 (rfl) (by omega) (by decide) (hT.ch (by omega)) ?_
    refine g_iload_n hZ dX6_hasSign_18 rfl ?_
    refine g_icmp_ne hZ 26 dX6_hasSign_19 rfl (by omega) (fun c2 => ?_) (fun c2 => ?_)
    · exact no (by omega)
    · refine g_iconst hZ dX6_hasSign_22 ?_
      refine g_goto hZ 27 dX6_hasSign_23 rfl ?_
      refine g_zret hZ dX6_hasSign_27 rfl (Or.inr rfl) ⟨rfl, 1, rfl, Or.inl ⟨rfl, by omega⟩⟩
theorem t_X6_hasDigit (E : gE) (S : gS) (tx : List Nat) (hT : XT S tx) (k : Nat) (hk : k < 1000) : Ct E LAY mX6_hasDigit [.ref (gad E 24), iV (k : Int)] S (fun r S' => S = S' ∧ ∃ z, r = some (iV z) ∧ isB z (isD (chA tx k))) := by
  have hl := hT.2.1
  have hlt := chA_lt hT.2.2.2 k
  refine Ct.intro LAY_ok (by decide +kernel) (Nat.le_of_ble_eq_true rfl) rfl ?_
  intro Z hZ
  have no : ¬ isD (chA tx k) → Z S [(0, .ref (gad E 24)), (1, iV (k : Int))] 38 [] := by
    intro h
    refine g_iconst hZ dX6_hasDigit_38 ?_
    refine g_zret hZ dX6_hasDigit_39 rfl (Or.inl rfl) ⟨rfl, 0, rfl, Or.inr ⟨rfl, h⟩⟩
  unfold isD at no
  refine g_iload_n hZ dX6_hasDigit_0 rfl ?_
  refine g_if_lt hZ 38 dX6_hasDigit_1 rfl (by omega) (fun cX => absurd cX (by omega)) (fun _ => ?_)
  refine g_iload_n hZ dX6_hasDigit_4 rfl ?_
  refine g_aload_n hZ dX6_hasDigit_5 rfl ?_
  refine g_geti hZ fX6_19 rfl rfl dX6_hasDigit_6 hT.1 ?_
  refine g_icmp_ge hZ 38 dX6_hasDigit_9 rfl (by omega) (fun c1 => ?_) (fun c1 => ?_)
  · exact no (by rw [chA_out (by omega)]; omega)
  · refine g_aload_n hZ dX6_hasDigit_12 rfl ?_
    refine g_getr hZ fX6_9 rfl rfl dX6_hasDigit_13 ?_
    refine g_iload_n hZ dX6_hasDigit_16 rfl ?_
    refine g_cald hZ (k) rfl dX6_hasDigit_17 (rfl) (by omega) (by decide) (hT.ch (by omega)) ?_
    refine g_bipush hZ (z := 48) dX6_hasDigit_18 rfl ?_
    refine g_icmp_lt hZ 38 dX6_hasDigit_20 rfl (by omega) (fun c2 => ?_) (fun c2 => ?_)
    · exact no (by omega)
    · refine g_aload_n hZ dX6_hasDigit_23 rfl ?_
      refine g_getr hZ fX6_9 rfl rfl dX6_hasDigit_24 ?_
      refine g_iload_n hZ dX6_hasDigit_27 rfl ?_
      refine g_cald hZ (k) rfl dX6_hasDigit_28 (rfl) (by omega) (by decide) (hT.ch (by omega)) ?_
      refine g_bipush hZ (z := 57) dX6_hasDigit_29 rfl ?_
      refine g_icmp_gt hZ 38 dX6_hasDigit_31 rfl (by omega) (fun c3 => ?_) (fun c3 => ?_)
      · exact no (by omega)
      · refine g_iconst hZ dX6_hasDigit_34 ?_
        refine g_goto hZ 39 dX6_hasDigit_35 rfl ?_
        refine g_zret hZ dX6_hasDigit_39 rfl (Or.inr rfl) ⟨rfl, 1, rfl, Or.inl ⟨rfl, by unfold isD; omega⟩⟩
theorem t_X6_textOf (E : gE) (hG : gad E 99 = 1) (S : gS) (w : Nat) (hw : w < 6) : Ct E LAY mX6_textOf [iV (w : Int)] S (fun r S' => S = S' ∧ r = some (.ref (gad E (100 + w)))) := by
  refine Ct.intro LAY_ok (by decide +kernel) (Nat.le_of_ble_eq_true rfl) rfl ?_
  intro Z hZ
  refine g_iload_n hZ dX6_textOf_0 rfl ?_
  rcases (show w = 0 ∨ w = 1 ∨ w = 2 ∨ w = 3 ∨ w = 4 ∨ w = 5 by omega) with rfl | rfl | rfl | rfl | rfl | rfl
  · refine g_switch hZ (off := 35) 36 dX6_textOf_1 (by omega) (by omega) (by omega) rfl rfl ?_
    refine g_ldcS hZ hG 0 (by omega) rfl rfl dX6_textOf_36 ?_
    refine g_aret hZ dX6_textOf_38 rfl ⟨rfl, rfl⟩
  · refine g_switch hZ (off := 38) 39 dX6_textOf_1 (by omega) (by omega) (by omega) rfl rfl ?_
    refine g_ldcS hZ hG 1 (by omega) rfl rfl dX6_textOf_39 ?_
    refine g_aret hZ dX6_textOf_41 rfl ⟨rfl, rfl⟩
  · refine g_switch hZ (off := 41) 42 dX6_textOf_1 (by omega) (by omega) (by omega) rfl rfl ?_
    refine g_ldcS hZ hG 2 (by omega) rfl rfl dX6_textOf_42 ?_
    refine g_aret hZ dX6_textOf_44 rfl ⟨rfl, rfl⟩
  · refine g_switch hZ (off := 44) 45 dX6_textOf_1 (by omega) (by omega) (by omega) rfl rfl ?_
    refine g_ldcS hZ hG 3 (by omega) rfl rfl dX6_textOf_45 ?_
    refine g_aret hZ dX6_textOf_47 rfl ⟨rfl, rfl⟩
  · refine g_switch hZ (off := 47) 48 dX6_textOf_1 (by omega) (by omega) (by omega) rfl rfl ?_
    refine g_ldcS hZ hG 4 (by omega) rfl rfl dX6_textOf_48 ?_
    refine g_aret hZ dX6_textOf_50 rfl ⟨rfl, rfl⟩
  · refine g_switchOut hZ 51 dX6_textOf_1 (by omega) (Or.inr (by omega)) rfl ?_
    refine g_ldcS hZ hG 5 (by omega) rfl rfl dX6_textOf_51 ?_
    refine g_aret hZ dX6_textOf_53 rfl ⟨rfl, rfl⟩
theorem t_X6_hasText (E : gE) (hG : gad E 99 = 1) (S : gS) (tx : List Nat) (hT : XT S tx) (i : Nat) (hi : i ≤ 100) (w : Nat) (hw : w < 6) : Ct E LAY mX6_hasText [.ref (gad E 24), iV (i : Int), .ref (gad E (100 + w))] S (fun r S' => S = S' ∧ ∃ z, r = some (iV z) ∧ isB z (preM tx i w)) := by
  have h5 := sLn_ok w hw
  refine Ct.intro LAY_ok (by decide +kernel) (Nat.le_of_ble_eq_true rfl) rfl ?_
  intro Z hZ
  have loop : ∀ (m j : Nat), j + m = sLn w → (∀ a, a < j → chA tx (i + a) = sCh w a) → Z S [(0, .ref (gad E 24)), (1, iV (i : Int)), (2, .ref (gad E (100 + w))), (3, iV (j : Int))] 2 [] := by
    intro m
    induction m with
    | zero =>
      intro j hj hp
      refine g_iload_n hZ dX6_hasText_2 rfl ?_
      refine g_aload_n hZ dX6_hasText_3 rfl ?_
      refine g_callT hZ hG w hw (t_J0_length E hG S w hw) kX6_37 ⟨by decide, by decide⟩ rfl rfl rfl (Nat.le_of_ble_eq_true rfl) dX6_hasText_4 ?_
      rintro _ _ ⟨rfl, rfl⟩
      refine g_icmp_ge hZ 33 dX6_hasText_7 rfl (by omega) (fun _ => ?_) (fun cX => absurd (by omega) cX)
      refine g_iconst hZ dX6_hasText_33 ?_
      refine g_zret hZ dX6_hasText_34 rfl (Or.inr rfl) ⟨rfl, 1, rfl, Or.inl ⟨rfl, fun a ha => hp a (by omega)⟩⟩
    | succ m ih =>
      intro j hj hp
      have hc := (sCh_ok w hw j (by omega)).2
      have hc0 := sCh_pos w hw j (by omega)
      refine g_iload_n hZ dX6_hasText_2 rfl ?_
      refine g_aload_n hZ dX6_hasText_3 rfl ?_
      refine g_callT hZ hG w hw (t_J0_length E hG S w hw) kX6_37 ⟨by decide, by decide⟩ rfl rfl rfl (Nat.le_of_ble_eq_true rfl) dX6_hasText_4 ?_
      rintro _ _ ⟨rfl, rfl⟩
      refine g_icmp_ge hZ 33 dX6_hasText_7 rfl (by omega) (fun cX => absurd cX (by omega)) (fun _ => ?_)
      refine g_aload_n hZ dX6_hasText_10 rfl ?_
      refine g_iload_n hZ dX6_hasText_11 rfl ?_
      refine g_iload_n hZ dX6_hasText_12 rfl ?_
      refine g_iadd hZ dX6_hasText_13 ?_
      refine g_aload_n hZ dX6_hasText_14 rfl ?_
      refine g_iload_n hZ dX6_hasText_15 rfl ?_
      refine g_callT hZ hG w hw (t_J0_charAt E hG S w hw j (by omega)) kX6_58 ⟨by decide, by decide⟩ rfl rfl rfl (Nat.le_of_ble_eq_true rfl) dX6_hasText_16 ?_
      rintro _ _ ⟨rfl, rfl⟩
      rw [show (i : Int) + (j : Int) = ((i + j : Nat) : Int) by omega]
      refine g_callV hZ (t_X6_hasSign E S tx hT (i + j) (by omega) (sCh w j) (by omega) (by omega)) kX6_50 ⟨by decide, by decide⟩ rfl rfl rfl rfl (Nat.le_of_ble_eq_true rfl) dX6_hasText_19 ?_
      rintro _ _ ⟨rfl, z, rfl, hz⟩
      rcases hz with ⟨rfl, hz⟩ | ⟨rfl, hz⟩
      · refine g_if_ne hZ 27 dX6_hasText_22 rfl (by omega) (fun _ => ?_) (fun cX => absurd cX (by omega))
        refine g_iinc hZ dX6_hasText_27 rfl (by decide) ?_
        refine g_goto hZ 2 dX6_hasText_30 rfl ?_
        refine ih (j + 1) (by omega) (fun a ha => ?_)
        by_cases q : a = j
        · subst q; exact hz
        · exact hp a (by omega)
      · refine g_if_ne hZ 27 dX6_hasText_22 rfl (by omega) (fun cX => absurd rfl cX) (fun _ => ?_)
        refine g_iconst hZ dX6_hasText_25 ?_
        refine g_zret hZ dX6_hasText_26 rfl (Or.inl rfl) ⟨rfl, 0, rfl, Or.inr ⟨rfl, fun h => hz (h j (by omega))⟩⟩
  refine g_iconst hZ dX6_hasText_0 ?_
  refine g_istore_n hZ dX6_hasText_1 (by decide) ?_
  exact loop (sLn w) 0 (Nat.zero_add _) (fun a ha => absurd ha (Nat.not_lt_zero a))
theorem t_X6_findWord (E : gE) (hG : gad E 99 = 1) (S : gS) (tx : List Nat) (hT : XT S tx) (i : Nat) (hi : i ≤ 100) : Ct E LAY mX6_findWord [.ref (gad E 24), iV (i : Int)] S (fun r S' => S = S' ∧ ((r = some (iV (-1)) ∧ ∀ w, w < 6 → ¬ preM tx i w) ∨ ∃ w : Nat, w < 6 ∧ r = some (iV (w : Int)) ∧ preM tx i w)) := by
  refine Ct.intro LAY_ok (by decide +kernel) (Nat.le_of_ble_eq_true rfl) rfl ?_
  intro Z hZ
  have loop : ∀ (m w : Nat), w + m = 6 → (∀ a, a < w → ¬ preM tx i a) → Z S [(0, .ref (gad E 24)), (1, iV (i : Int)), (2, iV (w : Int))] 2 [] := by
    intro m
    induction m with
    | zero =>
      intro w hw hp
      refine g_iload_n hZ dX6_findWord_2 rfl ?_
      refine g_bipush hZ (z := 6) dX6_findWord_3 rfl ?_
      refine g_icmp_ge hZ 28 dX6_findWord_5 rfl (by omega) (fun _ => ?_) (fun cX => absurd (by omega) cX)
      refine g_iconst hZ dX6_findWord_28 ?_
      refine g_iret hZ dX6_findWord_29 rfl ⟨rfl, Or.inl ⟨rfl, fun a ha => hp a (by omega)⟩⟩
    | succ m ih =>
      intro w hw hp
      refine g_iload_n hZ dX6_findWord_2 rfl ?_
      refine g_bipush hZ (z := 6) dX6_findWord_3 rfl ?_
      refine g_icmp_ge hZ 28 dX6_findWord_5 rfl (by omega) (fun cX => absurd cX (by omega)) (fun _ => ?_)
      refine g_aload_n hZ dX6_findWord_8 rfl ?_
      refine g_iload_n hZ dX6_findWord_9 rfl ?_
      refine g_iload_n hZ dX6_findWord_10 rfl ?_
      refine g_callS hZ (t_X6_textOf E hG S w (by omega)) kX6_33 ⟨by decide, by decide⟩ rfl rfl (Nat.le_of_ble_eq_true rfl) dX6_findWord_11 ?_
      rintro _ _ ⟨rfl, rfl⟩
      refine g_callV hZ (t_X6_hasText E hG S tx hT i hi w (by omega)) kX6_54 ⟨by decide, by decide⟩ rfl rfl rfl rfl (Nat.le_of_ble_eq_true rfl) dX6_findWord_14 ?_
      rintro _ _ ⟨rfl, z, rfl, hz⟩
      rcases hz with ⟨rfl, hz⟩ | ⟨rfl, hz⟩
      · refine g_if_eq hZ 22 dX6_findWord_17 rfl (by omega) (fun cX => absurd cX (by omega)) (fun _ => ?_)
        refine g_iload_n hZ dX6_findWord_20 rfl ?_
        refine g_iret hZ dX6_findWord_21 rfl ⟨rfl, Or.inr ⟨w, by omega, rfl, hz⟩⟩
      · refine g_if_eq hZ 22 dX6_findWord_17 rfl (by omega) (fun _ => ?_) (fun cX => absurd (by omega) cX)
        refine g_iinc hZ dX6_findWord_22 rfl (by decide) ?_
        refine g_goto hZ 2 dX6_findWord_25 rfl ?_
        refine ih (w + 1) (by omega) (fun a ha => ?_)
        by_cases q : a = w
        · subst q; exact hz
        · exact hp a (by omega)
  refine g_iconst hZ dX6_findWord_0 ?_
  refine g_istore_n hZ dX6_findWord_1 (by decide) ?_
  exact loop 6 0 rfl (fun a ha => absurd ha (Nat.not_lt_zero a))
theorem t_X6_numbersOf (E : gE) (S : gS) (w : Nat) (hw : w < 6) : Ct E LAY mX6_numbersOf [iV (w : Int)] S (fun r S' => S = S' ∧ r = some (iV (cntW w : Int))) := by
  refine Ct.intro LAY_ok (by decide +kernel) (Nat.le_of_ble_eq_true rfl) rfl ?_
  intro Z hZ
  refine g_iload_n hZ dX6_numbersOf_0 rfl ?_
  refine g_iconst hZ dX6_numbersOf_1 ?_
  refine g_icmp_ne hZ 7 dX6_numbersOf_2 rfl (by omega) (fun c1 => ?_) (fun c1 => ?_)
  · refine g_iload_n hZ dX6_numbersOf_7 rfl ?_
    refine g_iconst hZ dX6_numbersOf_8 ?_
    refine g_icmp_ne hZ 16 dX6_numbersOf_9 rfl (by omega) (fun c2 => ?_) (fun c2 => ?_)
    · refine g_iconst hZ dX6_numbersOf_16 ?_
      refine g_iret hZ dX6_numbersOf_17 rfl ⟨rfl, by unfold cntW; rw [if_neg (by omega), if_neg (by omega)]; rfl⟩
    · refine g_iconst hZ dX6_numbersOf_12 ?_
      refine g_goto hZ 17 dX6_numbersOf_13 rfl ?_
      refine g_iret hZ dX6_numbersOf_17 rfl ⟨rfl, by unfold cntW; rw [if_neg (by omega), if_pos (by omega)]; rfl⟩
  · refine g_iconst hZ dX6_numbersOf_5 ?_
    refine g_iret hZ dX6_numbersOf_6 rfl ⟨rfl, by unfold cntW; rw [if_pos (by omega)]; rfl⟩
theorem t_X6_readNumber (E : gE) (S : gS) (tx : List Nat) (hT : XT S tx) (a : Nat) (ha : a ≤ 500) (k : Nat) (hk : k < 4) : Ct E LAY mX6_readNumber [.ref (gad E 24), iV (a : Int), iV (k : Int)] S (fun r S' => Eqx [43] S S' ∧ (∀ j, j ≠ k → S' 43 j = S 43 j) ∧ ((r = some (iV (-1)) ∧ rdC tx a = none) ∨ ∃ v b : Nat, rdC tx a = some (v, b) ∧ r = some (iV (b : Int)) ∧ S' 43 k = (v : Int))) := by
  have hl := hT.2.1
  have hl1 := chA_lt hT.2.2.2 (a + 1)
  have hl2 := chA_lt hT.2.2.2 (a + 2)
  refine Ct.intro LAY_ok (by decide +kernel) (Nat.le_of_ble_eq_true rfl) rfl ?_
  intro Z hZ
  have no : rdC tx a = none → Z S [(0, .ref (gad E 24)), (1, iV (a : Int)), (2, iV (k : Int))] 20 [] := by
    intro h
    refine g_iconst hZ dX6_readNumber_20 ?_
    refine g_iret hZ dX6_readNumber_21 rfl ⟨Eqx.rf, fun _ _ => rfl, Or.inl ⟨rfl, h⟩⟩
  have fin : ∀ (v b : Nat) (L9 : List (Nat × Value)), rdC tx a = some (v, b) → lkeep L9 [0, 2, 3, 4] = [(0, .ref (gad E 24)), (2, iV (k : Int)), (3, iV (v : Int)), (4, iV (b : Int))] → Z S L9 67 [] := by
    intro v b L9 h hL9
    refine g_keep hZ [0, 2, 3, 4] hL9 ?_
    refine g_aload_n hZ dX6_readNumber_67 rfl ?_
    refine g_getr hZ fX6_15 rfl rfl dX6_readNumber_68 ?_
    refine g_iload_n hZ dX6_readNumber_71 rfl ?_
    refine g_iload_n hZ dX6_readNumber_72 rfl ?_
    refine g_iast hZ (k) rfl dX6_readNumber_73 (rfl) (by omega) (by decide) ?_
    refine g_iload hZ dX6_readNumber_74 rfl ?_
    refine g_iret hZ dX6_readNumber_76 rfl ⟨Eqx.rf.up rfl, fun j hj => upS_j _ _ hj, Or.inr ⟨v, b, h, rfl, upS_eq _ _ _ _⟩⟩
  refine g_aload_n hZ dX6_readNumber_0 rfl ?_
  refine g_iload_n hZ dX6_readNumber_1 rfl ?_
  refine g_bipush hZ (z := 32) dX6_readNumber_2 rfl ?_
  refine g_callV hZ (As := [iV (a : Int), iV ((32 : Nat) : Int)]) (t_X6_hasSign E S tx hT a (by omega) 32 (by omega) (by omega)) kX6_50 ⟨by decide, by decide⟩ rfl rfl rfl rfl (Nat.le_of_ble_eq_true rfl) dX6_readNumber_4 ?_
  rintro _ _ ⟨rfl, z, rfl, hz⟩
  rcases hz with ⟨rfl, hz⟩ | ⟨rfl, hz⟩
  · refine g_if_eq hZ 20 dX6_readNumber_7 rfl (by omega) (fun cX => absurd cX (by omega)) (fun _ => ?_)
    refine g_aload_n hZ dX6_readNumber_10 rfl ?_
    refine g_iload_n hZ dX6_readNumber_11 rfl ?_
    refine g_iconst hZ dX6_readNumber_12 ?_
    refine g_iadd hZ dX6_readNumber_13 ?_
    rw [show (a : Int) + 1 = ((a + 1 : Nat) : Int) by omega]
    refine g_callV hZ (t_X6_hasDigit E S tx hT (a + 1) (by omega)) kX6_62 ⟨by decide, by decide⟩ rfl rfl rfl rfl (Nat.le_of_ble_eq_true rfl) dX6_readNumber_14 ?_
    rintro _ _ ⟨rfl, z, rfl, hz2⟩
    rcases hz2 with ⟨rfl, hz2⟩ | ⟨rfl, hz2⟩
    · have hin := chA_in (tx := tx) (k := a + 1) (by unfold isD at hz2; omega)
      refine g_if_ne hZ 22 dX6_readNumber_17 rfl (by omega) (fun _ => ?_) (fun cX => absurd cX (by omega))
      refine g_aload_n hZ dX6_readNumber_22 rfl ?_
      refine g_getr hZ fX6_9 rfl rfl dX6_readNumber_23 ?_
      refine g_iload_n hZ dX6_readNumber_26 rfl ?_
      refine g_iconst hZ dX6_readNumber_27 ?_
      refine g_iadd hZ dX6_readNumber_28 ?_
      refine g_cald hZ ((a + 1)) rfl dX6_readNumber_29 (by omega) (by omega) (by decide) (hT.ch hin) ?_
      refine g_bipush hZ (z := 48) dX6_readNumber_30 rfl ?_
      refine g_isub hZ dX6_readNumber_32 ?_
      rw [show (chA tx (a + 1) : Int) - 48 = ((chA tx (a + 1) - 48 : Nat) : Int) by unfold isD at hz2; omega]
      refine g_istore_n hZ dX6_readNumber_33 (by decide) ?_
      refine g_iload_n hZ dX6_readNumber_34 rfl ?_
      refine g_iconst hZ dX6_readNumber_35 ?_
      refine g_iadd hZ dX6_readNumber_36 ?_
      rw [show (a : Int) + 2 = ((a + 2 : Nat) : Int) by omega]
      refine g_istore hZ dX6_readNumber_37 (by decide) ?_
      refine g_aload_n hZ dX6_readNumber_39 rfl ?_
      refine g_iload hZ dX6_readNumber_40 rfl ?_
      refine g_callV hZ (t_X6_hasDigit E S tx hT (a + 2) (by omega)) kX6_62 ⟨by decide, by decide⟩ rfl rfl rfl rfl (Nat.le_of_ble_eq_true rfl) dX6_readNumber_42 ?_
      rintro _ _ ⟨rfl, z, rfl, hz3⟩
      rcases hz3 with ⟨rfl, hz3⟩ | ⟨rfl, hz3⟩
      · have hin2 := chA_in (tx := tx) (k := a + 2) (by unfold isD at hz3; omega)
        refine g_if_eq hZ 67 dX6_readNumber_45 rfl (by omega) (fun cX => absurd cX (by omega)) (fun _ => ?_)
        refine g_bipush hZ (z := 10) dX6_readNumber_48 rfl ?_
        refine g_iload_n hZ dX6_readNumber_50 rfl ?_
        refine g_imul hZ dX6_readNumber_51 ?_
        refine g_aload_n hZ dX6_readNumber_52 rfl ?_
        refine g_getr hZ fX6_9 rfl rfl dX6_readNumber_53 ?_
        refine g_iload hZ dX6_readNumber_56 rfl ?_
        refine g_cald hZ ((a + 2)) rfl dX6_readNumber_58 (rfl) (by omega) (by decide) (hT.ch hin2) ?_
        refine g_iadd hZ dX6_readNumber_59 ?_
        refine g_bipush hZ (z := 48) dX6_readNumber_60 rfl ?_
        refine g_isub hZ dX6_readNumber_62 ?_
        rw [show (10 : Int) * ((chA tx (a + 1) - 48 : Nat) : Int) + (chA tx (a + 2) : Int) - 48 = ((10 * (chA tx (a + 1) - 48) + (chA tx (a + 2) - 48) : Nat) : Int) by unfold isD at hz3; omega]
        refine g_istore_n hZ dX6_readNumber_63 (by decide) ?_
        refine g_iinc hZ dX6_readNumber_64 rfl (by decide) ?_
        exact fin _ (a + 3) _ (by unfold rdC; rw [if_pos ⟨hz, hz2⟩, if_pos hz3]) rfl
      · refine g_if_eq hZ 67 dX6_readNumber_45 rfl (by omega) (fun _ => ?_) (fun cX => absurd (by omega) cX)
        exact fin _ (a + 2) _ (by unfold rdC; rw [if_pos ⟨hz, hz2⟩, if_neg hz3]) rfl
    · refine g_if_ne hZ 22 dX6_readNumber_17 rfl (by omega) (fun cX => absurd rfl cX) (fun _ => ?_)
      exact no (by unfold rdC; rw [if_neg (fun q => hz2 q.2)])
  · refine g_if_eq hZ 20 dX6_readNumber_7 rfl (by omega) (fun _ => ?_) (fun cX => absurd (by omega) cX)
    exact no (rdC_no hz)
theorem t_X6_readCommand (E : gE) (hG : gad E 99 = 1) (S : gS) (tx : List Nat) (hT : XT S tx) (i : Nat) (hi : i ≤ 60) : Ct E LAY mX6_readCommand [.ref (gad E 24), iV (i : Int)] S (fun r S' => Eqx [40, 43] S S' ∧ ((r = some (iV (-1)) ∧ pcmd tx i = none) ∨ ∃ q, pcmd tx i = some q ∧ r = some (iV (q.2.2 : Int)) ∧ S' 40 0 = (q.1 : Int) ∧ HL (fun v : Nat => (v : Int)) (S' 43) q.2.1)) := by
  refine Ct.intro LAY_ok (by decide +kernel) (Nat.le_of_ble_eq_true rfl) rfl ?_
  intro Z hZ
  refine g_aload_n hZ dX6_readCommand_0 rfl ?_
  refine g_aload_n hZ dX6_readCommand_1 rfl ?_
  refine g_iload_n hZ dX6_readCommand_2 rfl ?_
  refine g_callV hZ (t_X6_findWord E hG S tx hT i (by omega)) kX6_27 ⟨by decide, by decide⟩ rfl rfl rfl rfl (Nat.le_of_ble_eq_true rfl) dX6_readCommand_3 ?_
  rintro _ _ ⟨rfl, ⟨rfl, hw⟩ | ⟨w, hw6, rfl, hw⟩⟩
  · refine g_puti hZ fX6_30 rfl rfl dX6_readCommand_6 ?_
    refine g_aload_n hZ dX6_readCommand_9 rfl ?_
    refine g_geti hZ fX6_30 rfl rfl dX6_readCommand_10 (upS_eq _ _ _ _) ?_
    refine g_iconst hZ dX6_readCommand_13 ?_
    refine g_icmp_ne hZ 19 dX6_readCommand_14 rfl (by omega) (fun cX => absurd rfl cX) (fun _ => ?_)
    refine g_iconst hZ dX6_readCommand_17 ?_
    refine g_iret hZ dX6_readCommand_18 rfl ⟨Eqx.rf.up rfl, Or.inl ⟨rfl, pcmd_nopre hw⟩⟩
  · have h5 := sLn_ok w hw6
    have hcw : cntW w ≤ 4 := by unfold cntW; split <;> (try split) <;> omega
    refine g_puti hZ fX6_30 rfl rfl dX6_readCommand_6 ?_
    refine g_aload_n hZ dX6_readCommand_9 rfl ?_
    refine g_geti hZ fX6_30 rfl rfl dX6_readCommand_10 (upS_eq _ _ _ _) ?_
    refine g_iconst hZ dX6_readCommand_13 ?_
    refine g_icmp_ne hZ 19 dX6_readCommand_14 rfl (by omega) (fun _ => ?_) (fun cX => absurd cX (by omega))
    have he₁ : Eqx [40, 43] S (upS S 40 0 (w : Int)) := Eqx.rf.up rfl
    have hw₁ : (upS S 40 0 (w : Int)) 40 0 = (w : Int) := upS_eq _ _ _ _
    generalize upS S 40 0 (w : Int) = S₁ at he₁ hw₁ ⊢
    refine g_iload_n hZ dX6_readCommand_19 rfl ?_
    refine g_aload_n hZ dX6_readCommand_20 rfl ?_
    refine g_geti hZ fX6_30 rfl rfl dX6_readCommand_21 hw₁ ?_
    refine g_callS hZ (t_X6_textOf E hG S₁ w hw6) kX6_33 ⟨by decide, by decide⟩ rfl rfl (Nat.le_of_ble_eq_true rfl) dX6_readCommand_24 ?_
    rintro _ _ ⟨rfl, rfl⟩
    refine g_callT hZ hG w hw6 (t_J0_length E hG S₁ w hw6) kX6_37 ⟨by decide, by decide⟩ rfl rfl rfl (Nat.le_of_ble_eq_true rfl) dX6_readCommand_27 ?_
    rintro _ _ ⟨rfl, rfl⟩
    refine g_iadd hZ dX6_readCommand_30 ?_
    rw [show (i : Int) + (sLn w : Int) = ((i + sLn w : Nat) : Int) by omega]
    have loop : ∀ (m k a : Nat) (vs : List Nat) (S₂ : gS) (L9 : List (Nat × Value)), k + m = cntW w → a ≤ 70 + 3 * k → vs.length = k → Eqx [40, 43] S S₂ → S₂ 40 0 = (w : Int) → HL (fun v : Nat => (v : Int)) (S₂ 43) vs → pcmd tx i = fin59 tx w vs (rdCs tx m a) → lkeep L9 [0, 2, 3] = [(0, .ref (gad E 24)), (2, iV (a : Int)), (3, iV (k : Int))] → Z S₂ L9 34 [] := by
      intro m
      induction m with
      | zero =>
        intro k a vs S₂ L9 hk ha hvl he hw₂ hv hp hL9
        have hT₂ := hT.x he rfl rfl
        refine g_keep hZ [0, 2, 3] hL9 ?_
        refine g_iload_n hZ dX6_readCommand_34 rfl ?_
        refine g_aload_n hZ dX6_readCommand_35 rfl ?_
        refine g_geti hZ fX6_30 rfl rfl dX6_readCommand_36 hw₂ ?_
        refine g_callS hZ (t_X6_numbersOf E S₂ w hw6) kX6_43 ⟨by decide, by decide⟩ rfl rfl (Nat.le_of_ble_eq_true rfl) dX6_readCommand_39 ?_
        rintro _ _ ⟨rfl, rfl⟩
        refine g_icmp_ge hZ 65 dX6_readCommand_42 rfl (by omega) (fun _ => ?_) (fun cX => absurd (by omega) cX)
        refine g_aload_n hZ dX6_readCommand_65 rfl ?_
        refine g_iload_n hZ dX6_readCommand_66 rfl ?_
        refine g_bipush hZ (z := 59) dX6_readCommand_67 rfl ?_
        refine g_callV hZ (As := [iV (a : Int), iV ((59 : Nat) : Int)]) (t_X6_hasSign E S₂ tx hT₂ a (by omega) 59 (by omega) (by omega)) kX6_50 ⟨by decide, by decide⟩ rfl rfl rfl rfl (Nat.le_of_ble_eq_true rfl) dX6_readCommand_69 ?_
        rintro _ _ ⟨rfl, z, rfl, hz⟩
        have hp : pcmd tx i = if chA tx a = 59 then some (w, vs ++ [], a + 1) else none := hp
        rw [List.append_nil] at hp
        rcases hz with ⟨rfl, hz⟩ | ⟨rfl, hz⟩
        · rw [if_pos hz] at hp
          refine g_if_eq hZ 81 dX6_readCommand_72 rfl (by omega) (fun cX => absurd cX (by omega)) (fun _ => ?_)
          refine g_iload_n hZ dX6_readCommand_75 rfl ?_
          refine g_iconst hZ dX6_readCommand_76 ?_
          refine g_iadd hZ dX6_readCommand_77 ?_
          refine g_goto hZ 82 dX6_readCommand_78 rfl ?_
          refine g_iret hZ dX6_readCommand_82 rfl ⟨he, Or.inr ⟨_, hp, rfl, hw₂, hv⟩⟩
        · rw [if_neg hz] at hp
          refine g_if_eq hZ 81 dX6_readCommand_72 rfl (by omega) (fun _ => ?_) (fun cX => absurd (by omega) cX)
          refine g_iconst hZ dX6_readCommand_81 ?_
          refine g_iret hZ dX6_readCommand_82 rfl ⟨he, Or.inl ⟨rfl, hp⟩⟩
      | succ m ih =>
        intro k a vs S₂ L9 hk ha hvl he hw₂ hv hp hL9
        have hT₂ := hT.x he rfl rfl
        rw [rdCs] at hp
        refine g_keep hZ [0, 2, 3] hL9 ?_
        refine g_iload_n hZ dX6_readCommand_34 rfl ?_
        refine g_aload_n hZ dX6_readCommand_35 rfl ?_
        refine g_geti hZ fX6_30 rfl rfl dX6_readCommand_36 hw₂ ?_
        refine g_callS hZ (t_X6_numbersOf E S₂ w hw6) kX6_43 ⟨by decide, by decide⟩ rfl rfl (Nat.le_of_ble_eq_true rfl) dX6_readCommand_39 ?_
        rintro _ _ ⟨rfl, rfl⟩
        refine g_icmp_ge hZ 65 dX6_readCommand_42 rfl (by omega) (fun cX => absurd cX (by omega)) (fun _ => ?_)
        refine g_aload_n hZ dX6_readCommand_45 rfl ?_
        refine g_iload_n hZ dX6_readCommand_46 rfl ?_
        refine g_iload_n hZ dX6_readCommand_47 rfl ?_
        refine g_callV hZ (t_X6_readNumber E S₂ tx hT₂ a (by omega) k (by omega)) kX6_46 ⟨by decide, by decide⟩ rfl rfl rfl rfl (Nat.le_of_ble_eq_true rfl) dX6_readCommand_48 ?_
        rintro _ S₃ ⟨he₃, ho₃, ⟨rfl, hz⟩ | ⟨v, b, hz, rfl, hv₃⟩⟩
        · rw [hz] at hp
          have hp : pcmd tx i = none := hp
          refine g_istore_n hZ dX6_readCommand_51 (by decide) ?_
          refine g_iload_n hZ dX6_readCommand_52 rfl ?_
          refine g_iconst hZ dX6_readCommand_53 ?_
          refine g_icmp_ne hZ 59 dX6_readCommand_54 rfl (by omega) (fun cX => absurd rfl cX) (fun _ => ?_)
          refine g_iconst hZ dX6_readCommand_57 ?_
          refine g_iret hZ dX6_readCommand_58 rfl ⟨he.tr (he₃.mono rfl), Or.inl ⟨rfl, hp⟩⟩
        · rw [hz] at hp
          have hb := rdC_ok hz
          refine g_istore_n hZ dX6_readCommand_51 (by decide) ?_
          refine g_iload_n hZ dX6_readCommand_52 rfl ?_
          refine g_iconst hZ dX6_readCommand_53 ?_
          refine g_icmp_ne hZ 59 dX6_readCommand_54 rfl (by omega) (fun _ => ?_) (fun cX => absurd cX (by omega))
          refine g_iinc hZ dX6_readCommand_59 rfl (by decide) ?_
          refine g_goto hZ 34 dX6_readCommand_62 rfl ?_
          refine ih (k + 1) b (vs ++ [v]) S₃ _ (by omega) (by omega) (by simp [hvl]) (he.tr (he₃.mono rfl)) ((he₃ 40 0 rfl).trans hw₂) (HL_add hv (fun j hj => ho₃ j (by omega)) (by rw [hvl]; exact hv₃)) ?_ rfl
          rw [hp]
          simp only
          cases f : rdCs tx m b with
          | none => rfl
          | some q =>
            obtain ⟨ws, c⟩ := q
            show (if chA tx c = 59 then some (w, vs ++ v :: ws, c + 1) else none) = if chA tx c = 59 then some (w, (vs ++ [v]) ++ ws, c + 1) else none
            rw [List.append_assoc]
            rfl
    refine g_istore_n hZ dX6_readCommand_31 (by decide) ?_
    refine g_iconst hZ dX6_readCommand_32 ?_
    refine g_istore_n hZ dX6_readCommand_33 (by decide) ?_
    exact loop _ 0 (i + sLn w) [] S₁ _ (Nat.zero_add _) (by omega) rfl he₁ hw₁ (HL_nil _ _) (pcmd_pre hw6 hw) rfl
