/-! the class: BurningFields: regions -/
theorem cntB_cut (n : Nat) (P : Nat → Bool) : ∀ d, cntB (fun k => decide (k < n) && P k) (n + d) = cntB P n
  | 0 => cntB_cong (fun k hk => by rw [decide_eq_true (show k < n from hk), Bool.true_and])
  | d + 1 => by
    show cntB (fun k => decide (k < n) && P k) (n + d) + _ = _
    have e : (fun k => decide (k < n) && P k) (n.add d) = false := by
      show (decide (n.add d < n) && P (n.add d)) = false
      rw [decide_eq_false (show ¬ n.add d < n by have : n.add d = n + d := rfl; omega)]
      rfl
    rw [cntB_cut n P d, e]
    rfl
theorem bc_P {y n : Nat} {P : Nat → Bool} (hn : n ≤ 15) (h : isM y (fun k => decide (k < n) && P k)) : y < 32768 ∧ bc y = cntB P n ∧ (y = 0 ↔ cntB P n = 0) := by
  have hl : y < 2 ^ 15 := h.lt (n := 15) (fun k hk => by rw [decide_eq_false (by omega)]; rfl)
  have hb : bc y = cntB P n := by
    rw [bc_eq hl]
    have := cntB_cut n P (15 - n)
    rw [show n + (15 - n) = 15 by omega] at this
    rw [← this]
    exact cntB_cong (fun k _ => h k)
  refine ⟨hl, hb, fun e => ?_, fun e => ?_⟩
  · rw [← hb, e]; decide
  · apply Classical.byContradiction
    intro hne
    obtain ⟨k, -, hk⟩ := tb_diff (a := 0) (b := y) (fun q => hne q.symm) (fun k q => by rw [Nat.zero_testBit] at q; cases q)
    have hk2 : y.testBit k = (decide (k < n) && P k) := h k
    rw [hk2, Bool.and_eq_true, decide_eq_true_eq] at hk
    have := cntB_less (p := fun _ => false) (q := P) (fun k q => by cases q) (k := k) (by simp) hk.2 hk.1
    omega
theorem and_wth {w n m m1 : Nat} {B : Nat → Int} {root v : Int} (hv : 0 ≤ v) (h : isM m (rgB w n B root)) (h1 : isM m1 (mkB n B v)) : isM (m &&& m1) (fun k => decide (k < n) && wthB (rg w n B) B root v k) := by
  intro k
  have e1 : m.testBit k = rgB w n B root k := h k
  have e2 : m1.testBit k = mkB n B v k := h1 k
  rw [Nat.testBit_and, e1, e2]
  unfold rgB mkB wthB
  show (decide (k < n) && decide (rg w n B k = root) && decide (k < n ∧ B k = v)) = (decide (k < n) && (decide (rg w n B k = root) && (decide (v < 0) || decide (B k = v))))
  rw [decide_eq_false (show ¬ v < 0 by omega), Bool.false_or]
  by_cases q : k < n
  · simp [q]
  · simp [q]
theorem t_X8_kindOf (E : gE) (S : gS) (w h n : Nat) (hg : xG S w h n) (B : Nat → Int) (hX : XB S n B) (hB : mBd B n) (root : Int) (m : Nat) (hm : isM m (rgB w n B root)) : Ct E LAY mX8_kindOf [.ref (gad E 0), iV (m : Int)] S (fun r S' => S = S' ∧ r = some (iV (kindF (rg w n B) B n root))) := by
  have hn := hg.n15
  refine Ct.intro LAY_ok (by decide +kernel) (Nat.le_of_ble_eq_true rfl) rfl ?_
  intro Z hZ
  have second : ∀ (z : Int) (L9 : List (Nat × Value)), z = (if 0 < cntB (wthB (rg w n B) B root 1) n then 1 else 0) → lkeep L9 [0, 1, 2] = [(0, .ref (gad E 0)), (1, iV (m : Int)), (2, iV z)] → Z S L9 15 [] := by
    intro z L9 hz hL9
    refine g_keep hZ [0, 1, 2] hL9 ?_
    refine g_iload_n hZ dX8_kindOf_15 rfl ?_
    refine g_aload_n hZ dX8_kindOf_16 rfl ?_
    refine g_iconst hZ dX8_kindOf_17 ?_
    refine g_callV hZ (As := [iV ((2 : Nat) : Int)]) (t_X8_maskOf E S w h n hg B hX hB 2 (by omega)) kX8_108 ⟨by decide, by decide⟩ rfl rfl rfl rfl (Nat.le_of_ble_eq_true rfl) dX8_kindOf_18 ?_
    rintro _ _ ⟨rfl, m2, rfl, hm2⟩
    obtain ⟨b1, b2, b3⟩ := bc_P hn (and_wth (v := 2) (by omega) hm hm2)
    refine g_iand hZ dX8_kindOf_21 (gi_and _ _) ?_
    refine g_if_eq hZ 28 dX8_kindOf_22 rfl (by omega) (fun c => ?_) (fun c => ?_)
    · refine g_iload_n hZ dX8_kindOf_28 rfl ?_
      refine g_iret hZ dX8_kindOf_29 rfl ⟨rfl, by unfold kindF; rw [← hz, if_neg (show ¬ 0 < cntB (wthB (rg w n B) B root 2) n by have := b3.mp (by omega); omega)]; simp⟩
    · refine g_iinc hZ dX8_kindOf_25 rfl (by decide) ?_
      refine g_iload_n hZ dX8_kindOf_28 rfl ?_
      refine g_iret hZ dX8_kindOf_29 rfl ⟨rfl, by unfold kindF; rw [← hz, if_pos (show 0 < cntB (wthB (rg w n B) B root 2) n by have := fun q => b3.mpr q; omega)]⟩
  refine g_iconst hZ dX8_kindOf_0 ?_
  refine g_istore_n hZ dX8_kindOf_1 (by decide) ?_
  refine g_iload_n hZ dX8_kindOf_2 rfl ?_
  refine g_aload_n hZ dX8_kindOf_3 rfl ?_
  refine g_iconst hZ dX8_kindOf_4 ?_
  refine g_callV hZ (As := [iV ((1 : Nat) : Int)]) (t_X8_maskOf E S w h n hg B hX hB 1 (by omega)) kX8_108 ⟨by decide, by decide⟩ rfl rfl rfl rfl (Nat.le_of_ble_eq_true rfl) dX8_kindOf_5 ?_
  rintro _ _ ⟨rfl, m1, rfl, hm1⟩
  obtain ⟨b1, b2, b3⟩ := bc_P hn (and_wth (v := 1) (by omega) hm hm1)
  refine g_iand hZ dX8_kindOf_8 (gi_and _ _) ?_
  refine g_if_eq hZ 15 dX8_kindOf_9 rfl (by omega) (fun c => ?_) (fun c => ?_)
  · exact second 0 _ (by rw [if_neg (show ¬ 0 < cntB (wthB (rg w n B) B root 1) n by have := b3.mp (by omega); omega)]) rfl
  · refine g_iinc hZ dX8_kindOf_12 rfl (by decide) ?_
    exact second 1 _ (by rw [if_pos (show 0 < cntB (wthB (rg w n B) B root 1) n by have := fun q => b3.mpr q; omega)]) rfl
theorem t_X8_isShared (E : gE) (S : gS) (w h n : Nat) (hg : xG S w h n) (B : Nat → Int) (hX : XB S n B) (hB : mBd B n) (root : Int) (m : Nat) (hm : isM m (rgB w n B root)) : Ct E LAY mX8_isShared [.ref (gad E 0), iV (m : Int)] S (fun r S' => S = S' ∧ ∃ z, r = some (iV z) ∧ isB z (kindF (rg w n B) B n root = 3)) := by
  have hk : 0 ≤ kindF (rg w n B) B n root ∧ kindF (rg w n B) B n root ≤ 3 := by unfold kindF; split <;> split <;> omega
  refine Ct.intro LAY_ok (by decide +kernel) (Nat.le_of_ble_eq_true rfl) rfl ?_
  intro Z hZ
  refine g_aload_n hZ dX8_isShared_0 rfl ?_
  refine g_iload_n hZ dX8_isShared_1 rfl ?_
  refine g_callV hZ (t_X8_kindOf E S w h n hg B hX hB root m hm) kX8_163 ⟨by decide, by decide⟩ rfl rfl rfl rfl (Nat.le_of_ble_eq_true rfl) dX8_isShared_2 ?_
  rintro _ _ ⟨rfl, rfl⟩
  refine g_iconst hZ dX8_isShared_5 ?_
  refine g_icmp_ne hZ 13 dX8_isShared_6 rfl (by omega) (fun c => ?_) (fun c => ?_)
  · refine g_iconst hZ dX8_isShared_13 ?_
    refine g_zret hZ dX8_isShared_14 rfl (Or.inl rfl) ⟨rfl, 0, rfl, Or.inr ⟨rfl, c⟩⟩
  · refine g_iconst hZ dX8_isShared_9 ?_
    refine g_goto hZ 14 dX8_isShared_10 rfl ?_
    refine g_zret hZ dX8_isShared_14 rfl (Or.inr rfl) ⟨rfl, 1, rfl, Or.inl ⟨rfl, by omega⟩⟩
theorem t_X8_divideBoard (E : gE) (S : gS) (w h n : Nat) (hg : xG S w h n) (B : Nat → Int) (hX : XB S n B) (hB : mBd B n) : Ct E LAY mX8_divideBoard [.ref (gad E 0)] S (fun r S' => r = none ∧ Eqx [30, 31] S S' ∧ XR S' w n B) := by
  refine Ct.intro LAY_ok (by decide +kernel) (Nat.le_of_ble_eq_true rfl) rfl ?_
  intro Z hZ
  refine g_aload_n hZ dX8_divideBoard_0 rfl ?_
  refine g_getr hZ fX8_40 rfl rfl dX8_divideBoard_1 ?_
  refine g_aload_n hZ dX8_divideBoard_4 rfl ?_
  refine g_getr hZ fX8_12 rfl rfl dX8_divideBoard_5 ?_
  refine g_aload_n hZ dX8_divideBoard_8 rfl ?_
  refine g_getr hZ fX8_12 rfl rfl dX8_divideBoard_9 ?_
  refine g_geti hZ fX8_227 rfl rfl dX8_divideBoard_12 hg.2.2.2.1 ?_
  refine g_aload_n hZ dX8_divideBoard_15 rfl ?_
  refine g_iconst hZ dX8_divideBoard_16 ?_
  refine g_callV hZ (As := [iV ((3 : Nat) : Int)]) (t_X8_maskOf E S w h n hg B hX hB 3 (by omega)) kX8_108 ⟨by decide, by decide⟩ rfl rfl rfl rfl (Nat.le_of_ble_eq_true rfl) dX8_divideBoard_17 ?_
  rintro _ _ ⟨rfl, m3, rfl, hm3⟩
  have hop : isM (andn (andM n) m3) (opB n B) := fun k => by
    have e3 : m3.testBit k = mkB n B ((3 : Nat) : Int) k := hm3 k
    rw [andn_tb, e3]
    unfold andM opB mkB
    rw [Nat.testBit_two_pow_sub_one]
    by_cases q : k < n
    · simp [q]
    · simp [q]
  refine g_iconst hZ dX8_divideBoard_20 ?_
  refine g_ixor hZ dX8_divideBoard_21 (gi_not _) ?_
  refine g_iand hZ dX8_divideBoard_22 (gi_andn _ _) ?_
  refine g_callV hZ (t_X5_divide E S w h n hg B _ hop) kX8_248 ⟨by decide, by decide⟩ rfl rfl rfl rfl (Nat.le_of_ble_eq_true rfl) dX8_divideBoard_23 ?_
  rintro _ S₁ ⟨rfl, he₁, hx₁⟩
  refine g_vret hZ dX8_divideBoard_26 rfl ⟨rfl, he₁, hx₁⟩
theorem t_X8_regions (E : gE) (S : gS) (w h n : Nat) (hg : xG S w h n) (B : Nat → Int) (hX : XB S n B) (hB : mBd B n) : Ct E LAY mX8_regions [.ref (gad E 0)] S (fun r S' => r = some (iV (cntB (rootB (rg w n B)) n : Int)) ∧ Eqx [30, 31] S S') := by
  refine Ct.intro LAY_ok (by decide +kernel) (Nat.le_of_ble_eq_true rfl) rfl ?_
  intro Z hZ
  refine g_aload_n hZ dX8_regions_0 rfl ?_
  refine g_callV hZ (t_X8_divideBoard E S w h n hg B hX hB) kX8_155 ⟨by decide, by decide⟩ rfl rfl rfl rfl (Nat.le_of_ble_eq_true rfl) dX8_regions_1 ?_
  rintro _ S₁ ⟨rfl, he₁, hx₁⟩
  have h30 : S₁ 30 0 = (cntB (rootB (rg w n B)) n : Int) := by rw [hx₁.1, rts_len]
  refine g_aload_n hZ dX8_regions_4 rfl ?_
  refine g_getr hZ fX8_40 rfl rfl dX8_regions_5 ?_
  refine g_geti hZ fX8_158 rfl rfl dX8_regions_8 h30 ?_
  refine g_iret hZ dX8_regions_11 rfl ⟨rfl, he₁⟩
