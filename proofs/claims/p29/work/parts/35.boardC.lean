/-! the class: BurningFields: regions -/
theorem cntB_cut (n : Nat) (P : Nat → Bool) : ∀ d, cntB (fun k => decide (k < n) && P k) (n + d) = cntB P n
  | 0 => cntB_cong (fun k hk => by rw [decide_eq_true (show k < n from hk), Bool.true_and])
  | d + 1 => by
    show cntB (fun k => decide (k < n) && P k) (n + d) + _ = _
    have e : (fun k => decide (k < n) && P k) (n.add d) = false := by
      show (decide (n.add d < n) && P (n.add d)) = false
      rw [decide_eq_false (show ¬ n.add d < n by have : n.add d = n + d := rfl; omega)]
      rfl
    rw [cntB_cut n P d, e]
    rfl
theorem bc_P {y n : Nat} {P : Nat → Bool} (hn : n ≤ 15) (h : isM y (fun k => decide (k < n) && P k)) : y < 32768 ∧ bc y = cntB P n ∧ (y = 0 ↔ cntB P n = 0) := by
  have hl : y < 2 ^ 15 := h.lt (n := 15) (fun k hk => by rw [decide_eq_false (by omega)]; rfl)
  have hb : bc y = cntB P n := by
    rw [bc_eq hl]
    have := cntB_cut n P (15 - n)
    rw [show n + (15 - n) = 15 by omega] at this
    rw [← this]
    exact cntB_cong (fun k _ => h k)
  refine ⟨hl, hb, fun e => ?_, fun e => ?_⟩
  · rw [← hb, e]; decide
  · apply Classical.byContradiction
    intro hne
    obtain ⟨k, -, hk⟩ := tb_diff (a := 0) (b := y) (fun q => hne q.symm) (fun k q => by rw [Nat.zero_testBit] at q; cases q)
    have hk2 : y.testBit k = (decide (k < n) && P k) := h k
    rw [hk2, Bool.and_eq_true, decide_eq_true_eq] at hk
    have := cntB_less (p := fun _ => false) (q := P) (fun k q => by cases q) (k := k) (by simp) hk.2 hk.1
    omega
theorem and_wth {w n m m1 : Nat} {B : Nat → Int} {root v : Int} (hv : 0 ≤ v) (h : isM m (rgB w n B root)) (h1 : isM m1 (mkB n B v)) : isM (m &&& m1) (fun k => decide (k < n) && wthB (rg w n B) B root v k) := by
  intro k
  have e1 : m.testBit k = rgB w n B root k := h k
  have e2 : m1.testBit k = mkB n B v k := h1 k
  rw [Nat.testBit_and, e1, e2]
  unfold rgB mkB wthB
  show (decide (k < n) && decide (rg w n B k = root) && decide (k < n ∧ B k = v)) = (decide (k < n) && (decide (rg w n B k = root) && (decide (v < 0) || decide (B k = v))))
  rw [decide_eq_false (show ¬ v < 0 by omega), Bool.false_or]
  by_cases q : k < n
  · simp [q]
  · simp [q]
theorem t_X8_kindOf (E : gE) (S : gS) (w h n : Nat) (hg : xG S w h n) (B : Nat → Int) (hX : XB S n B) (hB : mBd B n) (root : Int) (m : Nat) (hm : isM m (rgB w n B root)) : Ct E LAY mX8_kindOf [.ref (gad E 0), iV (m : Int)] S (fun r S' => S = S' ∧ r = some (iV (kindF (rg w n B) B n root))) := by
  have hn := hg.n15
  refine Ct.intro LAY_ok (by decide +kernel) (Nat.le_of_ble_eq_true rfl) rfl ?_
  intro Z hZ
  have second : ∀ (z : Int) (L9 : List (Nat × Value)), z = (if 0 < cntB (wthB (rg w n B) B root 1) n then 1 else 0) → lkeep L9 [0, 1, 2] = [(0, .ref (gad E 0)), (1, iV (m : Int)), (2, iV z)] → Z S L9 15 [] := by
    intro z L9 hz hL9
    refine g_keep hZ [0, 1, 2] hL9 ?_
    refine g_iload_n hZ dX8_kindOf_15 rfl ?_
    refine g_aload_n hZ dX8_kindOf_16 rfl ?_
    refine g_iconst hZ dX8_kindOf_17 ?_
    refine g_callV hZ (As := [iV ((2 : Nat) : Int)]) (t_X8_maskOf E S w h n hg B hX hB 2 (by omega)) kX8_108 ⟨by decide, by decide⟩ rfl rfl rfl rfl (Nat.le_of_ble_eq_true rfl) dX8_kindOf_18 ?_
    rintro _ _ ⟨rfl, m2, rfl, hm2⟩
    obtain ⟨b1, b2, b3⟩ := bc_P hn (and_wth (v := 2) (by omega) hm hm2)
    refine g_iand hZ dX8_kindOf_21 (gi_and _ _) ?_
    refine g_if_eq hZ 28 dX8_kindOf_22 rfl (by omega) (fun c => ?_) (fun c => ?_)
    · refine g_iload_n hZ dX8_kindOf_28 rfl ?_
      refine g_iret hZ dX8_kindOf_29 rfl ⟨rfl, by unfold kindF; rw [← hz, if_neg (show ¬ 0 < cntB (wthB (rg w n B) B root 2) n by have := b3.mp (by omega); omega)]; simp⟩
    · refine g_iinc hZ dX8_kindOf_25 rfl (by decide) ?_
      refine g_iload_n hZ dX8_kindOf_28 rfl ?_
      refine g_iret hZ dX8_kindOf_29 rfl ⟨rfl, by unfold kindF; rw [← hz, if_pos (show 0 < cntB (wthB (rg w n B) B root 2) n by have := fun q => b3.mpr q; omega)]⟩
  refine g_iconst hZ dX8_kindOf_0 ?_
  refine g_istore_n hZ dX8_kindOf_1 (by decide) ?_
  refine g_iload_n hZ dX8_kindOf_2 rfl ?_
  refine g_aload_n hZ dX8_kindOf_3 rfl ?_
  refine g_iconst hZ dX8_kindOf_4 ?_
  refine g_callV hZ (As := [iV ((1 : Nat) : Int)]) (t_X8_maskOf E S w h n hg B hX hB 1 (by omega)) kX8_108 ⟨by decide, by decide⟩ rfl rfl rfl rfl (Nat.le_of_ble_eq_true rfl) dX8_kindOf_5 ?_
  rintro _ _ ⟨rfl, m1, rfl, hm1⟩
  obtain ⟨b1, b2, b3⟩ := bc_P hn (and_wth (v := 1) (by omega) hm hm1)
  refine g_iand hZ dX8_kindOf_8 (gi_and _ _) ?_
  refine g_if_eq hZ 15 dX8_kindOf_9 rfl (by omega) (fun c => ?_) (fun c => ?_)
  · exact second 0 _ (by rw [if_neg (show ¬ 0 < cntB (wthB (rg w n B) B root 1) n by have := b3.mp (by omega); omega)]) rfl
  · refine g_iinc hZ dX8_kindOf_12 rfl (by decide) ?_
    exact second 1 _ (by rw [if_pos (show 0 < cntB (wthB (rg w n B) B root 1) n by have := fun q => b3.mpr q; omega)]) rfl
theorem t_X8_isShared (E : gE) (S : gS) (w h n : Nat) (hg : xG S w h n) (B : Nat → Int) (hX : XB S n B) (hB : mBd B n) (root : Int) (m : Nat) (hm : isM m (rgB w n B root)) : Ct E LAY mX8_isShared [.ref (gad E 0), iV (m : Int)] S (fun r S' => S = S' ∧ ∃ z, r = some (iV z) ∧ isB z (kindF (rg w n B) B n root = 3)) := by
  have hk : 0 ≤ kindF (rg w n B) B n root ∧ kindF (rg w n B) B n root ≤ 3 := by unfold kindF; split <;> split <;> omega
  refine Ct.intro LAY_ok (by decide +kernel) (Nat.le_of_ble_eq_true rfl) rfl ?_
  intro Z hZ
  refine g_aload_n hZ dX8_isShared_0 rfl ?_
  refine g_iload_n hZ dX8_isShared_1 rfl ?_
  refine g_callV hZ (t_X8_kindOf E S w h n hg B hX hB root m hm) kX8_163 ⟨by decide, by decide⟩ rfl rfl rfl rfl (Nat.le_of_ble_eq_true rfl) dX8_isShared_2 ?_
  rintro _ _ ⟨rfl, rfl⟩
  refine g_iconst hZ dX8_isShared_5 ?_
  refine g_icmp_ne hZ 13 dX8_isShared_6 rfl (by omega) (fun c => ?_) (fun c => ?_)
  · refine g_iconst hZ dX8_isShared_13 ?_
    refine g_zret hZ dX8_isShared_14 rfl (Or.inl rfl) ⟨rfl, 0, rfl, Or.inr ⟨rfl, c⟩⟩
  · refine g_iconst hZ dX8_isShared_9 ?_
    refine g_goto hZ 14 dX8_isShared_10 rfl ?_
    refine g_zret hZ dX8_isShared_14 rfl (Or.inr rfl) ⟨rfl, 1, rfl, Or.inl ⟨rfl, by omega⟩⟩
theorem t_X8_divideBoard (E : gE) (S : gS) (w h n : Nat) (hg : xG S w h n) (B : Nat → Int) (hX : XB S n B) (hB : mBd B n) : Ct E LAY mX8_divideBoard [.ref (gad E 0)] S (fun r S' => r = none ∧ Eqx [30, 31] S S' ∧ XR S' w n B) := by
  refine Ct.intro LAY_ok (by decide +kernel) (Nat.le_of_ble_eq_true rfl) rfl ?_
  intro Z hZ
  refine g_aload_n hZ dX8_divideBoard_0 rfl ?_
  refine g_getr hZ fX8_40 rfl rfl dX8_divideBoard_1 ?_
  refine g_aload_n hZ dX8_divideBoard_4 rfl ?_
  refine g_getr hZ fX8_12 rfl rfl dX8_divideBoard_5 ?_
  refine g_aload_n hZ dX8_divideBoard_8 rfl ?_
  refine g_getr hZ fX8_12 rfl rfl dX8_divideBoard_9 ?_
  refine g_geti hZ fX8_227 rfl rfl dX8_divideBoard_12 hg.2.2.2.1 ?_
  refine g_aload_n hZ dX8_divideBoard_15 rfl ?_
  refine g_iconst hZ dX8_divideBoard_16 ?_
  refine g_callV hZ (As := [iV ((3 : Nat) : Int)]) (t_X8_maskOf E S w h n hg B hX hB 3 (by omega)) kX8_108 ⟨by decide, by decide⟩ rfl rfl rfl rfl (Nat.le_of_ble_eq_true rfl) dX8_divideBoard_17 ?_
  rintro _ _ ⟨rfl, m3, rfl, hm3⟩
  have hop : isM (andn (andM n) m3) (opB n B) := fun k => by
    have e3 : m3.testBit k = mkB n B ((3 : Nat) : Int) k := hm3 k
    rw [andn_tb, e3]
    unfold andM opB mkB
    rw [Nat.testBit_two_pow_sub_one]
    by_cases q : k < n
    · simp [q]
    · simp [q]
  refine g_iconst hZ dX8_divideBoard_20 ?_
  refine g_ixor hZ dX8_divideBoard_21 (gi_not _) ?_
  refine g_iand hZ dX8_divideBoard_22 (gi_andn _ _) ?_
  refine g_callV hZ (t_X5_divide E S w h n hg B _ hop) kX8_248 ⟨by decide, by decide⟩ rfl rfl rfl rfl (Nat.le_of_ble_eq_true rfl) dX8_divideBoard_23 ?_
  rintro _ S₁ ⟨rfl, he₁, hx₁⟩
  refine g_vret hZ dX8_divideBoard_26 rfl ⟨rfl, he₁, hx₁⟩
theorem t_X8_regions (E : gE) (S : gS) (w h n : Nat) (hg : xG S w h n) (B : Nat → Int) (hX : XB S n B) (hB : mBd B n) : Ct E LAY mX8_regions [.ref (gad E 0)] S (fun r S' => r = some (iV (cntB (rootB (rg w n B)) n : Int)) ∧ Eqx [30, 31] S S') := by
  refine Ct.intro LAY_ok (by decide +kernel) (Nat.le_of_ble_eq_true rfl) rfl ?_
  intro Z hZ
  refine g_aload_n hZ dX8_regions_0 rfl ?_
  refine g_callV hZ (t_X8_divideBoard E S w h n hg B hX hB) kX8_155 ⟨by decide, by decide⟩ rfl rfl rfl rfl (Nat.le_of_ble_eq_true rfl) dX8_regions_1 ?_
  rintro _ S₁ ⟨rfl, he₁, hx₁⟩
  have h30 : S₁ 30 0 = (cntB (rootB (rg w n B)) n : Int) := by rw [hx₁.1, rts_len]
  refine g_aload_n hZ dX8_regions_4 rfl ?_
  refine g_getr hZ fX8_40 rfl rfl dX8_regions_5 ?_
  refine g_geti hZ fX8_158 rfl rfl dX8_regions_8 h30 ?_
  refine g_iret hZ dX8_regions_11 rfl ⟨rfl, he₁⟩
theorem t_X8_regionOf (E : gE) (S : gS) (w h n : Nat) (hg : xG S w h n) (B : Nat → Int) (hX : XB S n B) (hB : mBd B n) (f : Int) (rf : R32 f) : Ct E LAY mX8_regionOf [.ref (gad E 0), iV f] S (fun r S' => r = some (iV (aRegOf (rg w n B) n f)) ∧ Eqx [30, 31] S S') := by
  have hn := hg.n15
  have hr := rg_ok w n B
  have hle := cntB_le (rootB (rg w n B)) n
  refine Ct.intro LAY_ok (by decide +kernel) (Nat.le_of_ble_eq_true rfl) rfl ?_
  intro Z hZ
  refine g_aload_n hZ dX8_regionOf_0 rfl ?_
  refine g_getr hZ fX8_12 rfl rfl dX8_regionOf_1 ?_
  refine g_iload_n hZ dX8_regionOf_4 rfl ?_
  refine g_callV hZ (t_X1_has E S n hg.2.2.1 hn f rf) kX8_95 ⟨by decide, by decide⟩ rfl rfl rfl rfl (Nat.le_of_ble_eq_true rfl) dX8_regionOf_5 ?_
  rintro _ _ ⟨rfl, z, rfl, hz⟩
  rcases hz with ⟨rfl, hz⟩ | ⟨rfl, hz⟩
  · have ef : f = ((f.toNat : Nat) : Int) := by omega
    generalize hk : f.toNat = k at *
    subst ef
    have ea : aRegOf (rg w n B) n (k : Int) = if rg w n B k < 0 then -1005 else (cntB (rootB (rg w n B)) (rg w n B k).toNat : Int) := by unfold aRegOf; rw [if_pos ⟨hz.1, hz.2⟩]; rfl
    refine g_if_ne hZ 15 dX8_regionOf_8 rfl (by omega) (fun _ => ?_) (fun cX => absurd cX (by omega))
    refine g_aload_n hZ dX8_regionOf_15 rfl ?_
    refine g_callV hZ (t_X8_divideBoard E S w h n hg B hX hB) kX8_155 ⟨by decide, by decide⟩ rfl rfl rfl rfl (Nat.le_of_ble_eq_true rfl) dX8_regionOf_16 ?_
    rintro _ S₁ ⟨rfl, he₁, hx₁⟩
    have h30 : S₁ 30 0 = (cntB (rootB (rg w n B)) n : Int) := by rw [hx₁.1, rts_len]
    have loop : ∀ (m i : Nat), i + m = cntB (rootB (rg w n B)) n → (∀ j, j < i → ∀ r : Nat, (rts (rg w n B) n)[j]? = some r → rg w n B k ≠ (r : Int)) → Z S₁ [(0, .ref (gad E 0)), (1, iV (k : Int)), (2, iV (i : Int))] 21 [] := by
      intro m
      induction m with
      | zero =>
        intro i hi hno
        have hneg : rg w n B k < 0 := by
          apply Classical.byContradiction
          intro hge
          have ok : B k ≠ 3 := fun e3 => by have := hr.1 k (by omega) e3; omega
          obtain ⟨g, g1, g2, g3, g4⟩ := hr.2.1 k (by omega) ok
          have hgr := hr.cn g4
          have hrb : rootB (rg w n B) g = true := by unfold rootB; rw [decide_eq_true_eq]; omega
          have hat := flt_at hrb (show g < n by omega)
          have hl := (List.getElem?_eq_some_iff.mp hat).1
          rw [cntB_len] at hl
          exact hno _ (by omega) g hat g1
        rw [ea, if_pos hneg] at hZ
        refine g_iload_n hZ dX8_regionOf_21 rfl ?_
        refine g_aload_n hZ dX8_regionOf_22 rfl ?_
        refine g_getr hZ fX8_40 rfl rfl dX8_regionOf_23 ?_
        refine g_geti hZ fX8_158 rfl rfl dX8_regionOf_26 h30 ?_
        refine g_icmp_ge hZ 56 dX8_regionOf_29 rfl (by omega) (fun _ => ?_) (fun cX => absurd (by omega) cX)
        refine g_sipush hZ (z := (-1005)) dX8_regionOf_56 rfl ?_
        refine g_iret hZ dX8_regionOf_59 rfl ⟨rfl, he₁⟩
      | succ m ih =>
        intro i hi hno
        obtain ⟨r, hri⟩ : ∃ r, (rts (rg w n B) n)[i]? = some r := ⟨_, List.getElem?_eq_getElem (by rw [rts_len]; omega)⟩
        obtain ⟨m1, e1, e2⟩ := hx₁.2 i r hri
        have hml : m1 < 2 ^ 15 := e2.lt (n := 15) (fun k hk => by unfold rgB; rw [decide_eq_false (by omega)]; rfl)
        have hmk : m1.testBit k = rgB w n B (r : Int) k := e2 k
        refine g_iload_n hZ dX8_regionOf_21 rfl ?_
        refine g_aload_n hZ dX8_regionOf_22 rfl ?_
        refine g_getr hZ fX8_40 rfl rfl dX8_regionOf_23 ?_
        refine g_geti hZ fX8_158 rfl rfl dX8_regionOf_26 h30 ?_
        refine g_icmp_ge hZ 56 dX8_regionOf_29 rfl (by omega) (fun cX => absurd cX (by omega)) (fun _ => ?_)
        refine g_aload_n hZ dX8_regionOf_32 rfl ?_
        refine g_getr hZ fX8_40 rfl rfl dX8_regionOf_33 ?_
        refine g_getr hZ fX8_159 rfl rfl dX8_regionOf_36 ?_
        refine g_iload_n hZ dX8_regionOf_39 rfl ?_
        refine g_iald hZ (i) rfl dX8_regionOf_40 (rfl) (by omega) (by decide) (e1) ?_
        refine g_iload_n hZ dX8_regionOf_41 rfl ?_
        refine g_ishr hZ dX8_regionOf_42 (gi_shr (by omega) (by omega)) ?_
        refine g_iconst hZ dX8_regionOf_43 ?_
        refine g_iand hZ dX8_regionOf_44 (gi_and1 _) ?_
        rw [tb_div, hmk]
        unfold rgB
        rw [decide_eq_true (show k < n by omega), Bool.true_and]
        by_cases q : rg w n B k = (r : Int)
        · rw [decide_eq_true q]
          obtain ⟨p1, p2, p3⟩ := flt_ix hri
          refine g_if_eq hZ 50 dX8_regionOf_45 rfl (by decide) (fun cX => absurd cX (by decide)) (fun _ => ?_)
          rw [ea, if_neg (by omega), q, show ((r : Nat) : Int).toNat = r by omega, ← p3] at hZ
          refine g_iload_n hZ dX8_regionOf_48 rfl ?_
          refine g_iret hZ dX8_regionOf_49 rfl ⟨rfl, he₁⟩
        · rw [decide_eq_false q]
          refine g_if_eq hZ 50 dX8_regionOf_45 rfl (by decide) (fun _ => ?_) (fun cX => absurd (by decide) cX)
          refine g_iinc hZ dX8_regionOf_50 rfl (by decide) ?_
          refine g_goto hZ 21 dX8_regionOf_53 rfl ?_
          exact ih (i + 1) (by omega) (fun j hj r2 hr2 => by
            by_cases e : j = i
            · subst e; rw [hri] at hr2; cases hr2; exact q
            · exact hno j (by omega) r2 hr2)
    refine g_iconst hZ dX8_regionOf_19 ?_
    refine g_istore_n hZ dX8_regionOf_20 (by decide) ?_
    exact loop (cntB (rootB (rg w n B)) n) 0 (Nat.zero_add _) (fun j hj => absurd hj (Nat.not_lt_zero j))
  · have ea : aRegOf (rg w n B) n f = -1001 := by unfold aRegOf; rw [if_neg (fun q => hz ⟨q.1, q.2⟩)]
    rw [ea] at hZ
    refine g_if_ne hZ 15 dX8_regionOf_8 rfl (by omega) (fun cX => absurd (by omega) cX) (fun _ => ?_)
    refine g_sipush hZ (z := (-1001)) dX8_regionOf_11 rfl ?_
    refine g_iret hZ dX8_regionOf_14 rfl ⟨rfl, Eqx.rf⟩
