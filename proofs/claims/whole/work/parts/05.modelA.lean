/-! the reference: board, sight, moves -/
/-- the reference's size -/
def mG (S : gS) (w h n : Nat) : Prop := S 50 0 = (w : Int) ∧ S 51 0 = (h : Int) ∧ gOK w h n
theorem mG.n15 {S : gS} {w h n : Nat} (hg : mG S w h n) : n ≤ 15 := hg.2.2.2.2.2.2.2
theorem mG.x {vs : List Nat} {S S1 : gS} {w h n : Nat} (hg : mG S w h n) (he : Eqx vs S S1) (h1 : vs.contains 50 = false) (h2 : vs.contains 51 = false) : mG S1 w h n := ⟨(he 50 0 h1).trans hg.1, (he 51 0 h2).trans hg.2.1, hg.2.2⟩
/-- a board's numbers -/
def mBd (f : Nat → Int) (n : Nat) : Prop := ∀ k, k < n → 0 ≤ f k ∧ f k ≤ 3
theorem t_X9_in (E : gE) (S : gS) (v a b : Int) (hv : R32 v) (ha : R32 a) (hb : R32 b) : Ct E LAY mX9_in [iV v, iV a, iV b] S (fun r S' => S = S' ∧ ∃ z, r = some (iV z) ∧ isB z (a ≤ v ∧ v ≤ b)) := by
  refine Ct.intro LAY_ok (by decide +kernel) (Nat.le_of_ble_eq_true rfl) rfl ?_
  intro Z hZ
  refine g_iload_n hZ dX9_in_0 rfl ?_
  refine g_iload_n hZ dX9_in_1 rfl ?_
  refine g_icmp_lt hZ 14 dX9_in_2 rfl (by omega) (fun c1 => ?_) (fun c1 => ?_)
  · refine g_iconst hZ dX9_in_14 ?_
    refine g_zret hZ dX9_in_15 rfl (Or.inl rfl) ⟨rfl, 0, rfl, Or.inr ⟨rfl, by omega⟩⟩
  · refine g_iload_n hZ dX9_in_5 rfl ?_
    refine g_iload_n hZ dX9_in_6 rfl ?_
    refine g_icmp_gt hZ 14 dX9_in_7 rfl (by omega) (fun c2 => ?_) (fun c2 => ?_)
    · refine g_iconst hZ dX9_in_14 ?_
      refine g_zret hZ dX9_in_15 rfl (Or.inl rfl) ⟨rfl, 0, rfl, Or.inr ⟨rfl, by omega⟩⟩
    · refine g_iconst hZ dX9_in_10 ?_
      refine g_goto hZ 15 dX9_in_11 rfl ?_
      refine g_zret hZ dX9_in_15 rfl (Or.inr rfl) ⟨rfl, 1, rfl, Or.inl ⟨rfl, by omega⟩⟩
theorem t_X9_size (E : gE) (S : gS) (w h n : Nat) (hg : mG S w h n) : Ct E LAY mX9_size [.ref (gad E 27)] S (fun r S' => S = S' ∧ r = some (iV (n : Int))) := by
  obtain ⟨h1, h2, h3, h4, h5, h6, h7, h8⟩ := hg
  refine Ct.intro LAY_ok (by decide +kernel) (Nat.le_of_ble_eq_true rfl) rfl ?_
  intro Z hZ
  refine g_aload_n hZ dX9_size_0 rfl ?_
  refine g_geti hZ fX9_7 rfl rfl dX9_size_1 h1 ?_
  refine g_aload_n hZ dX9_size_4 rfl ?_
  refine g_geti hZ fX9_13 rfl rfl dX9_size_5 h2 ?_
  refine g_imul hZ dX9_size_8 ?_
  refine g_iret hZ dX9_size_9 rfl ⟨rfl, by rw [← h7]; simp⟩
theorem t_X9_isField (E : gE) (S : gS) (w h n : Nat) (hg : mG S w h n) (f : Int) (hf : R32 f) : Ct E LAY mX9_isField [.ref (gad E 27), iV f] S (fun r S' => S = S' ∧ ∃ z, r = some (iV z) ∧ isB z (0 ≤ f ∧ f < n)) := by
  have hn := hg.n15
  refine Ct.intro LAY_ok (by decide +kernel) (Nat.le_of_ble_eq_true rfl) rfl ?_
  intro Z hZ
  refine g_iload_n hZ dX9_isField_0 rfl ?_
  refine g_iconst hZ dX9_isField_1 ?_
  refine g_aload_n hZ dX9_isField_2 rfl ?_
  refine g_callV hZ (t_X9_size E S w h n hg) kX9_60 ⟨by decide, by decide⟩ rfl rfl rfl rfl (Nat.le_of_ble_eq_true rfl) dX9_isField_3 ?_
  rintro _ _ ⟨rfl, rfl⟩
  refine g_iconst hZ dX9_isField_6 ?_
  refine g_isub hZ dX9_isField_7 ?_
  refine g_callS hZ (t_X9_in E S f 0 ((n : Int) - 1) hf (by omega) (by omega)) kX9_64 ⟨by decide, by decide⟩ rfl rfl (Nat.le_of_ble_eq_true rfl) dX9_isField_8 ?_
  rintro _ _ ⟨rfl, z, rfl, hz⟩
  refine g_zret hZ dX9_isField_11 rfl (isB_01 hz) ⟨rfl, z, rfl, isB_iff hz (by omega)⟩
theorem t_X9_isSide (E : gE) (S : gS) (v : Int) (hv : R32 v) : Ct E LAY mX9_isSide [iV v] S (fun r S' => S = S' ∧ ∃ z, r = some (iV z) ∧ isB z (v = 1 ∨ v = 2)) := by
  refine Ct.intro LAY_ok (by decide +kernel) (Nat.le_of_ble_eq_true rfl) rfl ?_
  intro Z hZ
  refine g_iload_n hZ dX9_isSide_0 rfl ?_
  refine g_iconst hZ dX9_isSide_1 ?_
  refine g_iconst hZ dX9_isSide_2 ?_
  refine g_callS hZ (t_X9_in E S v 1 2 hv (by omega) (by omega)) kX9_64 ⟨by decide, by decide⟩ rfl rfl (Nat.le_of_ble_eq_true rfl) dX9_isSide_3 ?_
  rintro _ _ ⟨rfl, z, rfl, hz⟩
  refine g_zret hZ dX9_isSide_6 rfl (isB_01 hz) ⟨rfl, z, rfl, isB_iff hz (by omega)⟩
theorem t_X9_counted (E : gE) (S : gS) (w h n : Nat) (hg : mG S w h n) (v : Int) (hv : R32 v) (hB : mBd (S 61) n) : Ct E LAY mX9_counted [.ref (gad E 27), iV v] S (fun r S' => S = S' ∧ r = some (iV (cntZ (S 61) v n))) := by
  have hn := hg.n15
  refine Ct.intro LAY_ok (by decide +kernel) (Nat.le_of_ble_eq_true rfl) rfl ?_
  intro Z hZ
  have loop : ∀ (m k : Nat), k + m = n → Z S [(0, .ref (gad E 27)), (1, iV v), (2, iV (cntZ (S 61) v k : Int)), (3, iV (k : Int))] 4 [] := by
    intro m
    induction m with
    | zero =>
      intro k hk
      refine g_iload_n hZ dX9_counted_4 rfl ?_
      refine g_aload_n hZ dX9_counted_5 rfl ?_
      refine g_callV hZ (t_X9_size E S w h n hg) kX9_60 ⟨by decide, by decide⟩ rfl rfl rfl rfl (Nat.le_of_ble_eq_true rfl) dX9_counted_6 ?_
      rintro _ _ ⟨rfl, rfl⟩
      refine g_icmp_ge hZ 36 dX9_counted_9 rfl (by omega) (fun _ => ?_) (fun cX => absurd (by omega) cX)
      refine g_iload_n hZ dX9_counted_36 rfl ?_
      refine g_iret hZ dX9_counted_37 rfl ⟨rfl, by rw [show k = n by omega]⟩
    | succ m ih =>
      intro k hk
      have := cntZ_le (S 61) v k
      refine g_iload_n hZ dX9_counted_4 rfl ?_
      refine g_aload_n hZ dX9_counted_5 rfl ?_
      refine g_callV hZ (t_X9_size E S w h n hg) kX9_60 ⟨by decide, by decide⟩ rfl rfl rfl rfl (Nat.le_of_ble_eq_true rfl) dX9_counted_6 ?_
      rintro _ _ ⟨rfl, rfl⟩
      refine g_icmp_ge hZ 36 dX9_counted_9 rfl (by omega) (fun cX => absurd cX (by omega)) (fun _ => ?_)
      have hBk := hB k (by omega)
      refine g_iload_n hZ dX9_counted_12 rfl ?_
      refine g_aload_n hZ dX9_counted_13 rfl ?_
      refine g_getr hZ fX9_16 rfl rfl dX9_counted_14 ?_
      refine g_iload_n hZ dX9_counted_17 rfl ?_
      refine g_iald hZ (k) rfl dX9_counted_18 (rfl) (by omega) (by decide) (rfl) ?_
      refine g_iload_n hZ dX9_counted_19 rfl ?_
      have e1 : (cntZ (S 61) v (k + 1) : Int) = cntZ (S 61) v k + (if S 61 k = v then 1 else 0) := by rw [cntZ]; split <;> simp
      refine g_icmp_ne hZ 27 dX9_counted_20 rfl (by omega) (fun c => ?_) (fun c => ?_)
      · rw [if_neg c] at e1
        refine g_iconst hZ dX9_counted_27 ?_
        refine g_iadd hZ dX9_counted_28 ?_
        refine g_istore_n hZ dX9_counted_29 (by decide) ?_
        refine g_iinc hZ dX9_counted_30 rfl (by decide) ?_
        refine g_goto hZ 4 dX9_counted_33 rfl ?_
        rw [← e1]
        exact ih (k + 1) (by omega)
      · rw [if_pos c] at e1
        refine g_iconst hZ dX9_counted_23 ?_
        refine g_goto hZ 28 dX9_counted_24 rfl ?_
        refine g_iadd hZ dX9_counted_28 ?_
        refine g_istore_n hZ dX9_counted_29 (by decide) ?_
        refine g_iinc hZ dX9_counted_30 rfl (by decide) ?_
        refine g_goto hZ 4 dX9_counted_33 rfl ?_
        rw [← e1]
        exact ih (k + 1) (by omega)
  refine g_iconst hZ dX9_counted_0 ?_
  refine g_istore_n hZ dX9_counted_1 (by decide) ?_
  refine g_iconst hZ dX9_counted_2 ?_
  refine g_istore_n hZ dX9_counted_3 (by decide) ?_
  exact loop n 0 (by omega)
theorem t_X9_inWay (E : gE) (S : gS) (w h n : Nat) (hg : mG S w h n) (hB : mBd (S 61) n) (f v : Int) (hf : R32 f) (hv : R32 v) : Ct E LAY mX9_inWay [.ref (gad E 27), iV f, iV v] S (fun r S' => S = S' ∧ ∃ z, r = some (iV z) ∧ ((¬ (0 ≤ f ∧ f < n ∧ 0 ≤ v ∧ v ≤ 3) ∧ z = -1001) ∨ ((0 ≤ f ∧ f < n ∧ 0 ≤ v ∧ v ≤ 3) ∧ ((v = 1 ∨ v = 2) ∧ S 61 f.toNat ≠ v ∧ cntZ (S 61) v n = 3) ∧ z = -1003) ∨ ((0 ≤ f ∧ f < n ∧ 0 ≤ v ∧ v ≤ 3) ∧ ¬ ((v = 1 ∨ v = 2) ∧ S 61 f.toNat ≠ v ∧ cntZ (S 61) v n = 3) ∧ z = 0))) := by
  have hn := hg.n15
  refine Ct.intro LAY_ok (by decide +kernel) (Nat.le_of_ble_eq_true rfl) rfl ?_
  intro Z hZ
  refine g_aload_n hZ dX9_inWay_0 rfl ?_
  refine g_iload_n hZ dX9_inWay_1 rfl ?_
  refine g_callV hZ (t_X9_isField E S w h n hg f hf) kX9_77 ⟨by decide, by decide⟩ rfl rfl rfl rfl (Nat.le_of_ble_eq_true rfl) dX9_inWay_2 ?_
  rintro _ _ ⟨rfl, z1, rfl, hz1⟩
  rcases hz1 with ⟨rfl, hz1⟩ | ⟨rfl, hz1⟩
  · refine g_if_eq hZ 17 dX9_inWay_5 rfl (by omega) (fun cX => absurd cX (by omega)) (fun _ => ?_)
    refine g_iload_n hZ dX9_inWay_8 rfl ?_
    refine g_iconst hZ dX9_inWay_9 ?_
    refine g_iconst hZ dX9_inWay_10 ?_
    refine g_callS hZ (t_X9_in E S v 0 3 hv (by omega) (by omega)) kX9_64 ⟨by decide, by decide⟩ rfl rfl (Nat.le_of_ble_eq_true rfl) dX9_inWay_11 ?_
    rintro _ _ ⟨rfl, z2, rfl, hz2⟩
    rcases hz2 with ⟨rfl, hz2⟩ | ⟨rfl, hz2⟩
    · refine g_if_ne hZ 21 dX9_inWay_14 rfl (by omega) (fun _ => ?_) (fun cX => absurd cX (by omega))
      refine g_iload_n hZ dX9_inWay_21 rfl ?_
      refine g_callS hZ (t_X9_isSide E S v hv) kX9_81 ⟨by decide, by decide⟩ rfl rfl (Nat.le_of_ble_eq_true rfl) dX9_inWay_22 ?_
      rintro _ _ ⟨rfl, z3, rfl, hz3⟩
      rcases hz3 with ⟨rfl, hz3⟩ | ⟨rfl, hz3⟩
      · refine g_if_eq hZ 53 dX9_inWay_25 rfl (by omega) (fun cX => absurd cX (by omega)) (fun _ => ?_)
        have hBf := hB f.toNat (by omega)
        refine g_aload_n hZ dX9_inWay_28 rfl ?_
        refine g_getr hZ fX9_16 rfl rfl dX9_inWay_29 ?_
        refine g_iload_n hZ dX9_inWay_32 rfl ?_
        refine g_iald hZ (f.toNat) rfl dX9_inWay_33 ((Int.toNat_of_nonneg hz1.1).symm) (by omega) (by decide) (rfl) ?_
        refine g_iload_n hZ dX9_inWay_34 rfl ?_
        refine g_icmp_eq hZ 53 dX9_inWay_35 rfl (by omega) (fun c => ?_) (fun c => ?_)
        · refine g_iconst hZ dX9_inWay_53 ?_
          refine g_iret hZ dX9_inWay_54 rfl ⟨rfl, 0, rfl, Or.inr (Or.inr ⟨by omega, fun q => q.2.1 c, rfl⟩)⟩
        · refine g_aload_n hZ dX9_inWay_38 rfl ?_
          refine g_iload_n hZ dX9_inWay_39 rfl ?_
          have := cntZ_le (S 61) v n
          refine g_callV hZ (t_X9_counted E S w h n hg v hv hB) kX9_84 ⟨by decide, by decide⟩ rfl rfl rfl rfl (Nat.le_of_ble_eq_true rfl) dX9_inWay_40 ?_
          rintro _ _ ⟨rfl, rfl⟩
          refine g_iconst hZ dX9_inWay_43 ?_
          refine g_icmp_ne hZ 53 dX9_inWay_44 rfl (by omega) (fun c2 => ?_) (fun c2 => ?_)
          · refine g_iconst hZ dX9_inWay_53 ?_
            refine g_iret hZ dX9_inWay_54 rfl ⟨rfl, 0, rfl, Or.inr (Or.inr ⟨by omega, fun q => c2 (by omega), rfl⟩)⟩
          · refine g_sipush hZ (z := (-1003)) dX9_inWay_47 rfl ?_
            refine g_goto hZ 54 dX9_inWay_50 rfl ?_
            refine g_iret hZ dX9_inWay_54 rfl ⟨rfl, -1003, rfl, Or.inr (Or.inl ⟨by omega, ⟨hz3, c, by omega⟩, rfl⟩)⟩
      · refine g_if_eq hZ 53 dX9_inWay_25 rfl (by omega) (fun _ => ?_) (fun cX => absurd (by omega) cX)
        refine g_iconst hZ dX9_inWay_53 ?_
        refine g_iret hZ dX9_inWay_54 rfl ⟨rfl, 0, rfl, Or.inr (Or.inr ⟨by omega, fun q => hz3 q.1, rfl⟩)⟩
    · refine g_if_ne hZ 21 dX9_inWay_14 rfl (by omega) (fun cX => absurd (by omega) cX) (fun _ => ?_)
      refine g_sipush hZ (z := (-1001)) dX9_inWay_17 rfl ?_
      refine g_iret hZ dX9_inWay_20 rfl ⟨rfl, -1001, rfl, Or.inl ⟨by omega, rfl⟩⟩
  · refine g_if_eq hZ 17 dX9_inWay_5 rfl (by omega) (fun _ => ?_) (fun cX => absurd (by omega) cX)
    refine g_sipush hZ (z := (-1001)) dX9_inWay_17 rfl ?_
    refine g_iret hZ dX9_inWay_20 rfl ⟨rfl, -1001, rfl, Or.inl ⟨by omega, rfl⟩⟩
theorem t_X9_puts (E : gE) (S : gS) (f : Nat) (v : Int) (hf : f < 15) : Ct E LAY mX9_puts [.ref (gad E 27), iV (f : Int), iV v] S (fun r S' => S' = upS S 61 f v ∧ r = some (iV (S 61 f))) := by
  refine Ct.intro LAY_ok (by decide +kernel) (Nat.le_of_ble_eq_true rfl) rfl ?_
  intro Z hZ
  refine g_aload_n hZ dX9_puts_0 rfl ?_
  refine g_getr hZ fX9_16 rfl rfl dX9_puts_1 ?_
  refine g_iload_n hZ dX9_puts_4 rfl ?_
  refine g_iald hZ (f) rfl dX9_puts_5 (rfl) (by omega) (by decide) (rfl) ?_
  refine g_istore_n hZ dX9_puts_6 (by decide) ?_
  refine g_aload_n hZ dX9_puts_7 rfl ?_
  refine g_getr hZ fX9_16 rfl rfl dX9_puts_8 ?_
  refine g_iload_n hZ dX9_puts_11 rfl ?_
  refine g_iload_n hZ dX9_puts_12 rfl ?_
  refine g_iast hZ (f) rfl dX9_puts_13 (rfl) (by omega) (by decide) ?_
  refine g_iload_n hZ dX9_puts_14 rfl ?_
  refine g_iret hZ dX9_puts_15 rfl ⟨rfl, rfl⟩
theorem t_X9_sees (E : gE) (S : gS) (w h n : Nat) (hg : mG S w h n) (a b : Nat) (ha : a < n) (hb : b < n) (hB : mBd (S 62) n) : Ct E LAY mX9_sees [.ref (gad E 27), iV (a : Int), iV (b : Int)] S (fun r S' => S = S' ∧ ∃ z, r = some (iV z) ∧ isB z (seenB w (frB (S 62)) a b = true)) := by
  have hn := hg.n15
  have hw := hg.1
  have hO := hg.2.2
  obtain ⟨ow1, ow5, oh1, oh5, -, -⟩ := id hO
  refine Ct.intro LAY_ok (by decide +kernel) (Nat.le_of_ble_eq_true rfl) rfl ?_
  intro Z hZ
  have bx := gdx_b (w := w) (a := a) (b := b) ow1 ow5
  have byy := gdy_b hO ha hb
  have sx := sgz_b (gdx w a b)
  have sy := sgz_b (gdy w a b)
  have mx := sgz_m bx
  have my := sgz_m byy
  have ax : R32 (gdx w a b * sgz (gdx w a b)) := by omega
  have ay : R32 (gdy w a b * sgz (gdy w a b)) := by omega
  have hend : ∀ (z v8 : Int), isB z (seenB w (frB (S 62)) a b = true) → Z S [(0, .ref (gad E 27)), (1, iV (a : Int)), (2, iV (b : Int)), (3, iV (gdx w a b)), (4, iV (gdy w a b)), (5, iV (sgz (gdx w a b))), (6, iV (sgz (gdy w a b))), (7, iV z), (8, iV v8)] 151 [] := by
    intro z v8 hz
    refine g_iload hZ dX9_sees_151 rfl ?_
    refine g_zret hZ dX9_sees_153 rfl (isB_01 hz) ⟨rfl, z, rfl, hz⟩
  have hno : ∀ (v8 : Int), ¬ seenB w (frB (S 62)) a b = true → Z S [(0, .ref (gad E 27)), (1, iV (a : Int)), (2, iV (b : Int)), (3, iV (gdx w a b)), (4, iV (gdy w a b)), (5, iV (sgz (gdx w a b))), (6, iV (sgz (gdy w a b))), (7, iV 0), (8, iV v8)] 105 [] := by
    intro v8 hz
    refine g_iload hZ dX9_sees_105 rfl ?_
    refine g_if_eq hZ 151 dX9_sees_107 rfl (by omega) (fun _ => ?_) (fun cX => absurd (by omega) cX)
    exact hend 0 v8 (Or.inr ⟨rfl, hz⟩)
  have loop : galg w a b = true → ∀ (m i : Nat), i + m = gm w a b → (∀ j, j < i → frB (S 62) (gst w a b (j + 1)) = true) → Z S [(0, .ref (gad E 27)), (1, iV (a : Int)), (2, iV (b : Int)), (3, iV (gdx w a b)), (4, iV (gdy w a b)), (5, iV (sgz (gdx w a b))), (6, iV (sgz (gdy w a b))), (7, iV 1), (8, iV ((gst w a b i : Nat) : Int))] 105 [] := by
    intro hal m
    have hgs := (gst_ok hO ha hb hal).2
    induction m with
    | zero =>
      intro i hi hF
      obtain ⟨-, q2, q3⟩ := hgs i (by omega)
      refine g_iload hZ dX9_sees_105 rfl ?_
      refine g_if_eq hZ 151 dX9_sees_107 rfl (by omega) (fun cX => absurd cX (by omega)) (fun _ => ?_)
      refine g_iload hZ dX9_sees_110 rfl ?_
      refine g_iload_n hZ dX9_sees_112 rfl ?_
      refine g_icmp_eq hZ 151 dX9_sees_113 rfl (by omega) (fun _ => ?_) (fun cX => absurd (by have := q3.mpr (by omega); omega) cX)
      refine hend 1 _ (Or.inl ⟨rfl, ?_⟩)
      unfold seenB
      rw [hal, Bool.true_and, List.all_eq_true]
      exact fun j hj => hF j (by have := List.mem_range.mp hj; omega)
    | succ m ih =>
      intro i hi hF
      obtain ⟨-, q2, q3⟩ := hgs i (by omega)
      obtain ⟨-, p2, p3⟩ := hgs (i + 1) (by omega)
      have hb2 := hB _ p2
      refine g_iload hZ dX9_sees_105 rfl ?_
      refine g_if_eq hZ 151 dX9_sees_107 rfl (by omega) (fun cX => absurd cX (by omega)) (fun _ => ?_)
      refine g_iload hZ dX9_sees_110 rfl ?_
      refine g_iload_n hZ dX9_sees_112 rfl ?_
      refine g_icmp_eq hZ 151 dX9_sees_113 rfl (by omega) (fun cX => absurd cX (by intro e9; have := q3.mp (by omega); omega)) (fun _ => ?_)
      refine g_iload hZ dX9_sees_116 rfl ?_
      refine g_iload hZ dX9_sees_118 rfl ?_
      refine g_aload_n hZ dX9_sees_120 rfl ?_
      refine g_geti hZ fX9_7 rfl rfl dX9_sees_121 hw ?_
      refine g_iload hZ dX9_sees_124 rfl ?_
      refine g_imul hZ dX9_sees_126 ?_
      refine g_iadd hZ dX9_sees_127 ?_
      have est := gst_step hO ha hb hal (show i < gm w a b by omega)
      refine g_iadd hZ dX9_sees_128 ?_
      rw [est]
      refine g_istore hZ dX9_sees_129 (by decide) ?_
      refine g_aload_n hZ dX9_sees_131 rfl ?_
      refine g_getr hZ fX9_20 rfl rfl dX9_sees_132 ?_
      refine g_iload hZ dX9_sees_135 rfl ?_
      refine g_iald hZ ((gst w a b (i + 1))) rfl dX9_sees_137 (rfl) (by omega) (by decide) (rfl) ?_
      refine g_if_ne hZ 145 dX9_sees_138 rfl (by omega) (fun c => ?_) (fun c => ?_)
      · refine g_iconst hZ dX9_sees_145 ?_
        refine g_istore hZ dX9_sees_146 (by decide) ?_
        refine g_goto hZ 105 dX9_sees_148 rfl ?_
        refine hno _ (fun hs => c ?_)
        unfold seenB at hs
        rw [hal, Bool.true_and, List.all_eq_true] at hs
        have := hs i (List.mem_range.mpr (by omega))
        simpa [frB] using this
      · refine g_iconst hZ dX9_sees_141 ?_
        refine g_goto hZ 146 dX9_sees_142 rfl ?_
        refine g_istore hZ dX9_sees_146 (by decide) ?_
        refine g_goto hZ 105 dX9_sees_148 rfl ?_
        refine ih (i + 1) (by omega) (fun j hj => ?_)
        by_cases e9 : j < i
        · exact hF j e9
        · have : j = i := by omega
          subst this
          simpa [frB] using c
  have h100 : ∀ (z : Int), isB z (galg w a b = true) → Z S [(0, .ref (gad E 27)), (1, iV (a : Int)), (2, iV (b : Int)), (3, iV (gdx w a b)), (4, iV (gdy w a b)), (5, iV (sgz (gdx w a b))), (6, iV (sgz (gdy w a b)))] 100 [iV z] := by
    intro z hz
    rcases hz with ⟨rfl, hz⟩ | ⟨rfl, hz⟩
    · refine g_istore hZ dX9_sees_100 (by decide) ?_
      refine g_iload_n hZ dX9_sees_102 rfl ?_
      refine g_istore hZ dX9_sees_103 (by decide) ?_
      have := loop hz (gm w a b) 0 (by omega) (fun j hj => absurd hj (Nat.not_lt_zero j))
      rw [gst_0] at this
      exact this
    · refine g_istore hZ dX9_sees_100 (by decide) ?_
      refine g_iload_n hZ dX9_sees_102 rfl ?_
      refine g_istore hZ dX9_sees_103 (by decide) ?_
      exact hno _ (fun hs => hz (by unfold seenB at hs; exact (Bool.and_eq_true_iff.mp hs).1))
  have h69 : Z S [(0, .ref (gad E 27)), (1, iV (a : Int)), (2, iV (b : Int)), (3, iV (gdx w a b)), (4, iV (gdy w a b)), (5, iV (sgz (gdx w a b))), (6, iV (sgz (gdy w a b)))] 69 [] := by
    refine g_iload_n hZ dX9_sees_69 rfl ?_
    refine g_iload_n hZ dX9_sees_70 rfl ?_
    refine g_icmp_eq hZ 99 dX9_sees_71 rfl (by omega) (fun c1 => ?_) (fun c1 => ?_)
    · refine g_iconst hZ dX9_sees_99 ?_
      exact h100 0 (Or.inr ⟨rfl, fun q => (galg_iff.mp q).1 (by omega)⟩)
    · refine g_iload_n hZ dX9_sees_74 rfl ?_
      refine g_if_eq hZ 95 dX9_sees_75 rfl (by omega) (fun c2 => ?_) (fun c2 => ?_)
      · refine g_iconst hZ dX9_sees_95 ?_
        refine g_goto hZ 100 dX9_sees_96 rfl ?_
        exact h100 1 (Or.inl ⟨rfl, galg_iff.mpr ⟨by omega, Or.inl c2⟩⟩)
      · refine g_iload hZ dX9_sees_78 rfl ?_
        refine g_if_eq hZ 95 dX9_sees_80 rfl (by omega) (fun c3 => ?_) (fun c3 => ?_)
        · refine g_iconst hZ dX9_sees_95 ?_
          refine g_goto hZ 100 dX9_sees_96 rfl ?_
          exact h100 1 (Or.inl ⟨rfl, galg_iff.mpr ⟨by omega, Or.inr (Or.inl c3)⟩⟩)
        · refine g_iload_n hZ dX9_sees_83 rfl ?_
          refine g_iload hZ dX9_sees_84 rfl ?_
          refine g_imul hZ dX9_sees_86 ?_
          refine g_iload hZ dX9_sees_87 rfl ?_
          refine g_iload hZ dX9_sees_89 rfl ?_
          refine g_imul hZ dX9_sees_91 ?_
          refine g_icmp_ne hZ 99 dX9_sees_92 rfl ⟨ax, ay⟩ (fun c4 => ?_) (fun c4 => ?_)
          · refine g_iconst hZ dX9_sees_99 ?_
            exact h100 0 (Or.inr ⟨rfl, fun q => by rcases (galg_iff.mp q).2 with q | q | q; exact c2 q; exact c3 q; exact c4 q⟩)
          · refine g_iconst hZ dX9_sees_95 ?_
            refine g_goto hZ 100 dX9_sees_96 rfl ?_
            exact h100 1 (Or.inl ⟨rfl, galg_iff.mpr ⟨by omega, Or.inr (Or.inr c4)⟩⟩)
  have h67 : Z S [(0, .ref (gad E 27)), (1, iV (a : Int)), (2, iV (b : Int)), (3, iV (gdx w a b)), (4, iV (gdy w a b)), (5, iV (sgz (gdx w a b)))] 67 [iV (sgz (gdy w a b))] := by
    refine g_istore hZ dX9_sees_67 (by decide) ?_
    exact h69
  have h48 : Z S [(0, .ref (gad E 27)), (1, iV (a : Int)), (2, iV (b : Int)), (3, iV (gdx w a b)), (4, iV (gdy w a b)), (5, iV (sgz (gdx w a b)))] 48 [] := by
    refine g_iload hZ dX9_sees_48 rfl ?_
    refine g_if_le hZ 57 dX9_sees_50 rfl (by omega) (fun c1 => ?_) (fun c1 => ?_)
    · refine g_iload hZ dX9_sees_57 rfl ?_
      refine g_if_ge hZ 66 dX9_sees_59 rfl (by omega) (fun c2 => ?_) (fun c2 => ?_)
      · refine g_iconst hZ dX9_sees_66 ?_
        rw [show sgz (gdy w a b) = 0 by unfold sgz; rw [if_neg (by omega), if_neg (by omega)]] at h67
        exact h67
      · refine g_iconst hZ dX9_sees_62 ?_
        refine g_goto hZ 67 dX9_sees_63 rfl ?_
        rw [show sgz (gdy w a b) = -1 by unfold sgz; rw [if_neg (by omega), if_pos (by omega)]] at h67
        exact h67
    · refine g_iconst hZ dX9_sees_53 ?_
      refine g_goto hZ 67 dX9_sees_54 rfl ?_
      rw [show sgz (gdy w a b) = 1 by unfold sgz; rw [if_pos (by omega)]] at h67
      exact h67
  have h46 : Z S [(0, .ref (gad E 27)), (1, iV (a : Int)), (2, iV (b : Int)), (3, iV (gdx w a b)), (4, iV (gdy w a b))] 46 [iV (sgz (gdx w a b))] := by
    refine g_istore hZ dX9_sees_46 (by decide) ?_
    exact h48
  refine g_iload_n hZ dX9_sees_0 rfl ?_
  refine g_aload_n hZ dX9_sees_1 rfl ?_
  refine g_geti hZ fX9_7 rfl rfl dX9_sees_2 hw ?_
  refine g_irem hZ dX9_sees_5 (by omega) (by omega) (by omega) ?_
  refine g_iload_n hZ dX9_sees_6 rfl ?_
  refine g_aload_n hZ dX9_sees_7 rfl ?_
  refine g_geti hZ fX9_7 rfl rfl dX9_sees_8 hw ?_
  refine g_irem hZ dX9_sees_11 (by omega) (by omega) (by omega) ?_
  refine g_isub hZ dX9_sees_12 ?_
  refine g_istore_n hZ dX9_sees_13 (by decide) ?_
  refine g_iload_n hZ dX9_sees_14 rfl ?_
  refine g_aload_n hZ dX9_sees_15 rfl ?_
  refine g_geti hZ fX9_7 rfl rfl dX9_sees_16 hw ?_
  refine g_idiv hZ dX9_sees_19 (by omega) (by omega) (by omega) ?_
  refine g_iload_n hZ dX9_sees_20 rfl ?_
  refine g_aload_n hZ dX9_sees_21 rfl ?_
  refine g_geti hZ fX9_7 rfl rfl dX9_sees_22 hw ?_
  refine g_idiv hZ dX9_sees_25 (by omega) (by omega) (by omega) ?_
  refine g_isub hZ dX9_sees_26 ?_
  refine g_istore hZ dX9_sees_27 (by decide) ?_
  show Z S [(0, .ref (gad E 27)), (1, iV (a : Int)), (2, iV (b : Int)), (3, iV (gdx w a b)), (4, iV (gdy w a b))] 29 []
  refine g_iload_n hZ dX9_sees_29 rfl ?_
  refine g_if_le hZ 37 dX9_sees_30 rfl (by omega) (fun c1 => ?_) (fun c1 => ?_)
  · refine g_iload_n hZ dX9_sees_37 rfl ?_
    refine g_if_ge hZ 45 dX9_sees_38 rfl (by omega) (fun c2 => ?_) (fun c2 => ?_)
    · refine g_iconst hZ dX9_sees_45 ?_
      rw [show sgz (gdx w a b) = 0 by unfold sgz; rw [if_neg (by omega), if_neg (by omega)]] at h46
      exact h46
    · refine g_iconst hZ dX9_sees_41 ?_
      refine g_goto hZ 46 dX9_sees_42 rfl ?_
      rw [show sgz (gdx w a b) = -1 by unfold sgz; rw [if_neg (by omega), if_pos (by omega)]] at h46
      exact h46
  · refine g_iconst hZ dX9_sees_33 ?_
    refine g_goto hZ 46 dX9_sees_34 rfl ?_
    rw [show sgz (gdx w a b) = 1 by unfold sgz; rw [if_pos (by omega)]] at h46
    exact h46
theorem t_X9_shows (E : gE) (S : gS) : Ct E LAY mX9_shows [.ref (gad E 27)] S (fun r S' => S' = setRow S 62 15 (S 61) ∧ r = none) := by
  refine Ct.intro LAY_ok (by decide +kernel) (Nat.le_of_ble_eq_true rfl) rfl ?_
  intro Z hZ
  have loop : ∀ (m k : Nat), k + m = 15 → Z (setRow S 62 k (S 61)) [(0, .ref (gad E 27)), (1, iV (k : Int))] 2 [] := by
    intro m
    induction m with
    | zero =>
      intro k hk
      refine g_iload_n hZ dX9_shows_2 rfl ?_
      refine g_bipush hZ (z := 15) dX9_shows_3 rfl ?_
      refine g_icmp_ge hZ 26 dX9_shows_5 rfl (by omega) (fun _ => ?_) (fun cX => absurd (by omega) cX)
      refine g_vret hZ dX9_shows_26 rfl ⟨by rw [show k = 15 by omega], rfl⟩
    | succ m ih =>
      intro k hk
      refine g_iload_n hZ dX9_shows_2 rfl ?_
      refine g_bipush hZ (z := 15) dX9_shows_3 rfl ?_
      refine g_icmp_ge hZ 26 dX9_shows_5 rfl (by omega) (fun cX => absurd cX (by omega)) (fun _ => ?_)
      refine g_aload_n hZ dX9_shows_8 rfl ?_
      refine g_getr hZ fX9_20 rfl rfl dX9_shows_9 ?_
      refine g_iload_n hZ dX9_shows_12 rfl ?_
      refine g_aload_n hZ dX9_shows_13 rfl ?_
      refine g_getr hZ fX9_16 rfl rfl dX9_shows_14 ?_
      refine g_iload_n hZ dX9_shows_17 rfl ?_
      refine g_iald hZ (k) rfl dX9_shows_18 (rfl) (by omega) (by decide) (rfl) ?_
      refine g_iast hZ (k) rfl dX9_shows_19 (rfl) (by omega) (by decide) ?_
      refine g_iinc hZ dX9_shows_20 rfl (by decide) ?_
      refine g_goto hZ 2 dX9_shows_23 rfl ?_
      have e1 := setRow_succ S 62 k (S 61)
      refine g_state hZ e1 ?_
      exact ih (k + 1) (by omega)
  refine g_iconst hZ dX9_shows_0 ?_
  refine g_istore_n hZ dX9_shows_1 (by decide) ?_
  have := loop 15 0 (by omega)
  rw [setRow_0] at this
  exact this
