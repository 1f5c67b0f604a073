/-- z is 1 where p holds, else 0 -/
def isB (z : Int) (p : Prop) : Prop := (z = 1 ∧ p) ∨ (z = 0 ∧ ¬ p)
/-- how many of the first n places of a row hold z -/
def cntZ (f : Nat → Int) (z : Int) : Nat → Nat
  | 0 => 0
  | n + 1 => cntZ f z n + (if f n = z then 1 else 0)
theorem cntZ_le (f : Nat → Int) (z : Int) : ∀ n, cntZ f z n ≤ n
  | 0 => Nat.le_refl _
  | n + 1 => by
    have := cntZ_le f z n
    rw [cntZ]; split <;> omega
/-- the reference's size -/
def mG (S : gS) (w h n : Nat) : Prop := S 50 0 = (w : Int) ∧ S 51 0 = (h : Int) ∧ 1 ≤ w ∧ w ≤ 5 ∧ 1 ≤ h ∧ h ≤ 5 ∧ w * h = n ∧ n ≤ 15
theorem t_X9_in (E : gE) (S : gS) (v a b : Int) (hv : R32 v) (ha : R32 a) (hb : R32 b) : Ct E LAY mX9_in [iV v, iV a, iV b] S (fun r S' => S = S' ∧ ∃ z, r = some (iV z) ∧ isB z (a ≤ v ∧ v ≤ b)) := by
  refine Ct.intro LAY_ok (by decide +kernel) (Nat.le_of_ble_eq_true rfl) rfl ?_
  intro Z hZ
  refine g_iload_n hZ dX9_in_0 rfl ?_
  refine g_iload_n hZ dX9_in_1 rfl ?_
  refine g_icmp_lt hZ 14 dX9_in_2 rfl (by omega) (fun c1 => ?_) (fun c1 => ?_)
  · refine g_iconst hZ dX9_in_14 ?_
    refine g_zret hZ dX9_in_15 rfl (Or.inl rfl) ⟨rfl, 0, rfl, Or.inr ⟨rfl, by omega⟩⟩
  · refine g_iload_n hZ dX9_in_5 rfl ?_
    refine g_iload_n hZ dX9_in_6 rfl ?_
    refine g_icmp_gt hZ 14 dX9_in_7 rfl (by omega) (fun c2 => ?_) (fun c2 => ?_)
    · refine g_iconst hZ dX9_in_14 ?_
      refine g_zret hZ dX9_in_15 rfl (Or.inl rfl) ⟨rfl, 0, rfl, Or.inr ⟨rfl, by omega⟩⟩
    · refine g_iconst hZ dX9_in_10 ?_
      refine g_goto hZ 15 dX9_in_11 rfl ?_
      refine g_zret hZ dX9_in_15 rfl (Or.inr rfl) ⟨rfl, 1, rfl, Or.inl ⟨rfl, by omega⟩⟩
theorem t_X9_size (E : gE) (S : gS) (w h n : Nat) (hg : mG S w h n) : Ct E LAY mX9_size [.ref (gad E 27)] S (fun r S' => S = S' ∧ r = some (iV (n : Int))) := by
  obtain ⟨h1, h2, h3, h4, h5, h6, h7, h8⟩ := hg
  refine Ct.intro LAY_ok (by decide +kernel) (Nat.le_of_ble_eq_true rfl) rfl ?_
  intro Z hZ
  refine g_aload_n hZ dX9_size_0 rfl ?_
  refine g_geti hZ fX9_7 rfl rfl dX9_size_1 h1 ?_
  refine g_aload_n hZ dX9_size_4 rfl ?_
  refine g_geti hZ fX9_13 rfl rfl dX9_size_5 h2 ?_
  refine g_imul hZ dX9_size_8 ?_
  refine g_iret hZ dX9_size_9 rfl ⟨rfl, by rw [← h7]; simp⟩
theorem t_X9_isField (E : gE) (S : gS) (w h n : Nat) (hg : mG S w h n) (f : Int) (hf : R32 f) : Ct E LAY mX9_isField [.ref (gad E 27), iV f] S (fun r S' => S = S' ∧ ∃ z, r = some (iV z) ∧ isB z (0 ≤ f ∧ f < n)) := by
  have hn : n ≤ 15 := hg.2.2.2.2.2.2.2
  refine Ct.intro LAY_ok (by decide +kernel) (Nat.le_of_ble_eq_true rfl) rfl ?_
  intro Z hZ
  refine g_iload_n hZ dX9_isField_0 rfl ?_
  refine g_iconst hZ dX9_isField_1 ?_
  refine g_aload_n hZ dX9_isField_2 rfl ?_
  refine g_callV hZ (t_X9_size E S w h n hg) kX9_60 ⟨by decide, by decide⟩ rfl rfl rfl rfl (Nat.le_of_ble_eq_true rfl) dX9_isField_3 ?_
  rintro _ _ ⟨rfl, rfl⟩
  refine g_iconst hZ dX9_isField_6 ?_
  refine g_isub hZ dX9_isField_7 ?_
  refine g_callS hZ (t_X9_in E S f 0 ((n : Int) - 1) hf (by omega) (by omega)) kX9_64 ⟨by decide, by decide⟩ rfl rfl (Nat.le_of_ble_eq_true rfl) dX9_isField_8 ?_
  rintro _ _ ⟨rfl, z, rfl, hz⟩
  refine g_zret hZ dX9_isField_11 rfl ?_ ⟨rfl, z, rfl, ?_⟩
  · rcases hz with ⟨h, -⟩ | ⟨h, -⟩ <;> omega
  · unfold isB at hz ⊢; omega
theorem t_X9_isSide (E : gE) (S : gS) (v : Int) (hv : R32 v) : Ct E LAY mX9_isSide [iV v] S (fun r S' => S = S' ∧ ∃ z, r = some (iV z) ∧ isB z (v = 1 ∨ v = 2)) := by
  refine Ct.intro LAY_ok (by decide +kernel) (Nat.le_of_ble_eq_true rfl) rfl ?_
  intro Z hZ
  refine g_iload_n hZ dX9_isSide_0 rfl ?_
  refine g_iconst hZ dX9_isSide_1 ?_
  refine g_iconst hZ dX9_isSide_2 ?_
  refine g_callS hZ (t_X9_in E S v 1 2 hv (by omega) (by omega)) kX9_64 ⟨by decide, by decide⟩ rfl rfl (Nat.le_of_ble_eq_true rfl) dX9_isSide_3 ?_
  rintro _ _ ⟨rfl, z, rfl, hz⟩
  refine g_zret hZ dX9_isSide_6 rfl ?_ ⟨rfl, z, rfl, ?_⟩
  · rcases hz with ⟨h, -⟩ | ⟨h, -⟩ <;> omega
  · unfold isB at hz ⊢; omega
theorem t_X9_counted (E : gE) (S : gS) (w h n : Nat) (hg : mG S w h n) (v : Int) (hv : R32 v) (hB : ∀ k, k < n → R32 (S 61 k)) : Ct E LAY mX9_counted [.ref (gad E 27), iV v] S (fun r S' => S = S' ∧ r = some (iV (cntZ (S 61) v n))) := by
  have hn : n ≤ 15 := hg.2.2.2.2.2.2.2
  refine Ct.intro LAY_ok (by decide +kernel) (Nat.le_of_ble_eq_true rfl) rfl ?_
  intro Z hZ
  have loop : ∀ (m k : Nat), k + m = n → Z S [(0, .ref (gad E 27)), (1, iV v), (2, iV (cntZ (S 61) v k : Int)), (3, iV (k : Int))] 4 [] := by
    intro m
    induction m with
    | zero =>
      intro k hk
      refine g_iload_n hZ dX9_counted_4 rfl ?_
      refine g_aload_n hZ dX9_counted_5 rfl ?_
      refine g_callV hZ (t_X9_size E S w h n hg) kX9_60 ⟨by decide, by decide⟩ rfl rfl rfl rfl (Nat.le_of_ble_eq_true rfl) dX9_counted_6 ?_
      rintro _ _ ⟨rfl, rfl⟩
      refine g_icmp_ge hZ 36 dX9_counted_9 rfl (by omega) (fun _ => ?_) (fun cX => absurd (by omega) cX)
      refine g_iload_n hZ dX9_counted_36 rfl ?_
      refine g_iret hZ dX9_counted_37 rfl ⟨rfl, by rw [show k = n by omega]⟩
    | succ m ih =>
      intro k hk
      have := cntZ_le (S 61) v k
      refine g_iload_n hZ dX9_counted_4 rfl ?_
      refine g_aload_n hZ dX9_counted_5 rfl ?_
      refine g_callV hZ (t_X9_size E S w h n hg) kX9_60 ⟨by decide, by decide⟩ rfl rfl rfl rfl (Nat.le_of_ble_eq_true rfl) dX9_counted_6 ?_
      rintro _ _ ⟨rfl, rfl⟩
      refine g_icmp_ge hZ 36 dX9_counted_9 rfl (by omega) (fun cX => absurd cX (by omega)) (fun _ => ?_)
      have hBk := hB k (by omega)
      refine g_iload_n hZ dX9_counted_12 rfl ?_
      refine g_aload_n hZ dX9_counted_13 rfl ?_
      refine g_getr hZ fX9_16 rfl rfl dX9_counted_14 ?_
      refine g_iload_n hZ dX9_counted_17 rfl ?_
      refine g_iald hZ (k) rfl dX9_counted_18 (rfl) (by omega) (by decide) (rfl) ?_
      refine g_iload_n hZ dX9_counted_19 rfl ?_
      have e1 : (cntZ (S 61) v (k + 1) : Int) = cntZ (S 61) v k + (if S 61 k = v then 1 else 0) := by rw [cntZ]; split <;> simp
      refine g_icmp_ne hZ 27 dX9_counted_20 rfl (by omega) (fun c => ?_) (fun c => ?_)
      · rw [if_neg c] at e1
        refine g_iconst hZ dX9_counted_27 ?_
        refine g_iadd hZ dX9_counted_28 ?_
        refine g_istore_n hZ dX9_counted_29 (by decide) ?_
        refine g_iinc hZ dX9_counted_30 rfl (by decide) ?_
        refine g_goto hZ 4 dX9_counted_33 rfl ?_
        rw [← e1]
        exact ih (k + 1) (by omega)
      · rw [if_pos c] at e1
        refine g_iconst hZ dX9_counted_23 ?_
        refine g_goto hZ 28 dX9_counted_24 rfl ?_
        refine g_iadd hZ dX9_counted_28 ?_
        refine g_istore_n hZ dX9_counted_29 (by decide) ?_
        refine g_iinc hZ dX9_counted_30 rfl (by decide) ?_
        refine g_goto hZ 4 dX9_counted_33 rfl ?_
        rw [← e1]
        exact ih (k + 1) (by omega)
  refine g_iconst hZ dX9_counted_0 ?_
  refine g_istore_n hZ dX9_counted_1 (by decide) ?_
  refine g_iconst hZ dX9_counted_2 ?_
  refine g_istore_n hZ dX9_counted_3 (by decide) ?_
  exact loop n 0 (by omega)
