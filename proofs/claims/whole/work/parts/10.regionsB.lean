/-! the reference: what regions are asked -/
def rootB (r : Nat → Int) (k : Nat) : Bool := decide (r k = (k : Int))
def rts (r : Nat → Int) (n : Nat) : List Nat := (List.range n).filter (rootB r)
theorem flt_at {p : Nat → Bool} {k : Nat} (hp : p k = true) : ∀ {n : Nat}, k < n → ((List.range n).filter p)[cntB p k]? = some k
  | 0, h => absurd h (Nat.not_lt_zero k)
  | n + 1, h => by
    rw [List.range_succ, List.filter_append]
    by_cases q : k = n
    · subst q
      rw [List.getElem?_append_right (by rw [cntB_len]; exact Nat.le_refl _), cntB_len]
      simp [hp]
    · have ih := flt_at hp (n := n) (by omega)
      rw [List.getElem?_append_left (List.getElem?_eq_some_iff.mp ih).1]
      exact ih
theorem rts_len (r : Nat → Int) (n : Nat) : (rts r n).length = cntB (rootB r) n := cntB_len _ _
def wthB (r B : Nat → Int) (root v : Int) : Nat → Bool := fun k => decide (r k = root) && (decide (v < 0) || decide (B k = v))
def kindF (r B : Nat → Int) (n : Nat) (root : Int) : Int := (if 0 < cntB (wthB r B root 1) n then 1 else 0) + (if 0 < cntB (wthB r B root 2) n then 2 else 0)
def aLow (r : Nat → Int) (n : Nat) (i : Int) : Int := if i < 0 then -1 else match (rts r n)[i.toNat]? with | some k => (k : Int) | none => -1
theorem aLow_bd {r : Nat → Int} {n : Nat} {i : Int} : (aLow r n i = -1 ∧ ¬ (0 ≤ i ∧ i < (rts r n).length)) ∨ ∃ k : Nat, aLow r n i = (k : Int) ∧ k < n ∧ r k = (k : Int) ∧ 0 ≤ i ∧ (rts r n)[i.toNat]? = some k := by
  unfold aLow
  by_cases q : i < 0
  · rw [if_pos q]; exact Or.inl ⟨rfl, by omega⟩
  · rw [if_neg q]
    cases e : (rts r n)[i.toNat]? with
    | none => exact Or.inl ⟨rfl, by have := List.getElem?_eq_none_iff.mp e; omega⟩
    | some k =>
      refine Or.inr ⟨k, rfl, ?_⟩
      obtain ⟨h1, h2⟩ := List.mem_filter.mp (List.mem_of_getElem? e)
      exact ⟨List.mem_range.mp h1, by simpa [rootB] using h2, by omega, rfl⟩
/-- the reference's row of regions stands -/
def mRg (S : gS) (w n : Nat) : Prop := ∀ f, f < n → S 72 f = rg w n (S 61) f
theorem t_X9_lowest (E : gE) (S : gS) (w h n : Nat) (hg : mG S w h n) (hB : mBd (S 61) n) (i : Int) (hi : R32 i) : Ct E LAY mX9_lowest [.ref (gad E 27), iV i] S (fun r S' => Eqx [72] S S' ∧ mRg S' w n ∧ r = some (iV (aLow (rg w n (S 61)) n i))) := by
  have hn := hg.n15
  refine Ct.intro LAY_ok (by decide +kernel) (Nat.le_of_ble_eq_true rfl) rfl ?_
  intro Z hZ
  refine g_aload_n hZ dX9_lowest_0 rfl ?_
  refine g_callV hZ (t_X9_parts E S w h n hg hB) kX9_122 ⟨by decide, by decide⟩ rfl rfl rfl rfl (Nat.le_of_ble_eq_true rfl) dX9_lowest_1 ?_
  rintro _ S₁ ⟨rfl, he₁, hr₁⟩
  have hg₁ := hg.x he₁ rfl rfl
  have e61 : S₁ 61 = S 61 := funext fun j => he₁ 61 j rfl
  have hm₁ : mRg S₁ w n := fun f hf => by rw [e61]; exact hr₁ f hf
  refine g_iload_n hZ dX9_lowest_4 rfl ?_
  refine g_istore_n hZ dX9_lowest_5 (by decide) ?_
  refine g_iconst hZ dX9_lowest_6 ?_
  refine g_istore_n hZ dX9_lowest_7 (by decide) ?_
  by_cases hneg : i < 0
  · have ea : aLow (rg w n (S 61)) n i = -1 := by unfold aLow; rw [if_pos hneg]
    refine g_iload_n hZ dX9_lowest_8 rfl ?_
    refine g_aload_n hZ dX9_lowest_9 rfl ?_
    refine g_callV hZ (t_X9_size E S₁ w h n hg₁) kX9_60 ⟨by decide, by decide⟩ rfl rfl rfl rfl (Nat.le_of_ble_eq_true rfl) dX9_lowest_10 ?_
    rintro _ _ ⟨rfl, rfl⟩
    refine g_icmp_ge hZ 45 dX9_lowest_13 rfl (by omega) (fun c => ?_) (fun c => ?_)
    · refine g_iconst hZ dX9_lowest_45 ?_
      refine g_iret hZ dX9_lowest_46 rfl ⟨he₁, hm₁, by rw [ea]⟩
    · refine g_iload_n hZ dX9_lowest_16 rfl ?_
      refine g_if_lt hZ 45 dX9_lowest_17 rfl (by omega) (fun _ => ?_) (fun cX => absurd (by omega) cX)
      refine g_iconst hZ dX9_lowest_45 ?_
      refine g_iret hZ dX9_lowest_46 rfl ⟨he₁, hm₁, by rw [ea]⟩
  · have loop : ∀ (m k : Nat) (left : Int), k + m = n → left = i - cntB (rootB (rg w n (S 61))) k → 0 ≤ left → Z S₁ [(0, .ref (gad E 27)), (1, iV i), (2, iV left), (3, iV (k : Int))] 8 [] := by
      intro m
      induction m with
      | zero =>
        intro k left hk hl h0
        refine g_iload_n hZ dX9_lowest_8 rfl ?_
        refine g_aload_n hZ dX9_lowest_9 rfl ?_
        refine g_callV hZ (t_X9_size E S₁ w h n hg₁) kX9_60 ⟨by decide, by decide⟩ rfl rfl rfl rfl (Nat.le_of_ble_eq_true rfl) dX9_lowest_10 ?_
        rintro _ _ ⟨rfl, rfl⟩
        refine g_icmp_ge hZ 45 dX9_lowest_13 rfl (by omega) (fun _ => ?_) (fun cX => absurd (by omega) cX)
        refine g_iconst hZ dX9_lowest_45 ?_
        refine g_iret hZ dX9_lowest_46 rfl ⟨he₁, hm₁, ?_⟩
        have : (rts (rg w n (S 61)) n)[i.toNat]? = none := List.getElem?_eq_none (by rw [rts_len, show n = k by omega]; rw [show n = k by omega] at hl; omega)
        unfold aLow
        rw [if_neg hneg, this]
      | succ m ih =>
        intro k left hk hl h0
        have rb := rg_bd (w := w) (B := S 61) (show k < n by omega)
        have ec : cntB (rootB (rg w n (S 61))) (k + 1) = cntB (rootB (rg w n (S 61))) k + (if rootB (rg w n (S 61)) k = true then 1 else 0) := rfl
        refine g_iload_n hZ dX9_lowest_8 rfl ?_
        refine g_aload_n hZ dX9_lowest_9 rfl ?_
        refine g_callV hZ (t_X9_size E S₁ w h n hg₁) kX9_60 ⟨by decide, by decide⟩ rfl rfl rfl rfl (Nat.le_of_ble_eq_true rfl) dX9_lowest_10 ?_
        rintro _ _ ⟨rfl, rfl⟩
        refine g_icmp_ge hZ 45 dX9_lowest_13 rfl (by omega) (fun cX => absurd cX (by omega)) (fun _ => ?_)
        refine g_iload_n hZ dX9_lowest_16 rfl ?_
        refine g_if_lt hZ 45 dX9_lowest_17 rfl (by omega) (fun cX => absurd cX (by omega)) (fun _ => ?_)
        refine g_aload_n hZ dX9_lowest_20 rfl ?_
        refine g_getr hZ fX9_51 rfl rfl dX9_lowest_21 ?_
        refine g_iload_n hZ dX9_lowest_24 rfl ?_
        refine g_iald hZ (k) rfl dX9_lowest_25 (rfl) (by omega) (by decide) (hr₁ k (by omega)) ?_
        refine g_iload_n hZ dX9_lowest_26 rfl ?_
        refine g_icmp_ne hZ 39 dX9_lowest_27 rfl (by omega) (fun c => ?_) (fun c => ?_)
        · refine g_iinc hZ dX9_lowest_39 rfl (by decide) ?_
          refine g_goto hZ 8 dX9_lowest_42 rfl ?_
          have : rootB (rg w n (S 61)) k = false := by simpa [rootB] using c
          rw [this] at ec
          exact ih (k + 1) left (by omega) (by rw [hl, ec]; simp) h0
        · have hrk : rootB (rg w n (S 61)) k = true := by simpa [rootB] using c
          rw [if_pos hrk] at ec
          refine g_iload_n hZ dX9_lowest_30 rfl ?_
          refine g_if_ne hZ 36 dX9_lowest_31 rfl (by omega) (fun c2 => ?_) (fun c2 => ?_)
          · refine g_iinc hZ dX9_lowest_36 rfl (by decide) ?_
            refine g_iinc hZ dX9_lowest_39 rfl (by decide) ?_
            refine g_goto hZ 8 dX9_lowest_42 rfl ?_
            exact ih (k + 1) (left + -1) (by omega) (by rw [hl, ec]; omega) (by omega)
          · refine g_iload_n hZ dX9_lowest_34 rfl ?_
            refine g_iret hZ dX9_lowest_35 rfl ⟨he₁, hm₁, ?_⟩
            have := flt_at hrk (show k < n by omega)
            unfold aLow
            rw [if_neg hneg, show i.toNat = cntB (rootB (rg w n (S 61))) k by omega, show (rts (rg w n (S 61)) n)[cntB (rootB (rg w n (S 61))) k]? = some k from this]
    exact loop n 0 i (by omega) (by simp [cntB]) (by omega)
theorem t_X9_regions (E : gE) (S : gS) (w h n : Nat) (hg : mG S w h n) (hB : mBd (S 61) n) : Ct E LAY mX9_regions [.ref (gad E 27)] S (fun r S' => Eqx [72] S S' ∧ r = some (iV ((rts (rg w n (S 61)) n).length : Int))) := by
  have hn := hg.n15
  refine Ct.intro LAY_ok (by decide +kernel) (Nat.le_of_ble_eq_true rfl) rfl ?_
  intro Z hZ
  refine g_aload_n hZ dX9_regions_0 rfl ?_
  refine g_callV hZ (t_X9_parts E S w h n hg hB) kX9_122 ⟨by decide, by decide⟩ rfl rfl rfl rfl (Nat.le_of_ble_eq_true rfl) dX9_regions_1 ?_
  rintro _ S₁ ⟨rfl, he₁, hr₁⟩
  have hg₁ := hg.x he₁ rfl rfl
  have loop : ∀ (m k : Nat), k + m = n → Z S₁ [(0, .ref (gad E 27)), (1, iV (cntB (rootB (rg w n (S 61))) k : Int)), (2, iV (k : Int))] 8 [] := by
    intro m
    induction m with
    | zero =>
      intro k hk
      refine g_iload_n hZ dX9_regions_8 rfl ?_
      refine g_aload_n hZ dX9_regions_9 rfl ?_
      refine g_callV hZ (t_X9_size E S₁ w h n hg₁) kX9_60 ⟨by decide, by decide⟩ rfl rfl rfl rfl (Nat.le_of_ble_eq_true rfl) dX9_regions_10 ?_
      rintro _ _ ⟨rfl, rfl⟩
      refine g_icmp_ge hZ 40 dX9_regions_13 rfl (by omega) (fun _ => ?_) (fun cX => absurd (by omega) cX)
      refine g_iload_n hZ dX9_regions_40 rfl ?_
      refine g_iret hZ dX9_regions_41 rfl ⟨he₁, by rw [rts_len, show n = k by omega]⟩
    | succ m ih =>
      intro k hk
      have rb := rg_bd (w := w) (B := S 61) (show k < n by omega)
      have ec : (cntB (rootB (rg w n (S 61))) (k + 1) : Int) = cntB (rootB (rg w n (S 61))) k + (if rootB (rg w n (S 61)) k = true then 1 else 0) := by rw [cntB]; split <;> simp
      refine g_iload_n hZ dX9_regions_8 rfl ?_
      refine g_aload_n hZ dX9_regions_9 rfl ?_
      refine g_callV hZ (t_X9_size E S₁ w h n hg₁) kX9_60 ⟨by decide, by decide⟩ rfl rfl rfl rfl (Nat.le_of_ble_eq_true rfl) dX9_regions_10 ?_
      rintro _ _ ⟨rfl, rfl⟩
      refine g_icmp_ge hZ 40 dX9_regions_13 rfl (by omega) (fun cX => absurd cX (by omega)) (fun _ => ?_)
      refine g_iload_n hZ dX9_regions_16 rfl ?_
      refine g_aload_n hZ dX9_regions_17 rfl ?_
      refine g_getr hZ fX9_51 rfl rfl dX9_regions_18 ?_
      refine g_iload_n hZ dX9_regions_21 rfl ?_
      refine g_iald hZ (k) rfl dX9_regions_22 (rfl) (by omega) (by decide) (hr₁ k (by omega)) ?_
      refine g_iload_n hZ dX9_regions_23 rfl ?_
      refine g_icmp_ne hZ 31 dX9_regions_24 rfl (by omega) (fun c => ?_) (fun c => ?_)
      · have : rootB (rg w n (S 61)) k = false := by simpa [rootB] using c
        rw [this] at ec
        refine g_iconst hZ dX9_regions_31 ?_
        refine g_iadd hZ dX9_regions_32 ?_
        refine g_istore_n hZ dX9_regions_33 (by decide) ?_
        refine g_iinc hZ dX9_regions_34 rfl (by decide) ?_
        refine g_goto hZ 8 dX9_regions_37 rfl ?_
        have := ih (k + 1) (by omega)
        rw [ec] at this
        exact this
      · have hrk : rootB (rg w n (S 61)) k = true := by simpa [rootB] using c
        rw [if_pos hrk] at ec
        refine g_iconst hZ dX9_regions_27 ?_
        refine g_goto hZ 32 dX9_regions_28 rfl ?_
        refine g_iadd hZ dX9_regions_32 ?_
        refine g_istore_n hZ dX9_regions_33 (by decide) ?_
        refine g_iinc hZ dX9_regions_34 rfl (by decide) ?_
        refine g_goto hZ 8 dX9_regions_37 rfl ?_
        have := ih (k + 1) (by omega)
        rw [ec] at this
        exact this
  refine g_iconst hZ dX9_regions_4 ?_
  refine g_istore_n hZ dX9_regions_5 (by decide) ?_
  refine g_iconst hZ dX9_regions_6 ?_
  refine g_istore_n hZ dX9_regions_7 (by decide) ?_
  exact loop n 0 (by omega)
def aRegOf (r : Nat → Int) (n : Nat) (f : Int) : Int := if 0 ≤ f ∧ f < n then (if r f.toNat < 0 then -1005 else (cntB (rootB r) (r f.toNat).toNat : Int)) else -1001
theorem t_X9_regionOf (E : gE) (S : gS) (w h n : Nat) (hg : mG S w h n) (hB : mBd (S 61) n) (f : Int) (hf : R32 f) : Ct E LAY mX9_regionOf [.ref (gad E 27), iV f] S (fun r S' => Eqx [72] S S' ∧ r = some (iV (aRegOf (rg w n (S 61)) n f))) := by
  have hn := hg.n15
  refine Ct.intro LAY_ok (by decide +kernel) (Nat.le_of_ble_eq_true rfl) rfl ?_
  intro Z hZ
  refine g_aload_n hZ dX9_regionOf_0 rfl ?_
  refine g_iload_n hZ dX9_regionOf_1 rfl ?_
  refine g_callV hZ (t_X9_isField E S w h n hg f hf) kX9_77 ⟨by decide, by decide⟩ rfl rfl rfl rfl (Nat.le_of_ble_eq_true rfl) dX9_regionOf_2 ?_
  rintro _ _ ⟨rfl, z1, rfl, hz1⟩
  rcases hz1 with ⟨rfl, hz1⟩ | ⟨rfl, hz1⟩
  · refine g_if_ne hZ 12 dX9_regionOf_5 rfl (by omega) (fun _ => ?_) (fun cX => absurd cX (by omega))
    refine g_aload_n hZ dX9_regionOf_12 rfl ?_
    refine g_callV hZ (t_X9_parts E S w h n hg hB) kX9_122 ⟨by decide, by decide⟩ rfl rfl rfl rfl (Nat.le_of_ble_eq_true rfl) dX9_regionOf_13 ?_
    rintro _ S₁ ⟨rfl, he₁, hr₁⟩
    have rb := rg_bd (w := w) (B := S 61) (show f.toNat < n by omega)
    have hrf := hr₁ f.toNat (by omega)
    have ef : f = ((f.toNat : Nat) : Int) := by omega
    have loop : ∀ (m k : Nat), k + m = (rg w n (S 61) f.toNat).toNat → Z S₁ [(0, .ref (gad E 27)), (1, iV f), (2, iV (cntB (rootB (rg w n (S 61))) k : Int)), (3, iV (k : Int))] 20 [] := by
      intro m
      induction m with
      | zero =>
        intro k hk
        refine g_iload_n hZ dX9_regionOf_20 rfl ?_
        refine g_aload_n hZ dX9_regionOf_21 rfl ?_
        refine g_getr hZ fX9_51 rfl rfl dX9_regionOf_22 ?_
        refine g_iload_n hZ dX9_regionOf_25 rfl ?_
        refine g_iald hZ (f.toNat) rfl dX9_regionOf_26 (ef) (by omega) (by decide) (hrf) ?_
        refine g_icmp_ge hZ 54 dX9_regionOf_27 rfl (by omega) (fun _ => ?_) (fun cX => absurd (by omega) cX)
        refine g_aload_n hZ dX9_regionOf_54 rfl ?_
        refine g_getr hZ fX9_51 rfl rfl dX9_regionOf_55 ?_
        refine g_iload_n hZ dX9_regionOf_58 rfl ?_
        refine g_iald hZ (f.toNat) rfl dX9_regionOf_59 (ef) (by omega) (by decide) (hrf) ?_
        refine g_if_ge hZ 69 dX9_regionOf_60 rfl (by omega) (fun c => ?_) (fun c => ?_)
        · refine g_iload_n hZ dX9_regionOf_69 rfl ?_
          refine g_iret hZ dX9_regionOf_70 rfl ⟨he₁, by unfold aRegOf; rw [if_pos hz1, if_neg (by omega), show (rg w n (S 61) f.toNat).toNat = k by omega]⟩
        · refine g_sipush hZ (z := (-1005)) dX9_regionOf_63 rfl ?_
          refine g_goto hZ 70 dX9_regionOf_66 rfl ?_
          refine g_iret hZ dX9_regionOf_70 rfl ⟨he₁, by unfold aRegOf; rw [if_pos hz1, if_pos (by omega)]⟩
      | succ m ih =>
        intro k hk
        have rb2 := rg_bd (w := w) (B := S 61) (show k < n by omega)
        have ec : (cntB (rootB (rg w n (S 61))) (k + 1) : Int) = cntB (rootB (rg w n (S 61))) k + (if rootB (rg w n (S 61)) k = true then 1 else 0) := by rw [cntB]; split <;> simp
        refine g_iload_n hZ dX9_regionOf_20 rfl ?_
        refine g_aload_n hZ dX9_regionOf_21 rfl ?_
        refine g_getr hZ fX9_51 rfl rfl dX9_regionOf_22 ?_
        refine g_iload_n hZ dX9_regionOf_25 rfl ?_
        refine g_iald hZ (f.toNat) rfl dX9_regionOf_26 (ef) (by omega) (by decide) (hrf) ?_
        refine g_icmp_ge hZ 54 dX9_regionOf_27 rfl (by omega) (fun cX => absurd cX (by omega)) (fun _ => ?_)
        refine g_iload_n hZ dX9_regionOf_30 rfl ?_
        refine g_aload_n hZ dX9_regionOf_31 rfl ?_
        refine g_getr hZ fX9_51 rfl rfl dX9_regionOf_32 ?_
        refine g_iload_n hZ dX9_regionOf_35 rfl ?_
        refine g_iald hZ (k) rfl dX9_regionOf_36 (rfl) (by omega) (by decide) (hr₁ k (by omega)) ?_
        refine g_iload_n hZ dX9_regionOf_37 rfl ?_
        refine g_icmp_ne hZ 45 dX9_regionOf_38 rfl (by omega) (fun c => ?_) (fun c => ?_)
        · have : rootB (rg w n (S 61)) k = false := by simpa [rootB] using c
          rw [this] at ec
          refine g_iconst hZ dX9_regionOf_45 ?_
          refine g_iadd hZ dX9_regionOf_46 ?_
          refine g_istore_n hZ dX9_regionOf_47 (by decide) ?_
          refine g_iinc hZ dX9_regionOf_48 rfl (by decide) ?_
          refine g_goto hZ 20 dX9_regionOf_51 rfl ?_
          have := ih (k + 1) (by omega)
          rw [ec] at this
          exact this
        · have hrk : rootB (rg w n (S 61)) k = true := by simpa [rootB] using c
          rw [if_pos hrk] at ec
          refine g_iconst hZ dX9_regionOf_41 ?_
          refine g_goto hZ 46 dX9_regionOf_42 rfl ?_
          refine g_iadd hZ dX9_regionOf_46 ?_
          refine g_istore_n hZ dX9_regionOf_47 (by decide) ?_
          refine g_iinc hZ dX9_regionOf_48 rfl (by decide) ?_
          refine g_goto hZ 20 dX9_regionOf_51 rfl ?_
          have := ih (k + 1) (by omega)
          rw [ec] at this
          exact this
    refine g_iconst hZ dX9_regionOf_16 ?_
    refine g_istore_n hZ dX9_regionOf_17 (by decide) ?_
    refine g_iconst hZ dX9_regionOf_18 ?_
    refine g_istore_n hZ dX9_regionOf_19 (by decide) ?_
    exact loop _ 0 (Nat.zero_add _)
  · refine g_if_ne hZ 12 dX9_regionOf_5 rfl (by omega) (fun cX => absurd (by omega) cX) (fun _ => ?_)
    refine g_sipush hZ (z := (-1001)) dX9_regionOf_8 rfl ?_
    refine g_iret hZ dX9_regionOf_11 rfl ⟨Eqx.rf, by unfold aRegOf; rw [if_neg hz1]⟩
theorem t_X9_within (E : gE) (S : gS) (w h n : Nat) (hg : mG S w h n) (hB : mBd (S 61) n) (hr : mRg S w n) (root v : Int) (rr : R32 root) (rv : R32 v) : Ct E LAY mX9_within [.ref (gad E 27), iV root, iV v] S (fun r S' => S = S' ∧ r = some (iV (cntB (wthB (rg w n (S 61)) (S 61) root v) n : Int))) := by
  have hn := hg.n15
  refine Ct.intro LAY_ok (by decide +kernel) (Nat.le_of_ble_eq_true rfl) rfl ?_
  intro Z hZ
  have loop : ∀ (m k : Nat), k + m = n → Z S [(0, .ref (gad E 27)), (1, iV root), (2, iV v), (3, iV (cntB (wthB (rg w n (S 61)) (S 61) root v) k : Int)), (4, iV (k : Int))] 5 [] := by
    intro m
    induction m with
    | zero =>
      intro k hk
      refine g_iload hZ dX9_within_5 rfl ?_
      refine g_aload_n hZ dX9_within_7 rfl ?_
      refine g_callV hZ (t_X9_size E S w h n hg) kX9_60 ⟨by decide, by decide⟩ rfl rfl rfl rfl (Nat.le_of_ble_eq_true rfl) dX9_within_8 ?_
      rintro _ _ ⟨rfl, rfl⟩
      refine g_icmp_ge hZ 54 dX9_within_11 rfl (by omega) (fun _ => ?_) (fun cX => absurd (by omega) cX)
      refine g_iload_n hZ dX9_within_54 rfl ?_
      refine g_iret hZ dX9_within_55 rfl ⟨rfl, by rw [show n = k by omega]⟩
    | succ m ih =>
      intro k hk
      have rb := rg_bd (w := w) (B := S 61) (show k < n by omega)
      have hBk := hB k (by omega)
      have ec : (cntB (wthB (rg w n (S 61)) (S 61) root v) (k + 1) : Int) = cntB (wthB (rg w n (S 61)) (S 61) root v) k + (if wthB (rg w n (S 61)) (S 61) root v k = true then 1 else 0) := by rw [cntB]; split <;> simp
      have yes : wthB (rg w n (S 61)) (S 61) root v k = true → Z S [(0, .ref (gad E 27)), (1, iV root), (2, iV v), (3, iV (cntB (wthB (rg w n (S 61)) (S 61) root v) k : Int)), (4, iV (k : Int))] 41 [iV (cntB (wthB (rg w n (S 61)) (S 61) root v) k : Int)] := by
        intro hy
        rw [if_pos hy] at ec
        refine g_iconst hZ dX9_within_41 ?_
        refine g_goto hZ 46 dX9_within_42 rfl ?_
        refine g_iadd hZ dX9_within_46 ?_
        refine g_istore_n hZ dX9_within_47 (by decide) ?_
        refine g_iinc hZ dX9_within_48 rfl (by decide) ?_
        refine g_goto hZ 5 dX9_within_51 rfl ?_
        have := ih (k + 1) (by omega)
        rw [ec] at this
        exact this
      have no : ¬ wthB (rg w n (S 61)) (S 61) root v k = true → Z S [(0, .ref (gad E 27)), (1, iV root), (2, iV v), (3, iV (cntB (wthB (rg w n (S 61)) (S 61) root v) k : Int)), (4, iV (k : Int))] 45 [iV (cntB (wthB (rg w n (S 61)) (S 61) root v) k : Int)] := by
        intro hy
        rw [if_neg hy] at ec
        refine g_iconst hZ dX9_within_45 ?_
        refine g_iadd hZ dX9_within_46 ?_
        refine g_istore_n hZ dX9_within_47 (by decide) ?_
        refine g_iinc hZ dX9_within_48 rfl (by decide) ?_
        refine g_goto hZ 5 dX9_within_51 rfl ?_
        have := ih (k + 1) (by omega)
        rw [ec] at this
        exact this
      refine g_iload hZ dX9_within_5 rfl ?_
      refine g_aload_n hZ dX9_within_7 rfl ?_
      refine g_callV hZ (t_X9_size E S w h n hg) kX9_60 ⟨by decide, by decide⟩ rfl rfl rfl rfl (Nat.le_of_ble_eq_true rfl) dX9_within_8 ?_
      rintro _ _ ⟨rfl, rfl⟩
      refine g_icmp_ge hZ 54 dX9_within_11 rfl (by omega) (fun cX => absurd cX (by omega)) (fun _ => ?_)
      refine g_iload_n hZ dX9_within_14 rfl ?_
      refine g_aload_n hZ dX9_within_15 rfl ?_
      refine g_getr hZ fX9_51 rfl rfl dX9_within_16 ?_
      refine g_iload hZ dX9_within_19 rfl ?_
      refine g_iald hZ (k) rfl dX9_within_21 (rfl) (by omega) (by decide) (hr k (by omega)) ?_
      refine g_iload_n hZ dX9_within_22 rfl ?_
      refine g_icmp_ne hZ 45 dX9_within_23 rfl (by omega) (fun c => ?_) (fun c => ?_)
      · exact no (by unfold wthB; simp; intro q; exact absurd q c)
      · refine g_iload_n hZ dX9_within_26 rfl ?_
        refine g_if_lt hZ 41 dX9_within_27 rfl (by omega) (fun c2 => ?_) (fun c2 => ?_)
        · exact yes (by unfold wthB; simp; exact ⟨c, Or.inl c2⟩)
        · refine g_aload_n hZ dX9_within_30 rfl ?_
          refine g_getr hZ fX9_16 rfl rfl dX9_within_31 ?_
          refine g_iload hZ dX9_within_34 rfl ?_
          refine g_iald hZ (k) rfl dX9_within_36 (rfl) (by omega) (by decide) (rfl) ?_
          refine g_iload_n hZ dX9_within_37 rfl ?_
          refine g_icmp_ne hZ 45 dX9_within_38 rfl (by omega) (fun c3 => ?_) (fun c3 => ?_)
          · exact no (by unfold wthB; simp; intro _; exact ⟨by omega, c3⟩)
          · exact yes (by unfold wthB; simp; exact ⟨c, Or.inr c3⟩)
  refine g_iconst hZ dX9_within_0 ?_
  refine g_istore_n hZ dX9_within_1 (by decide) ?_
  refine g_iconst hZ dX9_within_2 ?_
  refine g_istore hZ dX9_within_3 (by decide) ?_
  exact loop n 0 (by omega)
theorem t_X9_kind (E : gE) (S : gS) (w h n : Nat) (hg : mG S w h n) (hB : mBd (S 61) n) (hr : mRg S w n) (root : Int) (rr : R32 root) : Ct E LAY mX9_kind [.ref (gad E 27), iV root] S (fun r S' => S = S' ∧ r = some (iV (kindF (rg w n (S 61)) (S 61) n root))) := by
  have hn := hg.n15
  have l1 := cntB_le (wthB (rg w n (S 61)) (S 61) root 1) n
  have l2 := cntB_le (wthB (rg w n (S 61)) (S 61) root 2) n
  refine Ct.intro LAY_ok (by decide +kernel) (Nat.le_of_ble_eq_true rfl) rfl ?_
  intro Z hZ
  have second : ∀ (z : Int), z = (if 0 < cntB (wthB (rg w n (S 61)) (S 61) root 1) n then 1 else 0) → Z S [(0, .ref (gad E 27)), (1, iV root)] 14 [iV z] := by
    intro z hz
    refine g_aload_n hZ dX9_kind_14 rfl ?_
    refine g_iload_n hZ dX9_kind_15 rfl ?_
    refine g_iconst hZ dX9_kind_16 ?_
    refine g_callV hZ (t_X9_within E S w h n hg hB hr root 2 rr (by omega)) kX9_125 ⟨by decide, by decide⟩ rfl rfl rfl rfl (Nat.le_of_ble_eq_true rfl) dX9_kind_17 ?_
    rintro _ _ ⟨rfl, rfl⟩
    refine g_if_le hZ 27 dX9_kind_20 rfl (by omega) (fun c => ?_) (fun c => ?_)
    · refine g_iconst hZ dX9_kind_27 ?_
      refine g_iadd hZ dX9_kind_28 ?_
      refine g_iret hZ dX9_kind_29 rfl ⟨rfl, by unfold kindF; rw [hz, if_neg (show ¬ 0 < cntB (wthB (rg w n (S 61)) (S 61) root 2) n by omega)]⟩
    · refine g_iconst hZ dX9_kind_23 ?_
      refine g_goto hZ 28 dX9_kind_24 rfl ?_
      refine g_iadd hZ dX9_kind_28 ?_
      refine g_iret hZ dX9_kind_29 rfl ⟨rfl, by unfold kindF; rw [hz, if_pos (show 0 < cntB (wthB (rg w n (S 61)) (S 61) root 2) n by omega)]⟩
  refine g_aload_n hZ dX9_kind_0 rfl ?_
  refine g_iload_n hZ dX9_kind_1 rfl ?_
  refine g_iconst hZ dX9_kind_2 ?_
  refine g_callV hZ (t_X9_within E S w h n hg hB hr root 1 rr (by omega)) kX9_125 ⟨by decide, by decide⟩ rfl rfl rfl rfl (Nat.le_of_ble_eq_true rfl) dX9_kind_3 ?_
  rintro _ _ ⟨rfl, rfl⟩
  refine g_if_le hZ 13 dX9_kind_6 rfl (by omega) (fun c => ?_) (fun c => ?_)
  · refine g_iconst hZ dX9_kind_13 ?_
    exact second 0 (by rw [if_neg (by omega)])
  · refine g_iconst hZ dX9_kind_9 ?_
    refine g_goto hZ 14 dX9_kind_10 rfl ?_
    exact second 1 (by rw [if_pos (by omega)])
theorem kindF_bd {r B : Nat → Int} {n : Nat} {root : Int} : 0 ≤ kindF r B n root ∧ kindF r B n root ≤ 3 := by unfold kindF; split <;> split <;> omega
def aInfo (r B : Nat → Int) (n : Nat) (i v : Int) : Int := if 0 ≤ aLow r n i ∧ 0 ≤ v ∧ v ≤ 5 then (if v = 0 then kindF r B n (aLow r n i) else if v = 5 then aLow r n i else (cntB (wthB r B (aLow r n i) (if v = 1 then -1 else v - 2)) n : Int)) else -1001
theorem t_X9_regionInfo (E : gE) (S : gS) (w h n : Nat) (hg : mG S w h n) (hB : mBd (S 61) n) (i v : Int) (ri : R32 i) (rv : R32 v) : Ct E LAY mX9_regionInfo [.ref (gad E 27), iV i, iV v] S (fun r S' => Eqx [72] S S' ∧ r = some (iV (aInfo (rg w n (S 61)) (S 61) n i v))) := by
  have hn := hg.n15
  refine Ct.intro LAY_ok (by decide +kernel) (Nat.le_of_ble_eq_true rfl) rfl ?_
  intro Z hZ
  refine g_aload_n hZ dX9_regionInfo_0 rfl ?_
  refine g_iload_n hZ dX9_regionInfo_1 rfl ?_
  refine g_callV hZ (t_X9_lowest E S w h n hg hB i ri) kX9_128 ⟨by decide, by decide⟩ rfl rfl rfl rfl (Nat.le_of_ble_eq_true rfl) dX9_regionInfo_2 ?_
  rintro _ S₁ ⟨he₁, hr₁, rfl⟩
  have hg₁ := hg.x he₁ rfl rfl
  have e61 : S₁ 61 = S 61 := funext fun j => he₁ 61 j rfl
  have hB₁ : mBd (S₁ 61) n := by rw [e61]; exact hB
  have hlow := aLow_bd (r := rg w n (S 61)) (n := n) (i := i)
  generalize hA : aLow (rg w n (S 61)) n i = A at *
  have rA : R32 A := by
    rcases hlow with ⟨q, -⟩ | ⟨k, q, q2, -⟩ <;> omega
  have bad : ¬ (0 ≤ A ∧ 0 ≤ v ∧ v ≤ 5) → Z S₁ [(0, .ref (gad E 27)), (1, iV i), (2, iV v), (3, iV A)] 19 [] := by
    intro hb
    refine g_sipush hZ (z := (-1001)) dX9_regionInfo_19 rfl ?_
    refine g_iret hZ dX9_regionInfo_22 rfl ⟨he₁, by unfold aInfo; rw [hA, if_neg hb]⟩
  refine g_istore_n hZ dX9_regionInfo_5 (by decide) ?_
  refine g_iload_n hZ dX9_regionInfo_6 rfl ?_
  refine g_if_lt hZ 19 dX9_regionInfo_7 rfl (by omega) (fun c => ?_) (fun c => ?_)
  · exact bad (by omega)
  · refine g_iload_n hZ dX9_regionInfo_10 rfl ?_
    refine g_iconst hZ dX9_regionInfo_11 ?_
    refine g_iconst hZ dX9_regionInfo_12 ?_
    refine g_callS hZ (t_X9_in E S₁ v 0 5 rv (by omega) (by omega)) kX9_64 ⟨by decide, by decide⟩ rfl rfl (Nat.le_of_ble_eq_true rfl) dX9_regionInfo_13 ?_
    rintro _ _ ⟨rfl, z1, rfl, hz1⟩
    rcases hz1 with ⟨rfl, hz1⟩ | ⟨rfl, hz1⟩
    · refine g_if_ne hZ 23 dX9_regionInfo_16 rfl (by omega) (fun _ => ?_) (fun cX => absurd cX (by omega))
      have hall : 0 ≤ A ∧ 0 ≤ v ∧ v ≤ 5 := ⟨by omega, hz1⟩
      refine g_iload_n hZ dX9_regionInfo_23 rfl ?_
      refine g_if_ne hZ 35 dX9_regionInfo_24 rfl (by omega) (fun c2 => ?_) (fun c2 => ?_)
      · refine g_iload_n hZ dX9_regionInfo_35 rfl ?_
        refine g_iconst hZ dX9_regionInfo_36 ?_
        refine g_icmp_ne hZ 44 dX9_regionInfo_37 rfl (by omega) (fun c3 => ?_) (fun c3 => ?_)
        · have wi : ∀ (x : Int), x = (if v = 1 then -1 else v - 2) → Z S₁ [(0, .ref (gad E 27)), (1, iV i), (2, iV v), (3, iV A)] 58 [iV x, iV A, .ref (gad E 27)] := by
            intro x hx
            have rx : R32 x := by rw [hx]; split <;> omega
            refine g_callV hZ (t_X9_within E S₁ w h n hg₁ hB₁ hr₁ A x rA rx) kX9_125 ⟨by decide, by decide⟩ rfl rfl rfl rfl (Nat.le_of_ble_eq_true rfl) dX9_regionInfo_58 ?_
            rintro _ _ ⟨rfl, rfl⟩
            refine g_iret hZ dX9_regionInfo_61 rfl ⟨he₁, by unfold aInfo; rw [hA, if_pos hall, if_neg c2, if_neg c3, e61, hx]⟩
          refine g_aload_n hZ dX9_regionInfo_44 rfl ?_
          refine g_iload_n hZ dX9_regionInfo_45 rfl ?_
          refine g_iload_n hZ dX9_regionInfo_46 rfl ?_
          refine g_iconst hZ dX9_regionInfo_47 ?_
          refine g_icmp_ne hZ 55 dX9_regionInfo_48 rfl (by omega) (fun c4 => ?_) (fun c4 => ?_)
          · refine g_iload_n hZ dX9_regionInfo_55 rfl ?_
            refine g_iconst hZ dX9_regionInfo_56 ?_
            refine g_isub hZ dX9_regionInfo_57 ?_
            exact wi _ (by rw [if_neg c4])
          · refine g_iconst hZ dX9_regionInfo_51 ?_
            refine g_goto hZ 58 dX9_regionInfo_52 rfl ?_
            exact wi _ (by rw [if_pos c4])
        · refine g_iload_n hZ dX9_regionInfo_40 rfl ?_
          refine g_goto hZ 61 dX9_regionInfo_41 rfl ?_
          refine g_iret hZ dX9_regionInfo_61 rfl ⟨he₁, by unfold aInfo; rw [hA, if_pos hall, if_neg c2, if_pos c3]⟩
      · refine g_aload_n hZ dX9_regionInfo_27 rfl ?_
        refine g_iload_n hZ dX9_regionInfo_28 rfl ?_
        refine g_callV hZ (t_X9_kind E S₁ w h n hg₁ hB₁ hr₁ A rA) kX9_131 ⟨by decide, by decide⟩ rfl rfl rfl rfl (Nat.le_of_ble_eq_true rfl) dX9_regionInfo_29 ?_
        rintro _ _ ⟨rfl, rfl⟩
        refine g_goto hZ 61 dX9_regionInfo_32 rfl ?_
        refine g_iret hZ dX9_regionInfo_61 rfl ⟨he₁, by unfold aInfo; rw [hA, if_pos hall, if_pos c2, e61]⟩
    · refine g_if_ne hZ 23 dX9_regionInfo_16 rfl (by omega) (fun cX => absurd (by omega) cX) (fun _ => ?_)
      exact bad (by omega)
