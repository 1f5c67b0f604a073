/-! the class: RegionList -/
theorem cntB_sub {p q : Nat → Bool} (h : ∀ k, p k = true → q k = true) : ∀ n, cntB p n ≤ cntB q n
  | 0 => Nat.le_refl _
  | n + 1 => by
    have := cntB_sub h n
    rw [cntB, cntB]
    by_cases q1 : p n = true
    · rw [if_pos q1, if_pos (h n q1)]; omega
    · rw [if_neg q1]; omega
theorem cntB_less {p q : Nat → Bool} (h : ∀ k, p k = true → q k = true) {k : Nat} (hp : ¬ p k = true) (hq : q k = true) : ∀ {n : Nat}, k < n → cntB p n < cntB q n
  | 0, hk => absurd hk (Nat.not_lt_zero k)
  | n + 1, hk => by
    rw [cntB, cntB]
    by_cases e : k = n
    · subst e
      have := cntB_sub h k
      rw [if_neg hp, if_pos hq]; omega
    · have := cntB_less h hp hq (n := n) (by omega)
      by_cases q1 : p n = true
      · rw [if_pos q1, if_pos (h n q1)]; omega
      · rw [if_neg q1]; omega
theorem tb_diff {a b : Nat} (h : a ≠ b) (hs : ∀ k, a.testBit k = true → b.testBit k = true) : ∃ k, ¬ a.testBit k = true ∧ b.testBit k = true := by
  apply Classical.byContradiction
  intro hno
  apply h
  apply Nat.eq_of_testBit_eq
  intro k
  cases ha : a.testBit k with
  | true => exact (hs k ha).symm
  | false =>
    cases hb : b.testBit k with
    | false => rfl
    | true => exact absurd ⟨k, by rw [ha]; simp, hb⟩ hno
/-- two open fields are of one region if one comes from one to the other -/
theorem rg_cn {w n : Nat} {B : Nat → Int} {f k : Nat} (hf : f < n) (of : B f ≠ 3) (hk : k < n) : rg w n B k = rg w n B f ↔ cn w n B f k := by
  have hr := rg_ok w n B
  constructor
  · intro e
    obtain ⟨g, g1, g2, g3, g4⟩ := hr.2.1 f hf of
    have ok : B k ≠ 3 := fun e3 => by have := hr.1 k hk e3; omega
    obtain ⟨g', p1, p2, p3, p4⟩ := hr.2.1 k hk ok
    have : g = g' := by omega
    subst this
    exact g4.tr p4.sy
  · intro c
    exact hr.cn c
theorem flt_ix {p : Nat → Bool} : ∀ {n i r : Nat}, ((List.range n).filter p)[i]? = some r → r < n ∧ p r = true ∧ i = cntB p r
  | 0, i, r, h => by simp at h
  | n + 1, i, r, h => by
    rw [List.range_succ, List.filter_append] at h
    by_cases q : i < ((List.range n).filter p).length
    · rw [List.getElem?_append_left q] at h
      obtain ⟨a, b, c⟩ := flt_ix h
      exact ⟨by omega, b, c⟩
    · rw [List.getElem?_append_right (by omega)] at h
      rw [cntB_len] at h q
      cases hp : p n with
      | false => simp [hp] at h
      | true =>
        rw [List.filter_cons_of_pos hp, List.filter_nil] at h
        have hl := (List.getElem?_eq_some_iff.mp h).1
        have hl1 : ([n] : List Nat).length = 1 := rfl
        have e : i - cntB p n = 0 := by omega
        rw [e] at h
        cases h
        exact ⟨by omega, hp, by omega⟩
def opB (n : Nat) (B : Nat → Int) : Nat → Bool := fun k => decide (k < n) && !decide (B k = 3)
noncomputable def rgB (w n : Nat) (B : Nat → Int) (z : Int) : Nat → Bool := fun k => decide (k < n) && decide (rg w n B k = z)
theorem t_X5_spread (E : gE) (S : gS) (w h n : Nat) (hg : xG S w h n) (B : Nat → Int) (a : Nat) (ha : isM a (opB n B)) (f : Nat) (hf : f < n) (of : B f ≠ 3) : Ct E LAY mX5_spread [.ref (gad E 1), iV (f : Int), iV (a : Int)] S (fun r S' => S = S' ∧ ∃ m : Nat, r = some (iV (m : Int)) ∧ isM m (rgB w n B (rg w n B f))) := by
  have hn := hg.n15
  have e15 : (2 : Nat) ^ 15 = 32768 := by decide
  have hat : ∀ k, a.testBit k = true ↔ (k < n ∧ B k ≠ 3) := fun k => by
    have hak : a.testBit k = opB n B k := ha k
    rw [hak]; unfold opB; simp
  have hal : a < 2 ^ 15 := lt_of_tb fun i hi => by
    cases q : a.testBit i with
    | false => rfl
    | true => have := (hat i).mp q; omega
  have mlt : ∀ m : Nat, (∀ k, m.testBit k = true → cn w n B f k) → m < 32768 := fun m hm => by
    rw [← e15]
    exact lt_of_tb fun i hi => by
      cases q : m.testBit i with
      | false => rfl
      | true => have := ((hm i q).op hf of).1; omega
  refine Ct.intro LAY_ok (by decide +kernel) (Nat.le_of_ble_eq_true rfl) rfl ?_
  intro Z hZ
  have fin : ∀ (m : Nat) (L9 : List (Nat × Value)), m.testBit f = true → (∀ k, m.testBit k = true → cn w n B f k) → (∀ k u, m.testBit k = true → u < n → B u ≠ 3 → nearB w k u = true → m.testBit u = true) → lkeep L9 [0, 3] = [(0, .ref (gad E 1)), (3, iV (m : Int))] → Z S L9 70 [] := by
    intro m L9 h0 h1 h2 hL9
    refine g_keep hZ [0, 3] hL9 ?_
    refine g_iload_n hZ dX5_spread_70 rfl ?_
    refine g_iret hZ dX5_spread_71 rfl ⟨rfl, m, rfl, fun k => ?_⟩
    rw [Bool.eq_iff_iff]
    unfold rgB
    rw [Bool.and_eq_true, decide_eq_true_eq, decide_eq_true_eq]
    constructor
    · intro q
      have hk := ((h1 k q).op hf of).1
      exact ⟨hk, (rg_cn hf of hk).mpr (h1 k q)⟩
    · rintro ⟨hk, q⟩
      exact (rg_cn hf of hk).mp q (fun x => m.testBit x = true) h0 (fun x y hx hy ox oy hxy hq => h2 x y hq hy oy hxy)
  have round : ∀ (c t m : Nat) (L9 : List (Nat × Value)), t + c = 15 → m.testBit f = true → (∀ k, m.testBit k = true → cn w n B f k) → t + 1 ≤ cntB (fun k => m.testBit k) n → lkeep L9 [0, 1, 2, 3, 4] = [(0, .ref (gad E 1)), (1, iV (f : Int)), (2, iV (a : Int)), (3, iV (m : Int)), (4, iV (t : Int))] → Z S L9 7 [] := by
    intro c
    induction c with
    | zero =>
      intro t m L9 ht h0 h1 hc hL9
      have := cntB_le (fun k => m.testBit k) n
      omega
    | succ c ih =>
      intro t m L9 ht h0 h1 hc hL9
      have hml := mlt m h1
      refine g_keep hZ [0, 1, 2, 3, 4] hL9 ?_
      refine g_iload hZ dX5_spread_7 rfl ?_
      refine g_bipush hZ (z := 15) dX5_spread_9 rfl ?_
      refine g_icmp_ge hZ 70 dX5_spread_11 rfl (by omega) (fun cX => absurd cX (by omega)) (fun _ => ?_)
      have inner : ∀ (d j m2 : Nat) (L9 : List (Nat × Value)), j + d = n → (∀ k, m.testBit k = true → m2.testBit k = true) → (∀ k, m2.testBit k = true → cn w n B f k) → (∀ k u, k < j → m.testBit k = true → u < n → B u ≠ 3 → nearB w k u = true → m2.testBit u = true) → lkeep L9 [0, 1, 2, 3, 4, 5, 6] = [(0, .ref (gad E 1)), (1, iV (f : Int)), (2, iV (a : Int)), (3, iV (m2 : Int)), (4, iV (t : Int)), (5, iV (m : Int)), (6, iV (j : Int))] → Z S L9 20 [] := by
        intro d
        induction d with
        | zero =>
          intro j m2 L9 hj s1 s2 s3 hL9
          have hml2 := mlt m2 s2
          refine g_keep hZ [0, 1, 2, 3, 4, 5, 6] hL9 ?_
          refine g_iload hZ dX5_spread_20 rfl ?_
          refine g_aload_n hZ dX5_spread_22 rfl ?_
          refine g_geti hZ fX5_19 rfl rfl dX5_spread_23 hg.2.2.1 ?_
          refine g_icmp_ge hZ 55 dX5_spread_26 rfl (by omega) (fun _ => ?_) (fun cX => absurd (by omega) cX)
          refine g_iload_n hZ dX5_spread_55 rfl ?_
          refine g_iload hZ dX5_spread_56 rfl ?_
          refine g_icmp_ne hZ 64 dX5_spread_58 rfl (by omega) (fun c1 => ?_) (fun c1 => ?_)
          · refine g_iinc hZ dX5_spread_64 rfl (by decide) ?_
            refine g_goto hZ 7 dX5_spread_67 rfl ?_
            have hne : m ≠ m2 := fun e => c1 (by rw [e])
            obtain ⟨k, k1, k2⟩ := tb_diff hne s1
            have hkn := ((s2 k k2).op hf of).1
            have := cntB_less (p := fun k => m.testBit k) (q := fun k => m2.testBit k) s1 k1 k2 hkn
            exact ih (t + 1) m2 _ (by omega) (s1 f h0) s2 (by omega) rfl
          · have hne : m2 = m := by omega
            subst hne
            refine g_goto hZ 70 dX5_spread_61 rfl ?_
            exact fin m2 _ h0 h1 (fun k u q hu ou hnr => s3 k u (by have := ((h1 k q).op hf of).1; omega) q hu ou hnr) rfl
        | succ d ihd =>
          intro j m2 L9 hj s1 s2 s3 hL9
          have hml2 := mlt m2 s2
          refine g_keep hZ [0, 1, 2, 3, 4, 5, 6] hL9 ?_
          refine g_iload hZ dX5_spread_20 rfl ?_
          refine g_aload_n hZ dX5_spread_22 rfl ?_
          refine g_geti hZ fX5_19 rfl rfl dX5_spread_23 hg.2.2.1 ?_
          refine g_icmp_ge hZ 55 dX5_spread_26 rfl (by omega) (fun cX => absurd cX (by omega)) (fun _ => ?_)
          refine g_iload_n hZ dX5_spread_29 rfl ?_
          refine g_iload hZ dX5_spread_30 rfl ?_
          refine g_ishr hZ dX5_spread_32 (gi_shr (by omega) (by omega)) ?_
          refine g_iconst hZ dX5_spread_33 ?_
          refine g_iand hZ dX5_spread_34 (gi_and1 _) ?_
          rw [tb_div]
          cases hb : m2.testBit j with
          | false =>
            refine g_if_eq hZ 49 dX5_spread_35 rfl (by decide) (fun _ => ?_) (fun cX => absurd (by decide) cX)
            refine g_iinc hZ dX5_spread_49 rfl (by decide) ?_
            refine g_goto hZ 20 dX5_spread_52 rfl ?_
            exact ihd (j + 1) m2 _ (by omega) s1 s2 (fun k u hk q hu ou hnr => by
              by_cases e : k = j
              · subst e; rw [s1 k q] at hb; cases hb
              · exact s3 k u (by omega) q hu ou hnr) rfl
          | true =>
            have oj := ((s2 j hb).op hf of).2
            refine g_if_eq hZ 49 dX5_spread_35 rfl (by decide) (fun cX => absurd cX (by decide)) (fun _ => ?_)
            refine g_iload_n hZ dX5_spread_38 rfl ?_
            refine g_aload_n hZ dX5_spread_39 rfl ?_
            refine g_iload hZ dX5_spread_40 rfl ?_
            refine g_callV hZ (t_X1_neighboursOf E S w h n hg j (by omega)) kX5_28 ⟨by decide, by decide⟩ rfl rfl rfl rfl (Nat.le_of_ble_eq_true rfl) dX5_spread_42 ?_
            rintro _ _ ⟨rfl, nb, rfl, hnb⟩
            refine g_iload_n hZ dX5_spread_45 rfl ?_
            refine g_iand hZ dX5_spread_46 (gi_and _ _) ?_
            refine g_ior hZ dX5_spread_47 (gi_or _ _) ?_
            refine g_istore_n hZ dX5_spread_48 (by decide) ?_
            refine g_iinc hZ dX5_spread_49 rfl (by decide) ?_
            refine g_goto hZ 20 dX5_spread_52 rfl ?_
            have hnew : ∀ k, (m2 ||| (nb &&& a)).testBit k = true ↔ (m2.testBit k = true ∨ (k < n ∧ nearB w j k = true ∧ j ≠ k ∧ B k ≠ 3)) := fun k => by
              have hnbk : nb.testBit k = (decide (k < n) && (nearB w j k && decide (j ≠ k))) := hnb k
              rw [Nat.testBit_or, Nat.testBit_and, Bool.or_eq_true, Bool.and_eq_true, hat k, hnbk]
              simp only [Bool.and_eq_true, decide_eq_true_eq]
              constructor
              · rintro (q | ⟨⟨q1, q2, q3⟩, -, q4⟩)
                · exact Or.inl q
                · exact Or.inr ⟨q1, q2, q3, q4⟩
              · rintro (q | ⟨q1, q2, q3, q4⟩)
                · exact Or.inl q
                · exact Or.inr ⟨⟨q1, q2, q3⟩, q1, q4⟩
            refine ihd (j + 1) (m2 ||| (nb &&& a)) _ (by omega) (fun k q => (hnew k).mpr (Or.inl (s1 k q))) (fun k q => ?_) (fun k u hk q hu ou hnr => (hnew u).mpr ?_) rfl
            · rcases (hnew k).mp q with q | ⟨q1, q2, q3, q4⟩
              · exact s2 k q
              · exact (s2 j hb).tr (cn.st (by omega) q1 oj q4 q2)
            · by_cases e : k = j
              · subst e
                by_cases e2 : k = u
                · subst e2; exact Or.inl hb
                · exact Or.inr ⟨hu, hnr, e2, ou⟩
              · exact Or.inl (s3 k u (by omega) q hu ou hnr)
      refine g_iload_n hZ dX5_spread_14 rfl ?_
      refine g_istore hZ dX5_spread_15 (by decide) ?_
      refine g_iconst hZ dX5_spread_17 ?_
      refine g_istore hZ dX5_spread_18 (by decide) ?_
      exact inner n 0 m _ (by omega) (fun _ q => q) h1 (fun k u hk => absurd hk (Nat.not_lt_zero k)) rfl
  refine g_iconst hZ dX5_spread_0 ?_
  refine g_iload_n hZ dX5_spread_1 rfl ?_
  refine g_ishl hZ dX5_spread_2 (gi_shl (a := 1) (by omega) (by have := p2_le (show f ≤ 15 by omega); omega)) ?_
  refine g_istore_n hZ dX5_spread_3 (by decide) ?_
  refine g_iconst hZ dX5_spread_4 ?_
  refine g_istore hZ dX5_spread_5 (by decide) ?_
  rw [Nat.one_mul]
  have hb0 : ∀ k, (2 ^ f).testBit k = true ↔ f = k := fun k => by rw [tb_p2, decide_eq_true_eq]
  refine round 15 0 (2 ^ f) _ rfl ((hb0 f).mpr rfl) (fun k q => ?_) ?_ rfl
  · have := (hb0 k).mp q
    subst this
    exact cn.rf
  · have := cntB_less (p := fun _ => false) (q := fun k => (2 ^ f).testBit k) (fun k q => by cases q) (k := f) (by simp) ((hb0 f).mpr rfl) hf
    omega
/-- the class's list of regions -/
def XR (S : gS) (w n : Nat) (B : Nat → Int) : Prop := S 30 0 = ((rts (rg w n B) n).length : Int) ∧ ∀ (i r : Nat), (rts (rg w n B) n)[i]? = some r → ∃ m : Nat, S 31 i = (m : Int) ∧ isM m (rgB w n B (r : Int))
theorem XR.x {vs : List Nat} {S S1 : gS} {w n : Nat} {B : Nat → Int} (hh : XR S w n B) (he : Eqx vs S S1) (h1 : vs.contains 30 = false) (h2 : vs.contains 31 = false) : XR S1 w n B :=
  ⟨(he 30 0 h1).trans hh.1, fun i r hi => by obtain ⟨m, a1, a2⟩ := hh.2 i r hi; exact ⟨m, (he 31 _ h2).trans a1, a2⟩⟩
theorem t_X5_has (E : gE) (S : gS) (w n : Nat) (hn : n ≤ 15) (B : Nat → Int) (hx : XR S w n B) (i : Int) (hi : R32 i) : Ct E LAY mX5_has [.ref (gad E 15), iV i] S (fun r S' => S = S' ∧ ∃ z, r = some (iV z) ∧ isB z (0 ≤ i ∧ i < ((rts (rg w n B) n).length : Int))) := by
  have hl := cntB_le (rootB (rg w n B)) n
  rw [← rts_len] at hl
  refine Ct.intro LAY_ok (by decide +kernel) (Nat.le_of_ble_eq_true rfl) rfl ?_
  intro Z hZ
  refine g_iload_n hZ dX5_has_0 rfl ?_
  refine g_if_lt hZ 16 dX5_has_1 rfl (by omega) (fun c => ?_) (fun c => ?_)
  · refine g_iconst hZ dX5_has_16 ?_
    refine g_zret hZ dX5_has_17 rfl (Or.inl rfl) ⟨rfl, 0, rfl, Or.inr ⟨rfl, by omega⟩⟩
  · refine g_iload_n hZ dX5_has_4 rfl ?_
    refine g_aload_n hZ dX5_has_5 rfl ?_
    refine g_geti hZ fX5_15 rfl rfl dX5_has_6 hx.1 ?_
    refine g_icmp_ge hZ 16 dX5_has_9 rfl (by omega) (fun c2 => ?_) (fun c2 => ?_)
    · refine g_iconst hZ dX5_has_16 ?_
      refine g_zret hZ dX5_has_17 rfl (Or.inl rfl) ⟨rfl, 0, rfl, Or.inr ⟨rfl, by omega⟩⟩
    · refine g_iconst hZ dX5_has_12 ?_
      refine g_goto hZ 17 dX5_has_13 rfl ?_
      refine g_zret hZ dX5_has_17 rfl (Or.inr rfl) ⟨rfl, 1, rfl, Or.inl ⟨rfl, by omega⟩⟩
theorem t_X5_divide (E : gE) (S : gS) (w h n : Nat) (hg : xG S w h n) (B : Nat → Int) (a : Nat) (ha : isM a (opB n B)) : Ct E LAY mX5_divide [.ref (gad E 15), .ref (gad E 1), iV (a : Int)] S (fun r S' => r = none ∧ Eqx [30, 31] S S' ∧ XR S' w n B) := by
  have hn := hg.n15
  have hr := rg_ok w n B
  have e15 : (2 : Nat) ^ 15 = 32768 := by decide
  have hat : ∀ k, a.testBit k = true ↔ (k < n ∧ B k ≠ 3) := fun k => by
    have hak : a.testBit k = opB n B k := ha k
    rw [hak]; unfold opB; simp
  refine Ct.intro LAY_ok (by decide +kernel) (Nat.le_of_ble_eq_true rfl) rfl ?_
  intro Z hZ
  have loop : ∀ (m f c : Nat) (S₁ : gS) (L9 : List (Nat × Value)), f + m = n → Eqx [30, 31] S S₁ → (∀ k, c.testBit k = true ↔ (k < n ∧ B k ≠ 3 ∧ (f : Int) ≤ rg w n B k)) → S₁ 30 0 = (cntB (rootB (rg w n B)) f : Int) → (∀ i r : Nat, r < f → rootB (rg w n B) r = true → i = cntB (rootB (rg w n B)) r → ∃ m : Nat, S₁ 31 i = (m : Int) ∧ isM m (rgB w n B (r : Int))) → lkeep L9 [0, 1, 2, 3, 4] = [(0, .ref (gad E 15)), (1, .ref (gad E 1)), (2, iV (a : Int)), (3, iV (c : Int)), (4, iV (f : Int))] → Z S₁ L9 10 [] := by
    intro m
    induction m with
    | zero =>
      intro f c S₁ L9 hf he hc h30 h31 hL9
      have hg₁ := hg.x he rfl
      refine g_keep hZ [0, 1, 2, 3, 4] hL9 ?_
      refine g_iload hZ dX5_divide_10 rfl ?_
      refine g_aload_n hZ dX5_divide_12 rfl ?_
      refine g_geti hZ fX5_19 rfl rfl dX5_divide_13 hg₁.2.2.1 ?_
      refine g_icmp_ge hZ 83 dX5_divide_16 rfl (by omega) (fun _ => ?_) (fun cX => absurd (by omega) cX)
      rw [show f = n by omega] at h30 h31
      refine g_vret hZ dX5_divide_83 rfl ⟨rfl, he, by rw [rts_len]; exact h30, fun i r hi => ?_⟩
      obtain ⟨p1, p2, p3⟩ := flt_ix hi
      exact h31 i r p1 p2 p3
    | succ m ih =>
      intro f c S₁ L9 hf he hc h30 h31 hL9
      have hg₁ := hg.x he rfl
      have hle := cntB_le (rootB (rg w n B)) f
      have hcl : c < 2 ^ 15 := lt_of_tb fun i hi => by
        cases q : c.testBit i with
        | false => rfl
        | true => have := (hc i).mp q; omega
      have ec : cntB (rootB (rg w n B)) (f + 1) = cntB (rootB (rg w n B)) f + (if rootB (rg w n B) f = true then 1 else 0) := rfl
      refine g_keep hZ [0, 1, 2, 3, 4] hL9 ?_
      refine g_iload hZ dX5_divide_10 rfl ?_
      refine g_aload_n hZ dX5_divide_12 rfl ?_
      refine g_geti hZ fX5_19 rfl rfl dX5_divide_13 hg₁.2.2.1 ?_
      refine g_icmp_ge hZ 83 dX5_divide_16 rfl (by omega) (fun cX => absurd cX (by omega)) (fun _ => ?_)
      refine g_aload_n hZ dX5_divide_19 rfl ?_
      refine g_geti hZ fX5_15 rfl rfl dX5_divide_20 h30 ?_
      refine g_bipush hZ (z := 15) dX5_divide_23 rfl ?_
      refine g_icmp_ge hZ 83 dX5_divide_25 rfl (by omega) (fun cX => absurd cX (by omega)) (fun _ => ?_)
      refine g_iload_n hZ dX5_divide_28 rfl ?_
      refine g_iload hZ dX5_divide_29 rfl ?_
      refine g_ishr hZ dX5_divide_31 (gi_shr (by omega) (by omega)) ?_
      refine g_iconst hZ dX5_divide_32 ?_
      refine g_iand hZ dX5_divide_33 (gi_and1 _) ?_
      rw [tb_div]
      have hbit : c.testBit f = true ↔ rootB (rg w n B) f = true := by
        rw [hc f]
        unfold rootB
        rw [decide_eq_true_eq]
        constructor
        · rintro ⟨q1, q2, q3⟩
          have := (rg_bd (w := w) (B := B) q1).2
          omega
        · intro q
          refine ⟨by omega, fun e3 => ?_, by omega⟩
          have := hr.1 f (by omega) e3
          omega
      cases hrb : rootB (rg w n B) f with
      | false =>
        have hcb : c.testBit f = false := by
          cases q : c.testBit f with
          | false => rfl
          | true => rw [hbit.mp q] at hrb; cases hrb
        rw [hcb]
        rw [hrb] at ec
        refine g_if_eq hZ 77 dX5_divide_34 rfl (by decide) (fun _ => ?_) (fun cX => absurd (by decide) cX)
        refine g_iinc hZ dX5_divide_77 rfl (by decide) ?_
        refine g_goto hZ 10 dX5_divide_80 rfl ?_
        refine ih (f + 1) c S₁ _ (by omega) he (fun k => (hc k).trans ?_) (by rw [ec]; simpa using h30) (fun i r hr1 hr2 hr3 => ?_) rfl
        · constructor
          · rintro ⟨q1, q2, q3⟩
            refine ⟨q1, q2, ?_⟩
            by_cases e : rg w n B k = (f : Int)
            · exfalso
              obtain ⟨g, g1, g2, g3, g4⟩ := hr.2.1 k q1 q2
              have : g = f := by omega
              subst this
              have := hr.cn g4
              have : rootB (rg w n B) g = true := by unfold rootB; rw [decide_eq_true_eq]; omega
              rw [hrb] at this
              cases this
            · omega
          · rintro ⟨q1, q2, q3⟩
            exact ⟨q1, q2, by omega⟩
        · by_cases e : r = f
          · subst e; rw [hrb] at hr2; cases hr2
          · exact h31 i r (by omega) hr2 hr3
      | true =>
        have hcb : c.testBit f = true := hbit.mpr hrb
        have hrf : rg w n B f = (f : Int) := by unfold rootB at hrb; rwa [decide_eq_true_eq] at hrb
        have of := ((hc f).mp hcb).2.1
        rw [hcb]
        rw [hrb] at ec
        refine g_if_eq hZ 77 dX5_divide_34 rfl (by decide) (fun cX => absurd cX (by decide)) (fun _ => ?_)
        refine g_aload_n hZ dX5_divide_37 rfl ?_
        refine g_getr hZ fX5_9 rfl rfl dX5_divide_38 ?_
        refine g_aload_n hZ dX5_divide_41 rfl ?_
        refine g_geti hZ fX5_15 rfl rfl dX5_divide_42 h30 ?_
        refine g_aload_n hZ dX5_divide_45 rfl ?_
        refine g_iload hZ dX5_divide_46 rfl ?_
        refine g_iload_n hZ dX5_divide_48 rfl ?_
        refine g_callS hZ (t_X5_spread E S₁ w h n hg₁ B a ha f (by omega) of) kX5_24 ⟨by decide, by decide⟩ rfl rfl (Nat.le_of_ble_eq_true rfl) dX5_divide_49 ?_
        rintro _ _ ⟨rfl, z, rfl, hz⟩
        rw [hrf] at hz
        refine g_iast hZ ((cntB (rootB (rg w n B)) f)) rfl dX5_divide_52 (rfl) (by omega) (by decide) ?_
        refine g_iload_n hZ dX5_divide_53 rfl ?_
        refine g_aload_n hZ dX5_divide_54 rfl ?_
        refine g_getr hZ fX5_9 rfl rfl dX5_divide_55 ?_
        refine g_aload_n hZ dX5_divide_58 rfl ?_
        refine g_geti hZ fX5_15 rfl rfl dX5_divide_59 h30 ?_
        refine g_iald hZ ((cntB (rootB (rg w n B)) f)) rfl dX5_divide_62 (rfl) (by omega) (by decide) ((upS_eq S₁ 31 (cntB (rootB (rg w n B)) f) (z : Int))) ?_
        refine g_iconst hZ dX5_divide_63 ?_
        refine g_ixor hZ dX5_divide_64 (gi_not _) ?_
        refine g_iand hZ dX5_divide_65 (gi_andn _ _) ?_
        refine g_istore_n hZ dX5_divide_66 (by decide) ?_
        refine g_aload_n hZ dX5_divide_67 rfl ?_
        refine g_dup hZ dX5_divide_68 rfl ?_
        refine g_geti hZ fX5_15 rfl rfl dX5_divide_69 h30 ?_
        refine g_iconst hZ dX5_divide_72 ?_
        refine g_iadd hZ dX5_divide_73 ?_
        refine g_puti hZ fX5_15 rfl rfl dX5_divide_74 ?_
        refine g_iinc hZ dX5_divide_77 rfl (by decide) ?_
        refine g_goto hZ 10 dX5_divide_80 rfl ?_
        refine ih (f + 1) (andn c z) _ _ (by omega) ((he.up rfl).up rfl) (fun k => ?_) (by rw [upS_eq, ec]; rfl) (fun i r hr1 hr2 hr3 => ?_) rfl
        · have hzk : z.testBit k = rgB w n B (f : Int) k := hz k
          rw [andn_tb, Bool.and_eq_true, hc k, hzk]
          unfold rgB
          constructor
          · rintro ⟨⟨q1, q2, q3⟩, q4⟩
            refine ⟨q1, q2, ?_⟩
            by_cases e : rg w n B k = (f : Int)
            · simp [q1, e] at q4
            · omega
          · rintro ⟨q1, q2, q3⟩
            refine ⟨⟨q1, q2, by omega⟩, ?_⟩
            have : ¬ rg w n B k = (f : Int) := by omega
            simp [this]
        · rw [upS_v _ _ (by decide)]
          by_cases e : r = f
          · subst e
            rw [hr3, upS_eq]
            exact ⟨z, rfl, hz⟩
          · have h2 : cntB (rootB (rg w n B)) (r + 1) ≤ cntB (rootB (rg w n B)) f := by
              have : ∀ d, cntB (rootB (rg w n B)) (r + 1) ≤ cntB (rootB (rg w n B)) (r + 1 + d) := by
                intro d
                induction d with
                | zero => exact Nat.le_refl _
                | succ d ihd => exact Nat.le_trans ihd (by show _ ≤ cntB (rootB (rg w n B)) (r + 1 + d) + _; omega)
              have := this (f - (r + 1))
              rwa [show r + 1 + (f - (r + 1)) = f by omega] at this
            have h3 : cntB (rootB (rg w n B)) (r + 1) = cntB (rootB (rg w n B)) r + 1 := by
              show cntB (rootB (rg w n B)) r + _ = _
              rw [if_pos hr2]
            rw [upS_j _ _ (by omega)]
            exact h31 i r (by omega) hr2 hr3
  refine g_aload_n hZ dX5_divide_0 rfl ?_
  refine g_iconst hZ dX5_divide_1 ?_
  refine g_puti hZ fX5_15 rfl rfl dX5_divide_2 ?_
  refine g_iload_n hZ dX5_divide_5 rfl ?_
  refine g_istore_n hZ dX5_divide_6 (by decide) ?_
  refine g_iconst hZ dX5_divide_7 ?_
  refine g_istore hZ dX5_divide_8 (by decide) ?_
  refine loop n 0 a _ _ (by omega) (Eqx.rf.up rfl) (fun k => (hat k).trans ?_) (upS_eq _ _ _ _) (fun i r hr1 => absurd hr1 (Nat.not_lt_zero r)) rfl
  constructor
  · rintro ⟨q1, q2⟩
    obtain ⟨g, g1, -⟩ := hr.2.1 k q1 q2
    exact ⟨q1, q2, by omega⟩
  · rintro ⟨q1, q2, -⟩
    exact ⟨q1, q2⟩
