/-! the reference: moves made, history, the board's calls -/
/-- what noMove answers -/
def mNo (S : gS) (w n : Nat) (s a t u z : Int) : Prop := (¬ ((s = 1 ∨ s = 2) ∧ 0 ≤ a ∧ a < n ∧ 0 ≤ t ∧ t < n ∧ 0 ≤ u ∧ u < n) ∧ z = -1001) ∨ (((s = 1 ∨ s = 2) ∧ 0 ≤ a ∧ a < n ∧ 0 ≤ t ∧ t < n ∧ 0 ≤ u ∧ u < n) ∧ (a.toNat, t.toNat, u.toNat) ∈ mvs w n (S 61) s ∧ z = 0) ∨ (((s = 1 ∨ s = 2) ∧ 0 ≤ a ∧ a < n ∧ 0 ≤ t ∧ t < n ∧ 0 ≤ u ∧ u < n) ∧ (a.toNat, t.toNat, u.toNat) ∉ mvs w n (S 61) s ∧ z = -1002)
/-- the sides have at most three pieces each -/
def mC3 (B : Nat → Int) (n : Nat) : Prop := cntZ B 1 n ≤ 3 ∧ cntZ B 2 n ≤ 3
theorem mC3.s {B : Nat → Int} {n : Nat} {s : Int} (h : mC3 B n) (hs : s = 1 ∨ s = 2) : cntZ B s n ≤ 3 := by rcases hs with rfl | rfl; exact h.1; exact h.2
theorem t_X9_noMove (E : gE) (S : gS) (w h n : Nat) (hg : mG S w h n) (hB : mBd (S 61) n) (hc : mC3 (S 61) n) (s a t u : Int) (rs : R32 s) (ra : R32 a) (rt : R32 t) (ru : R32 u) : Ct E LAY mX9_noMove [.ref (gad E 27), iV s, iV a, iV t, iV u] S (fun r S' => Eqx [55, 62, 66] S S' ∧ ∃ z, r = some (iV z) ∧ mNo S w n s a t u z) := by
  have hn := hg.n15
  refine Ct.intro LAY_ok (by decide +kernel) (Nat.le_of_ble_eq_true rfl) rfl ?_
  intro Z hZ
  refine g_iload_n hZ dX9_noMove_0 rfl ?_
  have bad : ¬ ((s = 1 ∨ s = 2) ∧ 0 ≤ a ∧ a < n ∧ 0 ≤ t ∧ t < n ∧ 0 ≤ u ∧ u < n) → Z S [(0, .ref (gad E 27)), (1, iV s), (2, iV a), (3, iV t), (4, iV u)] 32 [] := by
    intro hb
    refine g_sipush hZ (z := (-1001)) dX9_noMove_32 rfl ?_
    refine g_iret hZ dX9_noMove_35 rfl ⟨Eqx.rf, -1001, rfl, Or.inl ⟨hb, rfl⟩⟩
  refine g_callS hZ (t_X9_isSide E S s rs) kX9_81 ⟨by decide, by decide⟩ rfl rfl (Nat.le_of_ble_eq_true rfl) dX9_noMove_1 ?_
  rintro _ _ ⟨rfl, z1, rfl, hz1⟩
  rcases hz1 with ⟨rfl, hz1⟩ | ⟨rfl, hz1⟩
  · refine g_if_eq hZ 32 dX9_noMove_4 rfl (by omega) (fun cX => absurd cX (by omega)) (fun _ => ?_)
    refine g_aload_n hZ dX9_noMove_7 rfl ?_
    refine g_iload_n hZ dX9_noMove_8 rfl ?_
    refine g_callV hZ (t_X9_isField E S w h n hg a ra) kX9_77 ⟨by decide, by decide⟩ rfl rfl rfl rfl (Nat.le_of_ble_eq_true rfl) dX9_noMove_9 ?_
    rintro _ _ ⟨rfl, z1, rfl, hz2⟩
    rcases hz2 with ⟨rfl, hz2⟩ | ⟨rfl, hz2⟩
    · refine g_if_eq hZ 32 dX9_noMove_12 rfl (by omega) (fun cX => absurd cX (by omega)) (fun _ => ?_)
      refine g_aload_n hZ dX9_noMove_15 rfl ?_
      refine g_iload_n hZ dX9_noMove_16 rfl ?_
      refine g_callV hZ (t_X9_isField E S w h n hg t rt) kX9_77 ⟨by decide, by decide⟩ rfl rfl rfl rfl (Nat.le_of_ble_eq_true rfl) dX9_noMove_17 ?_
      rintro _ _ ⟨rfl, z1, rfl, hz3⟩
      rcases hz3 with ⟨rfl, hz3⟩ | ⟨rfl, hz3⟩
      · refine g_if_eq hZ 32 dX9_noMove_20 rfl (by omega) (fun cX => absurd cX (by omega)) (fun _ => ?_)
        refine g_aload_n hZ dX9_noMove_23 rfl ?_
        refine g_iload hZ dX9_noMove_24 rfl ?_
        refine g_callV hZ (t_X9_isField E S w h n hg u ru) kX9_77 ⟨by decide, by decide⟩ rfl rfl rfl rfl (Nat.le_of_ble_eq_true rfl) dX9_noMove_26 ?_
        rintro _ _ ⟨rfl, z1, rfl, hz4⟩
        rcases hz4 with ⟨rfl, hz4⟩ | ⟨rfl, hz4⟩
        · refine g_if_ne hZ 36 dX9_noMove_29 rfl (by omega) (fun _ => ?_) (fun cX => absurd cX (by omega))
          have hall : (s = 1 ∨ s = 2) ∧ 0 ≤ a ∧ a < n ∧ 0 ≤ t ∧ t < n ∧ 0 ≤ u ∧ u < n := ⟨hz1, hz2.1, hz2.2, hz3.1, hz3.2, hz4.1, hz4.2⟩
          refine g_aload_n hZ dX9_noMove_36 rfl ?_
          refine g_iload_n hZ dX9_noMove_37 rfl ?_
          refine g_callV hZ (t_X9_movesNow E S w h n hg hB s hz1 (hc.s hz1)) kX9_109 ⟨by decide, by decide⟩ rfl rfl rfl rfl (Nat.le_of_ble_eq_true rfl) dX9_noMove_38 ?_
          rintro _ S₁ ⟨rfl, hm₁, -⟩
          have hbnd := mvs_bound (w := w) (B := S 61) (s := s) hn (hc.s hz1)
          have hlen := hm₁.2.1
          have hHL := hm₁.2.2
          have hmem : ∀ q ∈ mvs w n (S 61) s, q.1 < n ∧ q.2.1 < n ∧ q.2.2 < n := fun q hq => ⟨(mvs_in hq).1, (mvs_in hq).2.1, (mvs_in hq).2.2.1⟩
          generalize hM : mvs w n (S 61) s = M9 at *
          have loop : ∀ (m k : Nat), k + m = M9.length → (∀ j, j < k → M9[j]? ≠ some (a.toNat, t.toNat, u.toNat)) → Z S₁ [(0, .ref (gad E 27)), (1, iV s), (2, iV a), (3, iV t), (4, iV u), (5, iV (k : Int))] 45 [] := by
            intro m
            induction m with
            | zero =>
              intro k hk hno
              refine g_iload hZ dX9_noMove_45 rfl ?_
              refine g_aload_n hZ dX9_noMove_47 rfl ?_
              refine g_geti hZ fX9_102 rfl rfl dX9_noMove_48 hlen ?_
              refine g_icmp_ge hZ 85 dX9_noMove_51 rfl (by omega) (fun _ => ?_) (fun cX => absurd (by omega) cX)
              refine g_sipush hZ (z := (-1002)) dX9_noMove_85 rfl ?_
              refine g_iret hZ dX9_noMove_88 rfl ⟨hm₁.1, -1002, rfl, Or.inr (Or.inr ⟨hall, ?_, rfl⟩)⟩
              rw [hM]
              intro hin
              obtain ⟨j, hj⟩ := List.getElem?_of_mem hin
              exact hno j (by have := (List.getElem?_eq_some_iff.mp hj).1; omega) hj
            | succ m ih =>
              intro k hk hno
              obtain ⟨q, hq⟩ : ∃ q, M9[k]? = some q := ⟨_, List.getElem?_eq_getElem (by omega)⟩
              have hqn := hmem q (List.mem_of_getElem? hq)
              have hfk := hHL k q hq
              refine g_iload hZ dX9_noMove_45 rfl ?_
              refine g_aload_n hZ dX9_noMove_47 rfl ?_
              refine g_geti hZ fX9_102 rfl rfl dX9_noMove_48 hlen ?_
              refine g_icmp_ge hZ 85 dX9_noMove_51 rfl (by omega) (fun cX => absurd cX (by omega)) (fun _ => ?_)
              refine g_aload_n hZ dX9_noMove_54 rfl ?_
              refine g_getr hZ fX9_32 rfl rfl dX9_noMove_55 ?_
              refine g_iload hZ dX9_noMove_58 rfl ?_
              refine g_iald hZ (k) rfl dX9_noMove_60 (rfl) (by omega) (by decide) (hfk) ?_
              refine g_sipush hZ (z := 225) dX9_noMove_61 rfl ?_
              refine g_iload_n hZ dX9_noMove_64 rfl ?_
              refine g_imul hZ dX9_noMove_65 ?_
              refine g_bipush hZ (z := 15) dX9_noMove_66 rfl ?_
              refine g_iload_n hZ dX9_noMove_68 rfl ?_
              refine g_imul hZ dX9_noMove_69 ?_
              refine g_iadd hZ dX9_noMove_70 ?_
              refine g_iload hZ dX9_noMove_71 rfl ?_
              refine g_iadd hZ dX9_noMove_73 ?_
              refine g_icmp_ne hZ 79 dX9_noMove_74 rfl (by unfold menc; omega) (fun c => ?_) (fun c => ?_)
              · refine g_iinc hZ dX9_noMove_79 rfl (by decide) ?_
                refine g_goto hZ 45 dX9_noMove_82 rfl ?_
                refine ih (k + 1) (by omega) (fun j hj => ?_)
                by_cases e9 : j = k
                · subst e9
                  rw [hq]
                  intro e8
                  cases e8
                  refine c ?_
                  unfold menc
                  show 225 * ((a.toNat : Nat) : Int) + 15 * ((t.toNat : Nat) : Int) + ((u.toNat : Nat) : Int) = 225 * a + 15 * t + u
                  omega
                · exact hno j (by omega)
              · refine g_iconst hZ dX9_noMove_77 ?_
                refine g_iret hZ dX9_noMove_78 rfl ⟨hm₁.1, 0, rfl, Or.inr (Or.inl ⟨hall, ?_, rfl⟩)⟩
                rw [hM]
                have e7 : q = (a.toNat, t.toNat, u.toNat) := by
                  obtain ⟨q1, q2, q3⟩ := q
                  unfold menc at c
                  dsimp only at c hqn
                  have e1 : q1 = a.toNat := by omega
                  have e2 : q2 = t.toNat := by omega
                  have e3 : q3 = u.toNat := by omega
                  rw [e1, e2, e3]
                rw [← e7]
                exact List.mem_of_getElem? hq
          refine g_pop hZ dX9_noMove_41 rfl ?_
          refine g_iconst hZ dX9_noMove_42 ?_
          refine g_istore hZ dX9_noMove_43 (by decide) ?_
          exact loop M9.length 0 (by omega) (fun j hj => absurd hj (Nat.not_lt_zero j))
        · refine g_if_ne hZ 36 dX9_noMove_29 rfl (by omega) (fun cX => absurd (by omega) cX) (fun _ => ?_)
          exact bad (by omega)
      · refine g_if_eq hZ 32 dX9_noMove_20 rfl (by omega) (fun _ => ?_) (fun cX => absurd (by omega) cX)
        exact bad (by omega)
    · refine g_if_eq hZ 32 dX9_noMove_12 rfl (by omega) (fun _ => ?_) (fun cX => absurd (by omega) cX)
      exact bad (by omega)
  · refine g_if_eq hZ 32 dX9_noMove_4 rfl (by omega) (fun _ => ?_) (fun cX => absurd (by omega) cX)
    exact bad (by omega)
theorem t_X9_goes (E : gE) (S : gS) (w h n : Nat) (hg : mG S w h n) (hB : mBd (S 61) n) (hc : mC3 (S 61) n) (s : Int) (hs : s = 1 ∨ s = 2) (q : Nat × Nat × Nat) (hq : q ∈ mvs w n (S 61) s) : Ct E LAY mX9_goes [.ref (gad E 27), iV s, iV (q.1 : Int), iV (q.2.1 : Int), iV (q.2.2 : Int)] S (fun r S' => r = some (iV ((mvs w n (aftB (S 61) q s) (3 - s)).length : Int)) ∧ Eqx [55, 61, 62, 66] S S' ∧ S' 61 = aftB (S 61) q s) := by
  have hn := hg.n15
  have hqf := mvs_facts hg.2.2 (by omega) hq
  refine Ct.intro LAY_ok (by decide +kernel) (Nat.le_of_ble_eq_true rfl) rfl ?_
  intro Z hZ
  refine g_aload_n hZ dX9_goes_0 rfl ?_
  refine g_getr hZ fX9_16 rfl rfl dX9_goes_1 ?_
  refine g_iload_n hZ dX9_goes_4 rfl ?_
  refine g_iconst hZ dX9_goes_5 ?_
  refine g_iast hZ (q.1) rfl dX9_goes_6 (rfl) (by omega) (by decide) ?_
  refine g_aload_n hZ dX9_goes_7 rfl ?_
  refine g_getr hZ fX9_16 rfl rfl dX9_goes_8 ?_
  refine g_iload_n hZ dX9_goes_11 rfl ?_
  refine g_iload_n hZ dX9_goes_12 rfl ?_
  refine g_iast hZ (q.2.1) rfl dX9_goes_13 (rfl) (by omega) (by decide) ?_
  refine g_aload_n hZ dX9_goes_14 rfl ?_
  refine g_getr hZ fX9_16 rfl rfl dX9_goes_15 ?_
  refine g_iload hZ dX9_goes_18 rfl ?_
  refine g_iconst hZ dX9_goes_20 ?_
  refine g_iast hZ (q.2.2) rfl dX9_goes_21 (rfl) (by omega) (by decide) ?_
  refine g_aload_n hZ dX9_goes_22 rfl ?_
  refine g_iconst hZ dX9_goes_23 ?_
  refine g_iload_n hZ dX9_goes_24 rfl ?_
  refine g_isub hZ dX9_goes_25 ?_
  have e61 : upS (upS (upS S 61 q.1 0) 61 q.2.1 s) 61 q.2.2 3 61 = aftB (S 61) q s := by
    funext k
    unfold aftB
    rw [upS_if, upS_if, upS_if]
    by_cases e1 : k = q.2.2
    · rw [if_pos ⟨rfl, e1⟩, if_pos e1]
    · rw [if_neg (fun q => e1 q.2), if_neg e1]
      by_cases e2 : k = q.2.1
      · rw [if_pos ⟨rfl, e2⟩, if_pos e2]
      · rw [if_neg (fun q => e2 q.2), if_neg e2]
        by_cases e3 : k = q.1
        · rw [if_pos ⟨rfl, e3⟩, if_pos e3]
        · rw [if_neg (fun q => e3 q.2), if_neg e3]
  have he₁ : Eqx [61] S (upS (upS (upS S 61 q.1 0) 61 q.2.1 s) 61 q.2.2 3) := ((Eqx.rf.up rfl).up rfl).up rfl
  have h3s : (3 - s = 1 ∨ 3 - s = 2) := by omega
  refine g_callV hZ (t_X9_movesNow E _ w h n (hg.x he₁ rfl rfl) (by rw [e61]; exact aftB_bd hB hs) (3 - s) h3s (by rw [e61, aftB_cnt hg.2.2 hs hq h3s]; exact hc.s h3s)) kX9_109 ⟨by decide, by decide⟩ rfl rfl rfl rfl (Nat.le_of_ble_eq_true rfl) dX9_goes_26 ?_
  rintro _ S₁ ⟨rfl, hm₁, -⟩
  rw [e61] at hm₁
  refine g_iret hZ dX9_goes_29 rfl ⟨by rw [e61], (he₁.mono rfl).tr (hm₁.1.mono rfl), ?_⟩
  funext k
  exact (hm₁.1 61 k rfl).trans (congrFun e61 k)
abbrev hEn : Type := Nat × Nat × (Nat → Int)
/-- the reference's history -/
def mHs (S : gS) (hs : List hEn) : Prop := S 52 0 = (hs.length : Int) ∧ hs.length ≤ 8 ∧ ∀ (i : Nat) (e : hEn), hs[i]? = some e → S 63 (17 * i) = (e.1 : Int) ∧ S 63 (17 * i + 1) = (e.2.1 : Int) ∧ ∀ k, k < 15 → S 63 (17 * i + 2 + k) = e.2.2 k
def hpush (hs : List hEn) (e : hEn) : List hEn := (if hs.length = 8 then hs.tail else hs) ++ [e]
theorem mHs.x {vs : List Nat} {S S1 : gS} {hs : List hEn} (hh : mHs S hs) (he : Eqx vs S S1) (h1 : vs.contains 52 = false) (h2 : vs.contains 63 = false) : mHs S1 hs := by
  refine ⟨(he 52 0 h1).trans hh.1, hh.2.1, fun i e hi => ?_⟩
  obtain ⟨a1, a2, a3⟩ := hh.2.2 i e hi
  exact ⟨(he 63 _ h2).trans a1, (he 63 _ h2).trans a2, fun k hk => (he 63 _ h2).trans (a3 k hk)⟩
theorem t_X9_keeps (E : gE) (S : gS) (w h n : Nat) (hg : mG S w h n) (hs : List hEn) (hh : mHs S hs) : Ct E LAY mX9_keeps [.ref (gad E 27)] S (fun r S' => r = none ∧ Eqx [52, 63] S S' ∧ mHs S' (hpush hs (w, h, S 61))) := by
  have hn := hg.n15
  obtain ⟨hl1, hl2, hl3⟩ := hh
  refine Ct.intro LAY_ok (by decide +kernel) (Nat.le_of_ble_eq_true rfl) rfl ?_
  intro Z hZ
  have tail : ∀ (S₁ : gS) (gs : List hEn) (L9 : List (Nat × Value)), mHs S₁ gs → gs.length ≤ 7 → Eqx [52, 63] S S₁ → gs ++ [(w, h, S 61)] = hpush hs (w, h, S 61) → lkeep L9 [0] = [(0, .ref (gad E 27))] → Z S₁ L9 48 [] := by
    intro S₁ gs L9 hh₁ hl he hp hL
    refine g_keep hZ [0] hL ?_
    obtain ⟨g1, g2, g3⟩ := hh₁
    have hg₁ := hg.x he rfl rfl
    refine g_aload_n hZ dX9_keeps_48 rfl ?_
    refine g_getr hZ fX9_23 rfl rfl dX9_keeps_49 ?_
    refine g_bipush hZ (z := 17) dX9_keeps_52 rfl ?_
    refine g_aload_n hZ dX9_keeps_54 rfl ?_
    refine g_geti hZ fX9_68 rfl rfl dX9_keeps_55 g1 ?_
    refine g_imul hZ dX9_keeps_58 ?_
    refine g_aload_n hZ dX9_keeps_59 rfl ?_
    refine g_geti hZ fX9_7 rfl rfl dX9_keeps_60 hg₁.1 ?_
    refine g_iast hZ ((17 * gs.length)) rfl dX9_keeps_63 (by omega) (by omega) (by decide) ?_
    refine g_aload_n hZ dX9_keeps_64 rfl ?_
    refine g_getr hZ fX9_23 rfl rfl dX9_keeps_65 ?_
    refine g_bipush hZ (z := 17) dX9_keeps_68 rfl ?_
    refine g_aload_n hZ dX9_keeps_70 rfl ?_
    refine g_geti hZ fX9_68 rfl rfl dX9_keeps_71 g1 ?_
    refine g_imul hZ dX9_keeps_74 ?_
    refine g_iconst hZ dX9_keeps_75 ?_
    refine g_iadd hZ dX9_keeps_76 ?_
    refine g_aload_n hZ dX9_keeps_77 rfl ?_
    refine g_geti hZ fX9_13 rfl rfl dX9_keeps_78 hg₁.2.1 ?_
    refine g_iast hZ ((17 * gs.length + 1)) rfl dX9_keeps_81 (by omega) (by omega) (by decide) ?_
    refine g_iconst hZ dX9_keeps_82 ?_
    refine g_istore_n hZ dX9_keeps_83 (by decide) ?_
    have he₂ : Eqx [63] S₁ (upS (upS S₁ 63 (17 * gs.length) (w : Int)) 63 (17 * gs.length + 1) (h : Int)) := (Eqx.rf.up rfl).up rfl
    have loop : ∀ (m k : Nat) (S₃ : gS), k + m = 15 → Eqx [63] S₁ S₃ → (∀ j, j < 17 * gs.length → S₃ 63 j = S₁ 63 j) → S₃ 63 (17 * gs.length) = w → S₃ 63 (17 * gs.length + 1) = h → (∀ i, i < k → S₃ 63 (17 * gs.length + 2 + i) = S 61 i) → Z S₃ [(0, .ref (gad E 27)), (1, iV (k : Int))] 84 [] := by
      intro m
      induction m with
      | zero =>
        intro k S₃ hk he₃ f1 f2 f3 f4
        have l3 : S₃ 52 0 = (gs.length : Int) := (he₃ 52 0 rfl).trans g1
        refine g_iload_n hZ dX9_keeps_84 rfl ?_
        refine g_bipush hZ (z := 15) dX9_keeps_85 rfl ?_
        refine g_icmp_ge hZ 118 dX9_keeps_87 rfl (by omega) (fun _ => ?_) (fun cX => absurd (by omega) cX)
        refine g_aload_n hZ dX9_keeps_118 rfl ?_
        refine g_dup hZ dX9_keeps_119 rfl ?_
        refine g_geti hZ fX9_68 rfl rfl dX9_keeps_120 l3 ?_
        refine g_iconst hZ dX9_keeps_123 ?_
        refine g_iadd hZ dX9_keeps_124 ?_
        refine g_puti hZ fX9_68 rfl rfl dX9_keeps_125 ?_
        refine g_vret hZ dX9_keeps_128 rfl ⟨rfl, (he.tr (he₃.mono rfl)).up rfl, ?_⟩
        rw [← hp]
        refine ⟨?_, by rw [List.length_append]; simp; omega, fun i e hi => ?_⟩
        · rw [upS_eq, List.length_append]; simp
        · have e9 : ∀ j, upS S₃ 52 0 ((gs.length : Int) + 1) 63 j = S₃ 63 j := fun j => upS_v _ _ (by decide)
          simp only [e9]
          have hil := (List.getElem?_eq_some_iff.mp hi).1
          rw [List.length_append] at hil
          have h1l : ([(w, h, S 61)] : List hEn).length = 1 := rfl
          by_cases q : i < gs.length
          · rw [List.getElem?_append_left q] at hi
            obtain ⟨a1, a2, a3⟩ := g3 i e hi
            refine ⟨(f1 _ (by omega)).trans a1, (f1 _ (by omega)).trans a2, fun k2 hk2 => (f1 _ (by omega)).trans (a3 k2 hk2)⟩
          · have : i = gs.length := by omega
            subst this
            rw [List.getElem?_append_right (Nat.le_refl _)] at hi
            simp at hi
            subst hi
            exact ⟨f2, f3, fun k2 hk2 => f4 k2 (by omega)⟩
      | succ m ih =>
        intro k S₃ hk he₃ f1 f2 f3 f4
        have l3 : S₃ 52 0 = (gs.length : Int) := (he₃ 52 0 rfl).trans g1
        have b3 : S₃ 61 k = S 61 k := (he₃ 61 k rfl).trans (he 61 k rfl)
        refine g_iload_n hZ dX9_keeps_84 rfl ?_
        refine g_bipush hZ (z := 15) dX9_keeps_85 rfl ?_
        refine g_icmp_ge hZ 118 dX9_keeps_87 rfl (by omega) (fun cX => absurd cX (by omega)) (fun _ => ?_)
        refine g_aload_n hZ dX9_keeps_90 rfl ?_
        refine g_getr hZ fX9_23 rfl rfl dX9_keeps_91 ?_
        refine g_bipush hZ (z := 17) dX9_keeps_94 rfl ?_
        refine g_aload_n hZ dX9_keeps_96 rfl ?_
        refine g_geti hZ fX9_68 rfl rfl dX9_keeps_97 l3 ?_
        refine g_imul hZ dX9_keeps_100 ?_
        refine g_iconst hZ dX9_keeps_101 ?_
        refine g_iadd hZ dX9_keeps_102 ?_
        refine g_iload_n hZ dX9_keeps_103 rfl ?_
        refine g_iadd hZ dX9_keeps_104 ?_
        refine g_aload_n hZ dX9_keeps_105 rfl ?_
        refine g_getr hZ fX9_16 rfl rfl dX9_keeps_106 ?_
        refine g_iload_n hZ dX9_keeps_109 rfl ?_
        refine g_iald hZ (k) rfl dX9_keeps_110 (rfl) (by omega) (by decide) (b3) ?_
        refine g_iast hZ ((17 * gs.length + 2 + k)) rfl dX9_keeps_111 (by omega) (by omega) (by decide) ?_
        refine g_iinc hZ dX9_keeps_112 rfl (by decide) ?_
        refine g_goto hZ 84 dX9_keeps_115 rfl ?_
        refine ih (k + 1) _ (by omega) (he₃.up rfl) (fun j hj => ?_) ?_ ?_ (fun i hi => ?_)
        · rw [upS_j _ _ (by omega)]; exact f1 j hj
        · rw [upS_j _ _ (by omega)]; exact f2
        · rw [upS_j _ _ (by omega)]; exact f3
        · by_cases q : i = k
          · subst q; rw [upS_eq]
          · rw [upS_j _ _ (by omega)]; exact f4 i (by omega)
    refine loop 15 0 _ (by omega) he₂ (fun j hj => ?_) ?_ ?_ (fun i hi => absurd hi (Nat.not_lt_zero i))
    · rw [upS_j _ _ (by omega), upS_j _ _ (by omega)]
    · rw [upS_j _ _ (by omega), upS_eq]
    · rw [upS_eq]
  refine g_aload_n hZ dX9_keeps_0 rfl ?_
  refine g_geti hZ fX9_68 rfl rfl dX9_keeps_1 hl1 ?_
  refine g_bipush hZ (z := 8) dX9_keeps_4 rfl ?_
  refine g_icmp_ne hZ 48 dX9_keeps_6 rfl (by omega) (fun c => ?_) (fun c => ?_)
  · refine tail S hs _ ⟨hl1, hl2, hl3⟩ (by omega) Eqx.rf ?_ rfl
    unfold hpush
    rw [if_neg (by omega)]
  · have loop : ∀ (m k : Nat), k + m = 119 → Z (setRow S 63 k (fun j => S 63 (17 + j))) [(0, .ref (gad E 27)), (1, iV (k : Int))] 11 [] := by
      intro m
      induction m with
      | zero =>
        intro k hk
        refine g_iload_n hZ dX9_keeps_11 rfl ?_
        refine g_bipush hZ (z := 119) dX9_keeps_12 rfl ?_
        refine g_icmp_ge hZ 38 dX9_keeps_14 rfl (by omega) (fun _ => ?_) (fun cX => absurd (by omega) cX)
        refine g_aload_n hZ dX9_keeps_38 rfl ?_
        refine g_dup hZ dX9_keeps_39 rfl ?_
        refine g_geti hZ fX9_68 rfl rfl dX9_keeps_40 hl1 ?_
        refine g_iconst hZ dX9_keeps_43 ?_
        refine g_isub hZ dX9_keeps_44 ?_
        refine g_puti hZ fX9_68 rfl rfl dX9_keeps_45 ?_
        refine tail _ hs.tail _ ⟨?_, by rw [List.length_tail]; omega, fun i e hi => ?_⟩ (by rw [List.length_tail]; omega) ((Eqx.rf.row rfl).up rfl) ?_ rfl
        · rw [upS_eq, List.length_tail]; omega
        · rw [List.getElem?_tail] at hi
          obtain ⟨a1, a2, a3⟩ := hl3 (i + 1) e hi
          have hil := (List.getElem?_eq_some_iff.mp hi).1
          have e9 : ∀ j, j < k → upS (setRow S 63 k (fun j => S 63 (17 + j))) 52 0 ((hs.length : Int) - 1) 63 j = S 63 (17 + j) := fun j hj => by rw [upS_v _ _ (by decide), setRow_in _ _ hj]
          refine ⟨?_, ?_, fun k2 hk2 => ?_⟩
          · rw [e9 _ (by omega), ← a1]; congr 1; omega
          · rw [e9 _ (by omega), ← a2]; congr 1; omega
          · rw [e9 _ (by omega), ← a3 k2 hk2]; congr 1; omega
        · unfold hpush
          rw [if_pos (by omega)]
      | succ m ih =>
        intro k hk
        refine g_iload_n hZ dX9_keeps_11 rfl ?_
        refine g_bipush hZ (z := 119) dX9_keeps_12 rfl ?_
        refine g_icmp_ge hZ 38 dX9_keeps_14 rfl (by omega) (fun cX => absurd cX (by omega)) (fun _ => ?_)
        refine g_aload_n hZ dX9_keeps_17 rfl ?_
        refine g_getr hZ fX9_23 rfl rfl dX9_keeps_18 ?_
        refine g_iload_n hZ dX9_keeps_21 rfl ?_
        refine g_aload_n hZ dX9_keeps_22 rfl ?_
        refine g_getr hZ fX9_23 rfl rfl dX9_keeps_23 ?_
        refine g_bipush hZ (z := 17) dX9_keeps_26 rfl ?_
        refine g_iload_n hZ dX9_keeps_28 rfl ?_
        refine g_iadd hZ dX9_keeps_29 ?_
        refine g_iald hZ ((17 + k)) rfl dX9_keeps_30 (rfl) (by omega) (by decide) ((setRow_j S (fun j => S 63 (17 + j)) (show k ≤ 17 + k by omega))) ?_
        refine g_iast hZ (k) rfl dX9_keeps_31 (rfl) (by omega) (by decide) ?_
        refine g_iinc hZ dX9_keeps_32 rfl (by decide) ?_
        refine g_goto hZ 11 dX9_keeps_35 rfl ?_
        have e1 := setRow_succ S 63 k (fun j => S 63 (17 + j))
        refine g_state hZ e1 ?_
        exact ih (k + 1) (by omega)
    refine g_iconst hZ dX9_keeps_9 ?_
    refine g_istore_n hZ dX9_keeps_10 (by decide) ?_
    have := loop 119 0 (by omega)
    rw [setRow_0] at this
    exact this
