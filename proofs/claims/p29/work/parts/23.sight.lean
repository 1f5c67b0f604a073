/-! the class: what is seen -/
/-- the bits of a mask, as a proposition -/
def bM (m : Nat) (P : Nat → Prop) : Prop := ∀ k, m.testBit k = true ↔ P k
theorem bM.lt {m n : Nat} {P : Nat → Prop} (h : bM m P) (hP : ∀ k, P k → k < n) : m < 2 ^ n := lt_of_tb fun i hi => by
  cases q : m.testBit i with
  | false => rfl
  | true => have := hP i ((h i).mp q); omega
theorem bM.isM {m : Nat} {P : Nat → Prop} {Q : Nat → Bool} (h : bM m P) (hq : ∀ k, P k ↔ Q k = true) : isM m Q := fun k => by
  rw [Bool.eq_iff_iff]; exact (h k).trans (hq k)
/-- what was found before direction d, step s -/
def SPr (w h a : Nat) (F : Nat → Bool) (d s k : Nat) : Prop := ∃ e i, ((e < d ∧ 1 ≤ i ∧ i ≤ 4) ∨ (e = d ∧ 1 ≤ i ∧ i < s)) ∧ ryF w h a e i = (k : Int) ∧ ∀ j, 1 ≤ j → j ≤ i → 0 ≤ ryF w h a e j ∧ F (ryF w h a e j).toNat = true
theorem SPr_lt {w h n a d s k : Nat} {F : Nat → Bool} (hg : gOK w h n) (ha : a < n) (hd : d < 8) (hs : s ≤ 5) (h : SPr w h a F d s k) : k < n := by
  obtain ⟨e, i, h1, h2, -⟩ := h
  have := (ryF_bd hg ha (show e < 8 by omega) i).2
  omega
theorem SPr_seen {w h n a : Nat} {F : Nat → Bool} (hg : gOK w h n) (ha : a < n) (k : Nat) : SPr w h a F 8 1 k ↔ (decide (k < n) && seenB w F a k) = true := by
  constructor
  · rintro ⟨e, i, h1, h2, h3⟩
    have he : e < 8 := by omega
    have hk := (ryF_bd hg ha he i).2
    obtain ⟨g1, g2, g3⟩ := ryF_see hg ha he (show 1 ≤ i by omega) (by omega) (by omega)
    rw [h2] at g1 g2 g3
    simp only [Int.toNat_natCast] at g1 g2 g3
    rw [Bool.and_eq_true]
    refine ⟨decide_eq_true (by omega), ?_⟩
    unfold seenB
    rw [g1, Bool.true_and, List.all_eq_true]
    intro j hj
    have hj := List.mem_range.mp hj
    have h4 := (h3 (j + 1) (by omega) (by omega)).2
    rw [g3 (j + 1) (by omega)] at h4
    simpa using h4
  · intro h
    obtain ⟨h1, h2⟩ := Bool.and_eq_true_iff.mp h
    have hk : k < n := of_decide_eq_true h1
    unfold seenB at h2
    obtain ⟨hal, hall⟩ := Bool.and_eq_true_iff.mp h2
    obtain ⟨m4, d, hd, hr⟩ := ryF_alg hg ha hk hal
    obtain ⟨s1, s2⟩ := gst_ok hg ha hk hal
    obtain ⟨g1, g2, g3⟩ := ryF_see hg ha hd s1 m4 (by omega)
    rw [hr] at g1 g2 g3
    simp only [Int.toNat_natCast] at g1 g2 g3
    refine ⟨d, gm w a k, Or.inl ⟨hd, s1, m4⟩, hr, fun j j1 j2 => ?_⟩
    rw [g3 j j2]
    refine ⟨by omega, ?_⟩
    have := List.all_eq_true.mp hall (j - 1) (List.mem_range.mpr (by omega))
    rw [show j - 1 + 1 = j by omega] at this
    simpa using this
theorem or_bit {m k : Nat} {P Q : Nat → Prop} (h : bM m P) (hq : ∀ j, Q j ↔ (P j ∨ j = k)) : bM (m ||| 2 ^ k) Q := by
  intro j
  rw [Nat.testBit_or, tb_p2, Bool.or_eq_true, decide_eq_true_eq, hq j, h j]
  constructor
  · rintro (z | z)
    · exact Or.inl z
    · exact Or.inr z.symm
  · rintro (z | z)
    · exact Or.inl z
    · exact Or.inr z.symm
theorem t_X1_seenFrom (E : gE) (S : gS) (w h n : Nat) (hg : xG S w h n) (a : Nat) (ha : a < n) (fr : Nat) (hfr : fr < 32768) (F : Nat → Bool) (hF : ∀ k, k < n → fr.testBit k = F k) : Ct E LAY mX1_seenFrom [.ref (gad E 1), iV (a : Int), iV (fr : Int)] S (fun r S' => S = S' ∧ ∃ m : Nat, r = some (iV (m : Int)) ∧ isM m (fun k => decide (k < n) && seenB w F a k)) := by
  have hn := hg.n15
  have hO := hg.o
  obtain ⟨g1, g2, g3, g4, -, g5⟩ := id hg
  refine Ct.intro LAY_ok (by decide +kernel) (Nat.le_of_ble_eq_true rfl) rfl ?_
  intro Z hZ
  have outer : ∀ (m d : Nat) (s : Nat) (L9 : List (Nat × Value)), d + m = 8 → bM s (SPr w h a F d 1) → lkeep L9 [0, 1, 2, 3, 4] = [(0, .ref (gad E 1)), (1, iV (a : Int)), (2, iV (fr : Int)), (3, iV (s : Int)), (4, iV (d : Int))] → Z S L9 15 [] := by
    intro m
    induction m with
    | zero =>
      intro d s L9 hd hs hL9
      refine g_keep hZ [0, 1, 2, 3, 4] hL9 ?_
      refine g_iload hZ dX1_seenFrom_15 rfl ?_
      refine g_bipush hZ (z := 8) dX1_seenFrom_17 rfl ?_
      refine g_icmp_ge hZ 100 dX1_seenFrom_19 rfl (by omega) (fun _ => ?_) (fun cX => absurd (by omega) cX)
      refine g_iload_n hZ dX1_seenFrom_100 rfl ?_
      refine g_iret hZ dX1_seenFrom_101 rfl ⟨rfl, s, rfl, hs.isM (fun k => by rw [show d = 8 by omega]; exact SPr_seen hO ha k)⟩
    | succ m ih =>
      intro d s L9 hd hs hL9
      refine g_keep hZ [0, 1, 2, 3, 4] hL9 ?_
      have done : ∀ (st : Nat) (s2 : Nat) (L9 : List (Nat × Value)), st ≤ 5 → 1 ≤ st → bM s2 (SPr w h a F d st) → (st = 5 ∨ ¬ (0 ≤ ryF w h a d st ∧ F (ryF w h a d st).toNat = true)) → lkeep L9 [0, 1, 2, 3, 4] = [(0, .ref (gad E 1)), (1, iV (a : Int)), (2, iV (fr : Int)), (3, iV (s2 : Int)), (4, iV (d : Int))] → Z S L9 94 [] := by
        intro st s2 L9 hst hst1 hs2 hend hL9
        refine g_keep hZ [0, 1, 2, 3, 4] hL9 ?_
        refine g_iinc hZ dX1_seenFrom_94 rfl (by decide) ?_
        refine g_goto hZ 15 dX1_seenFrom_97 rfl ?_
        refine ih (d + 1) s2 _ (by omega) (fun k => (hs2 k).trans ?_) rfl
        constructor
        · rintro ⟨e, i, h1, h2, h3⟩
          exact ⟨e, i, by omega, h2, h3⟩
        · rintro ⟨e, i, h1, h2, h3⟩
          refine ⟨e, i, ?_, h2, h3⟩
          rcases h1 with h1 | h1
          · by_cases q : e < d
            · exact Or.inl ⟨q, h1.2⟩
            · have ed : e = d := by omega
              subst ed
              right
              refine ⟨rfl, h1.2.1, ?_⟩
              rcases hend with q | q
              · omega
              · rcases Nat.lt_or_ge i st with z | z
                · exact z
                · exact absurd (h3 st hst1 z) q
          · omega
      have inner : ∀ (m2 st : Nat) (s2 : Nat), st + m2 = 5 → 1 ≤ st → bM s2 (SPr w h a F d st) → (∀ j, 1 ≤ j → j < st → 0 ≤ ryF w h a d j ∧ F (ryF w h a d j).toNat = true) → Z S [(0, .ref (gad E 1)), (1, iV (a : Int)), (2, iV (fr : Int)), (3, iV (s2 : Int)), (4, iV (d : Int)), (5, iV (ryF w h a d st)), (6, iV (st : Int))] 39 [] := by
        intro m2
        induction m2 with
        | zero =>
          intro st s2 hst h1 hs2 hfree
          refine g_iload hZ dX1_seenFrom_39 rfl ?_
          refine g_iconst hZ dX1_seenFrom_41 ?_
          refine g_icmp_ge hZ 94 dX1_seenFrom_42 rfl (by omega) (fun _ => ?_) (fun cX => absurd (by omega) cX)
          exact done st s2 _ (by omega) h1 hs2 (Or.inl (by omega)) rfl
        | succ m2 ih2 =>
          intro st s2 hst h1 hs2 hfree
          have rb := ryF_bd hO ha (show d < 8 by omega) st
          refine g_iload hZ dX1_seenFrom_39 rfl ?_
          refine g_iconst hZ dX1_seenFrom_41 ?_
          refine g_icmp_ge hZ 94 dX1_seenFrom_42 rfl (by omega) (fun cX => absurd cX (by omega)) (fun _ => ?_)
          refine g_aload_n hZ dX1_seenFrom_45 rfl ?_
          refine g_iload hZ dX1_seenFrom_46 rfl ?_
          refine g_callV hZ (t_X1_has E S n g3 hn (ryF w h a d st) (by omega)) kX1_32 ⟨by decide, by decide⟩ rfl rfl rfl rfl (Nat.le_of_ble_eq_true rfl) dX1_seenFrom_48 ?_
          rintro _ _ ⟨rfl, z, rfl, hz⟩
          rcases hz with ⟨rfl, hz⟩ | ⟨rfl, hz⟩
          · refine g_if_eq hZ 94 dX1_seenFrom_51 rfl (by omega) (fun cX => absurd cX (by omega)) (fun _ => ?_)
            have ea : ryF w h a d st = (((ryF w h a d st).toNat : Nat) : Int) := by omega
            have hFk := hF (ryF w h a d st).toNat (by omega)
            have hry : ryF w h a d (st + 1) = nxF w h (ryF w h a d st).toNat d := by rw [ryF, if_neg (by omega)]
            have hnx := g5 (ryF w h a d st).toNat d (by omega) (by omega)
            rw [← hry] at hnx
            generalize hat : (ryF w h a d st).toNat = at1 at *
            rw [ea]
            refine g_iload_n hZ dX1_seenFrom_54 rfl ?_
            refine g_iload hZ dX1_seenFrom_55 rfl ?_
            refine g_ishr hZ dX1_seenFrom_57 (gi_shr (by omega) (by omega)) ?_
            refine g_iconst hZ dX1_seenFrom_58 ?_
            refine g_iand hZ dX1_seenFrom_59 (gi_and1 _) ?_
            rw [tb_div, hFk]
            cases hfa : F at1 with
            | false =>
              refine g_if_ne hZ 66 dX1_seenFrom_60 rfl (by decide) (fun cX => absurd (by decide) cX) (fun _ => ?_)
              refine g_goto hZ 94 dX1_seenFrom_63 rfl ?_
              refine done st s2 _ (by omega) h1 hs2 (Or.inr (fun q => ?_)) rfl
              rw [hat, hfa] at q
              cases q.2
            | true =>
              refine g_if_ne hZ 66 dX1_seenFrom_60 rfl (by decide) (fun _ => ?_) (fun cX => absurd cX (by decide))
              refine g_iload_n hZ dX1_seenFrom_66 rfl ?_
              refine g_iconst hZ dX1_seenFrom_67 ?_
              refine g_iload hZ dX1_seenFrom_68 rfl ?_
              refine g_ishl hZ dX1_seenFrom_70 (gi_shl (a := 1) (by omega) (by have := p2_le (show at1 ≤ 15 by omega); omega)) ?_
              refine g_ior hZ dX1_seenFrom_71 (gi_or _ _) ?_
              refine g_istore_n hZ dX1_seenFrom_72 (by decide) ?_
              refine g_aload_n hZ dX1_seenFrom_73 rfl ?_
              refine g_getr hZ fX1_9 rfl rfl dX1_seenFrom_74 ?_
              refine g_iload hZ dX1_seenFrom_77 rfl ?_
              refine g_bipush hZ (z := 8) dX1_seenFrom_79 rfl ?_
              refine g_imul hZ dX1_seenFrom_81 ?_
              refine g_iload hZ dX1_seenFrom_82 rfl ?_
              refine g_iadd hZ dX1_seenFrom_84 ?_
              refine g_iald hZ ((8 * at1 + d)) rfl dX1_seenFrom_85 (by omega) (by omega) (by decide) (hnx) ?_
              refine g_istore hZ dX1_seenFrom_86 (by decide) ?_
              refine g_iinc hZ dX1_seenFrom_88 rfl (by decide) ?_
              refine g_goto hZ 39 dX1_seenFrom_91 rfl ?_
              rw [Nat.one_mul]
              refine ih2 (st + 1) (s2 ||| 2 ^ at1) (by omega) (by omega) (or_bit hs2 (fun k => ?_)) (fun j j1 j2 => ?_)
              · constructor
                · rintro ⟨e, i, q1, q2, q3⟩
                  by_cases q : e = d ∧ i = st
                  · right
                    rw [q.1, q.2] at q2
                    omega
                  · left
                    exact ⟨e, i, by omega, q2, q3⟩
                · rintro (⟨e, i, q1, q2, q3⟩ | q)
                  · exact ⟨e, i, by omega, q2, q3⟩
                  · refine ⟨d, st, Or.inr ⟨rfl, h1, by omega⟩, by omega, fun j j1 j2 => ?_⟩
                    by_cases z : j = st
                    · subst z; exact ⟨by omega, by rw [hat]; exact hfa⟩
                    · exact hfree j j1 (by omega)
              · by_cases z : j = st
                · subst z; exact ⟨by omega, by rw [hat]; exact hfa⟩
                · exact hfree j j1 (by omega)
          · refine g_if_eq hZ 94 dX1_seenFrom_51 rfl (by omega) (fun _ => ?_) (fun cX => absurd (by omega) cX)
            exact done st s2 _ (by omega) h1 hs2 (Or.inr (fun q => hz ⟨q.1, by omega⟩)) rfl
      have hr1 : ryF w h a d 1 = nxF w h a d := by
        show (if ryF w h a d 0 < 0 then -1 else nxF w h (ryF w h a d 0).toNat d) = _
        rw [show ryF w h a d 0 = (a : Int) from rfl, if_neg (by omega), Int.toNat_natCast]
      refine g_iload hZ dX1_seenFrom_15 rfl ?_
      refine g_bipush hZ (z := 8) dX1_seenFrom_17 rfl ?_
      refine g_icmp_ge hZ 100 dX1_seenFrom_19 rfl (by omega) (fun cX => absurd cX (by omega)) (fun _ => ?_)
      refine g_aload_n hZ dX1_seenFrom_22 rfl ?_
      refine g_getr hZ fX1_9 rfl rfl dX1_seenFrom_23 ?_
      refine g_iload_n hZ dX1_seenFrom_26 rfl ?_
      refine g_bipush hZ (z := 8) dX1_seenFrom_27 rfl ?_
      refine g_imul hZ dX1_seenFrom_29 ?_
      refine g_iload hZ dX1_seenFrom_30 rfl ?_
      refine g_iadd hZ dX1_seenFrom_32 ?_
      refine g_iald hZ ((8 * a + d)) rfl dX1_seenFrom_33 (by omega) (by omega) (by decide) (((g5 a d ha (by omega)).trans hr1.symm)) ?_
      refine g_istore hZ dX1_seenFrom_34 (by decide) ?_
      refine g_iconst hZ dX1_seenFrom_36 ?_
      refine g_istore hZ dX1_seenFrom_37 (by decide) ?_
      exact inner 4 1 s rfl (Nat.le_refl 1) hs (fun j j1 j2 => by omega)
  refine g_iconst hZ dX1_seenFrom_0 ?_
  refine g_istore_n hZ dX1_seenFrom_1 (by decide) ?_
  refine g_aload_n hZ dX1_seenFrom_2 rfl ?_
  refine g_iload_n hZ dX1_seenFrom_3 rfl ?_
  refine g_callV hZ (t_X1_has E S n g3 hn (a : Int) (by omega)) kX1_32 ⟨by decide, by decide⟩ rfl rfl rfl rfl (Nat.le_of_ble_eq_true rfl) dX1_seenFrom_4 ?_
  rintro _ _ ⟨rfl, z, rfl, hz⟩
  rcases hz with ⟨rfl, hz⟩ | ⟨rfl, hz⟩
  · refine g_if_ne hZ 12 dX1_seenFrom_7 rfl (by omega) (fun _ => ?_) (fun cX => absurd cX (by omega))
    refine g_iconst hZ dX1_seenFrom_12 ?_
    refine g_istore hZ dX1_seenFrom_13 (by decide) ?_
    refine outer 8 0 0 _ rfl (fun k => ?_) rfl
    rw [Nat.zero_testBit]
    constructor
    · intro q; cases q
    · rintro ⟨e, i, q1, -⟩; omega
  · exact absurd (by omega) hz
theorem t_X1_neighboursOf (E : gE) (S : gS) (w h n : Nat) (hg : xG S w h n) (f : Nat) (hf : f < n) : Ct E LAY mX1_neighboursOf [.ref (gad E 1), iV (f : Int)] S (fun r S' => S = S' ∧ ∃ m : Nat, r = some (iV (m : Int)) ∧ isM m (fun k => decide (k < n) && (nearB w f k && decide (f ≠ k)))) := by
  have hn := hg.n15
  have hO := hg.o
  obtain ⟨g1, g2, g3, g4, -, g5⟩ := id hg
  refine Ct.intro LAY_ok (by decide +kernel) (Nat.le_of_ble_eq_true rfl) rfl ?_
  intro Z hZ
  have loop : ∀ (m d s : Nat) (L9 : List (Nat × Value)), d + m = 8 → bM s (fun k => ∃ e, e < d ∧ nxF w h f e = (k : Int)) → lkeep L9 [0, 1, 2, 3] = [(0, .ref (gad E 1)), (1, iV (f : Int)), (2, iV (s : Int)), (3, iV (d : Int))] → Z S L9 14 [] := by
    intro m
    induction m with
    | zero =>
      intro d s L9 hd hs hL9
      refine g_keep hZ [0, 1, 2, 3] hL9 ?_
      refine g_iload_n hZ dX1_neighboursOf_14 rfl ?_
      refine g_bipush hZ (z := 8) dX1_neighboursOf_15 rfl ?_
      refine g_icmp_ge hZ 52 dX1_neighboursOf_17 rfl (by omega) (fun _ => ?_) (fun cX => absurd (by omega) cX)
      refine g_iload_n hZ dX1_neighboursOf_52 rfl ?_
      refine g_iret hZ dX1_neighboursOf_53 rfl ⟨rfl, s, rfl, hs.isM (fun k => ?_)⟩
      rw [show d = 8 by omega, Bool.and_eq_true, Bool.and_eq_true, decide_eq_true_eq, decide_eq_true_eq]
      constructor
      · rintro ⟨e, e1, e2⟩
        have hk : k < n := by rcases nxF_bd hO hf e1 with q | q <;> omega
        exact ⟨hk, (near_nx hO hf hk).mpr ⟨e, e1, e2⟩⟩
      · rintro ⟨hk, q⟩
        exact (near_nx hO hf hk).mp q
    | succ m ih =>
      intro d s L9 hd hs hL9
      refine g_keep hZ [0, 1, 2, 3] hL9 ?_
      have hb := nxF_bd hO hf (show d < 8 by omega)
      have next : ∀ (s2 : Nat) (L9 : List (Nat × Value)), bM s2 (fun k => ∃ e, e < d + 1 ∧ nxF w h f e = (k : Int)) → lkeep L9 [0, 1, 2, 3] = [(0, .ref (gad E 1)), (1, iV (f : Int)), (2, iV (s2 : Int)), (3, iV (d : Int))] → Z S L9 46 [] := by
        intro s2 L9 hs2 hL9
        refine g_keep hZ [0, 1, 2, 3] hL9 ?_
        refine g_iinc hZ dX1_neighboursOf_46 rfl (by decide) ?_
        refine g_goto hZ 14 dX1_neighboursOf_49 rfl ?_
        exact ih (d + 1) s2 _ (by omega) hs2 rfl
      refine g_iload_n hZ dX1_neighboursOf_14 rfl ?_
      refine g_bipush hZ (z := 8) dX1_neighboursOf_15 rfl ?_
      refine g_icmp_ge hZ 52 dX1_neighboursOf_17 rfl (by omega) (fun cX => absurd cX (by omega)) (fun _ => ?_)
      refine g_aload_n hZ dX1_neighboursOf_20 rfl ?_
      refine g_getr hZ fX1_9 rfl rfl dX1_neighboursOf_21 ?_
      refine g_iload_n hZ dX1_neighboursOf_24 rfl ?_
      refine g_bipush hZ (z := 8) dX1_neighboursOf_25 rfl ?_
      refine g_imul hZ dX1_neighboursOf_27 ?_
      refine g_iload_n hZ dX1_neighboursOf_28 rfl ?_
      refine g_iadd hZ dX1_neighboursOf_29 ?_
      refine g_iald hZ ((8 * f + d)) rfl dX1_neighboursOf_30 (by omega) (by omega) (by decide) ((g5 f d hf (by omega))) ?_
      refine g_istore hZ dX1_neighboursOf_31 (by decide) ?_
      refine g_iload hZ dX1_neighboursOf_33 rfl ?_
      refine g_iconst hZ dX1_neighboursOf_35 ?_
      refine g_icmp_eq hZ 46 dX1_neighboursOf_36 rfl (by omega) (fun c => ?_) (fun c => ?_)
      · refine next s _ (fun k => (hs k).trans ?_) rfl
        constructor
        · rintro ⟨e, e1, e2⟩; exact ⟨e, by omega, e2⟩
        · rintro ⟨e, e1, e2⟩
          by_cases q : e = d
          · subst q; omega
          · exact ⟨e, by omega, e2⟩
      · have hb2 := hb.resolve_left c
        have ea : nxF w h f d = (((nxF w h f d).toNat : Nat) : Int) := by omega
        generalize hat : (nxF w h f d).toNat = at1 at *
        rw [ea]
        refine g_iload_n hZ dX1_neighboursOf_39 rfl ?_
        refine g_iconst hZ dX1_neighboursOf_40 ?_
        refine g_iload hZ dX1_neighboursOf_41 rfl ?_
        refine g_ishl hZ dX1_neighboursOf_43 (gi_shl (a := 1) (by omega) (by have := p2_le (show at1 ≤ 15 by omega); omega)) ?_
        refine g_ior hZ dX1_neighboursOf_44 (gi_or _ _) ?_
        refine g_istore_n hZ dX1_neighboursOf_45 (by decide) ?_
        rw [Nat.one_mul]
        refine next (s ||| 2 ^ at1) _ (or_bit hs (fun k => ?_)) rfl
        constructor
        · rintro ⟨e, e1, e2⟩
          by_cases q : e = d
          · subst q; right; omega
          · left; exact ⟨e, by omega, e2⟩
        · rintro (⟨e, e1, e2⟩ | q)
          · exact ⟨e, by omega, e2⟩
          · exact ⟨d, by omega, by omega⟩
  refine g_iconst hZ dX1_neighboursOf_0 ?_
  refine g_istore_n hZ dX1_neighboursOf_1 (by decide) ?_
  refine g_aload_n hZ dX1_neighboursOf_2 rfl ?_
  refine g_iload_n hZ dX1_neighboursOf_3 rfl ?_
  refine g_callV hZ (t_X1_has E S n g3 hn (f : Int) (by omega)) kX1_32 ⟨by decide, by decide⟩ rfl rfl rfl rfl (Nat.le_of_ble_eq_true rfl) dX1_neighboursOf_4 ?_
  rintro _ _ ⟨rfl, z, rfl, hz⟩
  rcases hz with ⟨rfl, hz⟩ | ⟨rfl, hz⟩
  · refine g_if_ne hZ 12 dX1_neighboursOf_7 rfl (by omega) (fun _ => ?_) (fun cX => absurd cX (by omega))
    refine g_iconst hZ dX1_neighboursOf_12 ?_
    refine g_istore_n hZ dX1_neighboursOf_13 (by decide) ?_
    refine loop 8 0 0 _ rfl (fun k => ?_) rfl
    rw [Nat.zero_testBit]
    constructor
    · intro q; cases q
    · rintro ⟨e, q1, -⟩; omega
  · exact absurd (by omega) hz
