/-! the reference: moves, history -/
theorem seenB_free {w h n a b : Nat} {F : Nat → Bool} (hg : gOK w h n) (ha : a < n) (hb : b < n) (hs : seenB w F a b = true) : F b = true ∧ a ≠ b := by
  unfold seenB at hs
  obtain ⟨h1, h2⟩ := Bool.and_eq_true_iff.mp hs
  obtain ⟨g1, g2⟩ := gst_ok hg ha hb h1
  have h3 := List.all_eq_true.mp h2 (gm w a b - 1) (List.mem_range.mpr (by omega))
  rw [show gm w a b - 1 + 1 = gm w a b by omega, ((g2 _ (Nat.le_refl _)).2.2).mpr rfl] at h3
  exact ⟨h3, (galg_iff.mp h1).1⟩
theorem cntZ_set (B : Nat → Int) (x : Nat) (v z : Int) : ∀ n, cntZ (fun f => if f = x then v else B f) z n + (if x < n ∧ B x = z then 1 else 0) = cntZ B z n + (if x < n ∧ v = z then 1 else 0)
  | 0 => by simp [cntZ]
  | n + 1 => by
    have ih := cntZ_set B x v z n
    rw [cntZ, cntZ]
    by_cases h1 : n = x
    · subst h1
      simp only [Nat.lt_irrefl, false_and, if_false, Nat.lt_succ_self, true_and, if_true] at ih ⊢
      omega
    · have h2 : (x < n + 1) = (x < n) := by rw [eq_iff_iff]; omega
      simp only [h2, if_neg h1] at ih ⊢
      omega
/-- the board behind a move -/
def aftB (B : Nat → Int) (q : Nat × Nat × Nat) (s : Int) : Nat → Int := fun f => if f = q.2.2 then 3 else if f = q.2.1 then s else if f = q.1 then 0 else B f
theorem mvs_facts {w h n : Nat} {B : Nat → Int} {s : Int} {q : Nat × Nat × Nat} (hg : gOK w h n) (hs : s ≠ 0) (hq : q ∈ mvs w n B s) : q.1 < n ∧ q.2.1 < n ∧ q.2.2 < n ∧ B q.1 = s ∧ B q.2.1 = 0 ∧ q.1 ≠ q.2.1 ∧ q.2.1 ≠ q.2.2 ∧ (q.2.2 = q.1 ∨ B q.2.2 = 0) := by
  obtain ⟨h1, h2, h3, h4, h5, h6⟩ := mvs_in hq
  have f1 := seenB_free hg h1 h2 h5
  have f2 := seenB_free hg h2 h3 h6
  refine ⟨h1, h2, h3, h4, by simpa [frB] using f1.1, f1.2, f2.2, ?_⟩
  have f3 := f2.1
  unfold frB brB at f3
  have nne : ¬ q.2.2 = q.2.1 := fun e => f2.2 e.symm
  simp only [decide_eq_true_eq, nne, if_false] at f3
  by_cases e : q.2.2 = q.1
  · exact Or.inl e
  · rw [if_neg e] at f3; exact Or.inr f3
theorem aftB_cnt {w h n : Nat} {B : Nat → Int} {s v : Int} {q : Nat × Nat × Nat} (hg : gOK w h n) (hs : s = 1 ∨ s = 2) (hq : q ∈ mvs w n B s) (hv : v = 1 ∨ v = 2) : cntZ (aftB B q s) v n = cntZ B v n := by
  obtain ⟨h1, h2, h3, h4, h5, h6, h7, h8⟩ := mvs_facts hg (by omega) hq
  have e1 := cntZ_set B q.1 0 v n
  have e2 := cntZ_set (fun f => if f = q.1 then 0 else B f) q.2.1 s v n
  have e3 := cntZ_set (fun f => if f = q.2.1 then s else if f = q.1 then 0 else B f) q.2.2 3 v n
  have e4 : (fun f => if f = q.2.2 then 3 else (fun f => if f = q.2.1 then s else if f = q.1 then 0 else B f) f) = aftB B q s := rfl
  have z1 : (if q.2.1 = q.1 then (0 : Int) else B q.2.1) = 0 := by split <;> omega
  have z2 : (if q.2.2 = q.2.1 then s else if q.2.2 = q.1 then (0 : Int) else B q.2.2) = 0 := by
    rw [if_neg (fun e => h7 e.symm)]
    rcases h8 with h8 | h8
    · rw [if_pos h8]
    · split <;> omega
  simp only [z1] at e2
  simp only [z2] at e3
  rw [e4] at e3
  rw [h4] at e1
  have n0 : ¬ ((0 : Int) = v) := by omega
  have n3 : ¬ ((3 : Int) = v) := by omega
  simp only [n0, n3, and_false, if_false, h1, h2, h3, true_and] at e1 e2 e3
  omega
theorem aftB_bd {n : Nat} {B : Nat → Int} {s : Int} {q : Nat × Nat × Nat} (hB : mBd B n) (hs : s = 1 ∨ s = 2) : mBd (aftB B q s) n := by
  intro k hk
  have := hB k hk
  unfold aftB
  split
  · omega
  · split
    · omega
    · split <;> omega
theorem brB_bd {n : Nat} {B : Nat → Int} {s : Int} {a t : Nat} (hB : mBd B n) (hs : s = 1 ∨ s = 2) : mBd (brB B a t s) n := by
  intro k hk
  have := hB k hk
  unfold brB
  split
  · omega
  · split <;> omega
theorem t_X9_isSeen (E : gE) (S : gS) (w h n : Nat) (hg : mG S w h n) (hB : mBd (S 61) n) (f g : Int) (hf : R32 f) (hg2 : R32 g) : Ct E LAY mX9_isSeen [.ref (gad E 27), iV f, iV g] S (fun r S' => Eqx [62] S S' ∧ r = some (iV (if 0 ≤ f ∧ f < n ∧ 0 ≤ g ∧ g < n then (if seenB w (frB (S 61)) f.toNat g.toNat = true then 1 else 0) else -1001))) := by
  have hn := hg.n15
  refine Ct.intro LAY_ok (by decide +kernel) (Nat.le_of_ble_eq_true rfl) rfl ?_
  intro Z hZ
  refine g_aload_n hZ dX9_isSeen_0 rfl ?_
  refine g_iload_n hZ dX9_isSeen_1 rfl ?_
  refine g_callV hZ (t_X9_isField E S w h n hg f hf) kX9_77 ⟨by decide, by decide⟩ rfl rfl rfl rfl (Nat.le_of_ble_eq_true rfl) dX9_isSeen_2 ?_
  rintro _ _ ⟨rfl, z1, rfl, hz1⟩
  rcases hz1 with ⟨rfl, hz1⟩ | ⟨rfl, hz1⟩
  · refine g_if_eq hZ 16 dX9_isSeen_5 rfl (by omega) (fun cX => absurd cX (by omega)) (fun _ => ?_)
    refine g_aload_n hZ dX9_isSeen_8 rfl ?_
    refine g_iload_n hZ dX9_isSeen_9 rfl ?_
    refine g_callV hZ (t_X9_isField E S w h n hg g hg2) kX9_77 ⟨by decide, by decide⟩ rfl rfl rfl rfl (Nat.le_of_ble_eq_true rfl) dX9_isSeen_10 ?_
    rintro _ _ ⟨rfl, z2, rfl, hz2⟩
    rcases hz2 with ⟨rfl, hz2⟩ | ⟨rfl, hz2⟩
    · refine g_if_ne hZ 20 dX9_isSeen_13 rfl (by omega) (fun _ => ?_) (fun cX => absurd cX (by omega))
      refine g_aload_n hZ dX9_isSeen_20 rfl ?_
      refine g_callV hZ (t_X9_shows E S) kX9_95 ⟨by decide, by decide⟩ rfl rfl rfl rfl (Nat.le_of_ble_eq_true rfl) dX9_isSeen_21 ?_
      rintro _ _ ⟨rfl, rfl⟩
      have he₁ : Eqx [62] S (setRow S 62 15 (S 61)) := Eqx.rf.row rfl
      have h62 : ∀ k, k < n → setRow S 62 15 (S 61) 62 k = S 61 k := fun k hk => setRow_in S (S 61) (by omega)
      have hg₁ := hg.x he₁ rfl rfl
      have e1 : f = ((f.toNat : Nat) : Int) := (Int.toNat_of_nonneg hz1.1).symm
      have e2 : g = ((g.toNat : Nat) : Int) := (Int.toNat_of_nonneg hz2.1).symm
      refine g_aload_n hZ dX9_isSeen_24 rfl ?_
      refine g_iload_n hZ dX9_isSeen_25 rfl ?_
      refine g_iload_n hZ dX9_isSeen_26 rfl ?_
      refine g_callV hZ (As := [iV f, iV g]) (by rw [e1, e2]; exact t_X9_sees E _ w h n hg₁ f.toNat g.toNat (by omega) (by omega) (fun k hk => by rw [h62 k hk]; exact hB k hk)) kX9_98 ⟨by decide, by decide⟩ rfl rfl rfl rfl (Nat.le_of_ble_eq_true rfl) dX9_isSeen_27 ?_
      rintro _ _ ⟨rfl, z3, rfl, hz3⟩
      have hz4 : isB z3 (seenB w (frB (S 61)) f.toNat g.toNat = true) := isB_iff hz3 (by rw [seenB_cong hg.2.2 (by omega) (by omega) (F := frB (setRow S 62 15 (S 61) 62)) (G := frB (S 61)) (fun k hk => by unfold frB; rw [h62 k hk])])
      rcases hz4 with ⟨rfl, hz4⟩ | ⟨rfl, hz4⟩
      · refine g_if_eq hZ 37 dX9_isSeen_30 rfl (by omega) (fun cX => absurd cX (by omega)) (fun _ => ?_)
        refine g_iconst hZ dX9_isSeen_33 ?_
        refine g_goto hZ 38 dX9_isSeen_34 rfl ?_
        refine g_iret hZ dX9_isSeen_38 rfl ⟨he₁, by rw [if_pos ⟨hz1.1, hz1.2, hz2.1, hz2.2⟩, if_pos hz4]⟩
      · refine g_if_eq hZ 37 dX9_isSeen_30 rfl (by omega) (fun _ => ?_) (fun cX => absurd (by omega) cX)
        refine g_iconst hZ dX9_isSeen_37 ?_
        refine g_iret hZ dX9_isSeen_38 rfl ⟨he₁, by rw [if_pos ⟨hz1.1, hz1.2, hz2.1, hz2.2⟩, if_neg hz4]⟩
    · refine g_if_ne hZ 20 dX9_isSeen_13 rfl (by omega) (fun cX => absurd (by omega) cX) (fun _ => ?_)
      refine g_sipush hZ (z := (-1001)) dX9_isSeen_16 rfl ?_
      refine g_iret hZ dX9_isSeen_19 rfl ⟨Eqx.rf, by rw [if_neg (by omega)]⟩
  · refine g_if_eq hZ 16 dX9_isSeen_5 rfl (by omega) (fun _ => ?_) (fun cX => absurd (by omega) cX)
    refine g_sipush hZ (z := (-1001)) dX9_isSeen_16 rfl ?_
    refine g_iret hZ dX9_isSeen_19 rfl ⟨Eqx.rf, by rw [if_neg (by omega)]⟩
/-- the list of moves as far as l -/
def MV (S S1 : gS) (l : List (Nat × Nat × Nat)) : Prop := Eqx [55, 62, 66] S S1 ∧ S1 55 0 = (l.length : Int) ∧ HL menc (S1 66) l
theorem MV.to {S S1 : gS} {l l2 : List (Nat × Nat × Nat)} (h : MV S S1 l) (e : l = l2) : MV S S1 l2 := e ▸ h
theorem MV.b {S S1 : gS} {l : List (Nat × Nat × Nat)} {j : Nat} {z : Int} (h : MV S S1 l) : MV S (upS S1 62 j z) l := ⟨h.1.up rfl, h.2.1, h.2.2⟩
theorem t_X9_lists (E : gE) (S : gS) (w h n : Nat) (hg : mG S w h n) (hB : mBd (S 62) n) (s : Int) (hs : s = 1 ∨ s = 2) (hc : cntZ (S 62) s n ≤ 3) : Ct E LAY mX9_lists [.ref (gad E 27), iV s] S (fun r S' => r = none ∧ MV S S' (mvs w n (S 62) s) ∧ S' 62 = S 62) := by
  have hn := hg.n15
  have hO := hg.2.2
  refine Ct.intro LAY_ok (by decide +kernel) (Nat.le_of_ble_eq_true rfl) rfl ?_
  intro Z hZ
  have outer : ∀ (m a : Nat) (S1 : gS), a + m = n → MV S S1 ((List.range a).flatMap (mvA w n (S 62) s)) → S1 62 = S 62 → Z S1 [(0, .ref (gad E 27)), (1, iV s), (2, iV (a : Int))] 7 [] := by
    intro m
    induction m with
    | zero =>
      intro a S1 ha hm hb
      have hg₁ := hg.x hm.1 rfl rfl
      refine g_iload_n hZ dX9_lists_7 rfl ?_
      refine g_aload_n hZ dX9_lists_8 rfl ?_
      refine g_callV hZ (t_X9_size E S1 w h n hg₁) kX9_60 ⟨by decide, by decide⟩ rfl rfl rfl rfl (Nat.le_of_ble_eq_true rfl) dX9_lists_9 ?_
      rintro _ _ ⟨rfl, rfl⟩
      refine g_icmp_ge hZ 144 dX9_lists_12 rfl (by omega) (fun _ => ?_) (fun cX => absurd (by omega) cX)
      refine g_vret hZ dX9_lists_144 rfl ⟨rfl, hm.to (by rw [show a = n by omega]; rfl), hb⟩
    | succ m ih =>
      intro a S1 ha hm hb
      have next : ∀ (S2 : gS), MV S S2 ((List.range a).flatMap (mvA w n (S 62) s) ++ mvA w n (S 62) s a) → S2 62 = S 62 → Z S2 [(0, .ref (gad E 27)), (1, iV s), (2, iV (a : Int))] 138 [] := by
        intro S2 hm2 hb2
        refine g_iinc hZ dX9_lists_138 rfl (by decide) ?_
        refine g_goto hZ 7 dX9_lists_141 rfl ?_
        exact ih (a + 1) S2 (by omega) (hm2.to (by rw [List.range_succ, List.flatMap_append]; simp)) hb2
      have mid : S 62 a = s → ∀ (m2 t : Nat) (S2 : gS), t + m2 = n → MV S S2 ((List.range a).flatMap (mvA w n (S 62) s) ++ (List.range t).flatMap (mvT w n (S 62) s a)) → S2 62 = S 62 → Z S2 [(0, .ref (gad E 27)), (1, iV s), (2, iV (a : Int)), (3, iV (t : Int))] 17 [] := by
        intro hsa m2
        have hca : cntZ (S 62) s a ≤ 2 := by
          have h1 : cntZ (S 62) s (a + 1) = cntZ (S 62) s a + (if S 62 a = s then 1 else 0) := rfl
          have h2 := cntZ_mono (S 62) s (show a + 1 ≤ n by omega)
          rw [if_pos hsa] at h1
          omega
        have hPl := mvsp_len (w := w) (n := n) (B := S 62) (s := s) hn a (by omega)
        induction m2 with
        | zero =>
          intro t S2 ht hm2 hb2
          have hg₂ := hg.x hm2.1 rfl rfl
          refine g_iload_n hZ dX9_lists_17 rfl ?_
          refine g_aload_n hZ dX9_lists_18 rfl ?_
          refine g_callV hZ (t_X9_size E S2 w h n hg₂) kX9_60 ⟨by decide, by decide⟩ rfl rfl rfl rfl (Nat.le_of_ble_eq_true rfl) dX9_lists_19 ?_
          rintro _ _ ⟨rfl, rfl⟩
          refine g_icmp_ge hZ 138 dX9_lists_22 rfl (by omega) (fun _ => ?_) (fun cX => absurd (by omega) cX)
          refine g_keep hZ [0, 1, 2] rfl (next S2 (hm2.to ?_) hb2)
          rw [show t = n by omega]
          unfold mvA
          rw [if_pos hsa]
        | succ m2 ih2 =>
          intro t S2 ht hm2 hb2
          have hg₂ := hg.x hm2.1 rfl rfl
          have hPt := mvAp_len (w := w) (n := n) (B := S 62) (s := s) (a := a) (m := t) hn (by omega) (by omega)
          have step : ∀ (S3 : gS), MV S S3 ((List.range a).flatMap (mvA w n (S 62) s) ++ (List.range t).flatMap (mvT w n (S 62) s a) ++ mvT w n (S 62) s a t) → S3 62 = S 62 → Z S3 [(0, .ref (gad E 27)), (1, iV s), (2, iV (a : Int)), (3, iV (t : Int))] 132 [] := by
            intro S3 hm3 hb3
            refine g_iinc hZ dX9_lists_132 rfl (by decide) ?_
            refine g_goto hZ 17 dX9_lists_135 rfl ?_
            exact ih2 (t + 1) S3 (by omega) (hm3.to (by rw [List.range_succ, List.flatMap_append, List.append_assoc]; simp)) hb3
          refine g_iload_n hZ dX9_lists_17 rfl ?_
          refine g_aload_n hZ dX9_lists_18 rfl ?_
          refine g_callV hZ (t_X9_size E S2 w h n hg₂) kX9_60 ⟨by decide, by decide⟩ rfl rfl rfl rfl (Nat.le_of_ble_eq_true rfl) dX9_lists_19 ?_
          rintro _ _ ⟨rfl, rfl⟩
          refine g_icmp_ge hZ 138 dX9_lists_22 rfl (by omega) (fun cX => absurd cX (by omega)) (fun _ => ?_)
          refine g_aload_n hZ dX9_lists_25 rfl ?_
          refine g_getr hZ fX9_20 rfl rfl dX9_lists_26 ?_
          refine g_iload_n hZ dX9_lists_29 rfl ?_
          refine g_iald hZ (a) rfl dX9_lists_30 (rfl) (by omega) (by decide) ((congrFun hb2 a).trans hsa) ?_
          refine g_iload_n hZ dX9_lists_31 rfl ?_
          refine g_icmp_ne hZ 138 dX9_lists_32 rfl (by omega) (fun cX => absurd (by omega) cX) (fun _ => ?_)
          refine g_aload_n hZ dX9_lists_35 rfl ?_
          refine g_iload_n hZ dX9_lists_36 rfl ?_
          refine g_iload_n hZ dX9_lists_37 rfl ?_
          have hB₂ : mBd (S2 62) n := by rw [hb2]; exact hB
          refine g_callV hZ (t_X9_sees E S2 w h n hg₂ a t (by omega) (by omega) hB₂) kX9_98 ⟨by decide, by decide⟩ rfl rfl rfl rfl (Nat.le_of_ble_eq_true rfl) dX9_lists_38 ?_
          rintro _ _ ⟨rfl, z, rfl, hz⟩
          rw [hb2] at hz
          rcases hz with ⟨rfl, hz⟩ | ⟨rfl, hz⟩
          · refine g_if_eq hZ 132 dX9_lists_41 rfl (by omega) (fun cX => absurd cX (by omega)) (fun _ => ?_)
            refine g_aload_n hZ dX9_lists_44 rfl ?_
            refine g_getr hZ fX9_20 rfl rfl dX9_lists_45 ?_
            refine g_iload_n hZ dX9_lists_48 rfl ?_
            refine g_iconst hZ dX9_lists_49 ?_
            refine g_iast hZ (a) rfl dX9_lists_50 (rfl) (by omega) (by decide) ?_
            refine g_aload_n hZ dX9_lists_51 rfl ?_
            refine g_getr hZ fX9_20 rfl rfl dX9_lists_52 ?_
            refine g_iload_n hZ dX9_lists_55 rfl ?_
            refine g_iload_n hZ dX9_lists_56 rfl ?_
            refine g_iast hZ (t) rfl dX9_lists_57 (rfl) (by omega) (by decide) ?_
            refine g_iconst hZ dX9_lists_58 ?_
            refine g_istore hZ dX9_lists_59 (by decide) ?_
            have inner : ∀ (m3 u : Nat) (S3 : gS), u + m3 = n → MV S S3 ((List.range a).flatMap (mvA w n (S 62) s) ++ (List.range t).flatMap (mvT w n (S 62) s a) ++ ((List.range u).filter (seenB w (frB (brB (S 62) a t s)) t)).map (fun u => (a, t, u))) → S3 62 = brB (S 62) a t s → Z S3 [(0, .ref (gad E 27)), (1, iV s), (2, iV (a : Int)), (3, iV (t : Int)), (4, iV (u : Int))] 61 [] := by
              intro m3
              induction m3 with
              | zero =>
                intro u S3 hu hm3 hb3
                have hg₃ := hg.x hm3.1 rfl rfl
                refine g_iload hZ dX9_lists_61 rfl ?_
                refine g_aload_n hZ dX9_lists_63 rfl ?_
                refine g_callV hZ (t_X9_size E S3 w h n hg₃) kX9_60 ⟨by decide, by decide⟩ rfl rfl rfl rfl (Nat.le_of_ble_eq_true rfl) dX9_lists_64 ?_
                rintro _ _ ⟨rfl, rfl⟩
                refine g_icmp_ge hZ 118 dX9_lists_67 rfl (by omega) (fun _ => ?_) (fun cX => absurd (by omega) cX)
                refine g_aload_n hZ dX9_lists_118 rfl ?_
                refine g_getr hZ fX9_20 rfl rfl dX9_lists_119 ?_
                refine g_iload_n hZ dX9_lists_122 rfl ?_
                refine g_iconst hZ dX9_lists_123 ?_
                refine g_iast hZ (t) rfl dX9_lists_124 (rfl) (by omega) (by decide) ?_
                refine g_aload_n hZ dX9_lists_125 rfl ?_
                refine g_getr hZ fX9_20 rfl rfl dX9_lists_126 ?_
                refine g_iload_n hZ dX9_lists_129 rfl ?_
                refine g_iload_n hZ dX9_lists_130 rfl ?_
                refine g_iast hZ (a) rfl dX9_lists_131 (rfl) (by omega) (by decide) ?_
                refine g_keep hZ [0, 1, 2, 3] rfl (step _ (MV.b (MV.b (hm3.to ?_))) ?_)
                · rw [show u = n by omega]
                  unfold mvT
                  rw [if_pos hz]; rfl
                · funext k
                  have hk := congrFun hb3 k
                  have ft : S 62 t = 0 := by simpa [frB] using (seenB_free hO (show a < n by omega) (show t < n by omega) hz).1
                  rw [upS_if, upS_if]
                  unfold brB at hk
                  by_cases e1 : k = a
                  · rw [if_pos ⟨rfl, e1⟩, e1, hsa]
                  · rw [if_neg (fun q => e1 q.2)]
                    by_cases e2 : k = t
                    · rw [if_pos ⟨rfl, e2⟩, e2, ft]
                    · rw [if_neg (fun q => e2 q.2), hk, if_neg e2, if_neg e1]
              | succ m3 ih3 =>
                intro u S3 hu hm3 hb3
                have hg₃ := hg.x hm3.1 rfl rfl
                have hB₃ : mBd (S3 62) n := by rw [hb3]; exact brB_bd hB hs
                have hPu := burns_len (w := w) (n := n) (B := S 62) (s := s) (a := a) (t := t) (m := u) hn (by omega) (by omega)
                have hlen := hm3.2.1
                have hll : ((List.range a).flatMap (mvA w n (S 62) s) ++ (List.range t).flatMap (mvT w n (S 62) s a) ++ ((List.range u).filter (seenB w (frB (brB (S 62) a t s)) t)).map (fun u => (a, t, u))).length < 700 := by
                  rw [List.length_append, List.length_append, List.length_map]; omega
                have hr : (List.range (u + 1)).filter (seenB w (frB (brB (S 62) a t s)) t) = (List.range u).filter (seenB w (frB (brB (S 62) a t s)) t) ++ [u].filter (seenB w (frB (brB (S 62) a t s)) t) := by rw [List.range_succ, List.filter_append]
                generalize ((List.range a).flatMap (mvA w n (S 62) s) ++ (List.range t).flatMap (mvT w n (S 62) s a)) = P9 at *
                refine g_iload hZ dX9_lists_61 rfl ?_
                refine g_aload_n hZ dX9_lists_63 rfl ?_
                refine g_callV hZ (t_X9_size E S3 w h n hg₃) kX9_60 ⟨by decide, by decide⟩ rfl rfl rfl rfl (Nat.le_of_ble_eq_true rfl) dX9_lists_64 ?_
                rintro _ _ ⟨rfl, rfl⟩
                refine g_icmp_ge hZ 118 dX9_lists_67 rfl (by omega) (fun cX => absurd cX (by omega)) (fun _ => ?_)
                refine g_aload_n hZ dX9_lists_70 rfl ?_
                refine g_iload_n hZ dX9_lists_71 rfl ?_
                refine g_iload hZ dX9_lists_72 rfl ?_
                refine g_callV hZ (t_X9_sees E S3 w h n hg₃ t u (by omega) (by omega) hB₃) kX9_98 ⟨by decide, by decide⟩ rfl rfl rfl rfl (Nat.le_of_ble_eq_true rfl) dX9_lists_74 ?_
                rintro _ _ ⟨rfl, z, rfl, hz3⟩
                rw [hb3] at hz3
                rcases hz3 with ⟨rfl, hz3⟩ | ⟨rfl, hz3⟩
                · refine g_if_eq hZ 112 dX9_lists_77 rfl (by omega) (fun cX => absurd cX (by omega)) (fun _ => ?_)
                  refine g_aload_n hZ dX9_lists_80 rfl ?_
                  refine g_getr hZ fX9_32 rfl rfl dX9_lists_81 ?_
                  refine g_aload_n hZ dX9_lists_84 rfl ?_
                  refine g_geti hZ fX9_102 rfl rfl dX9_lists_85 hlen ?_
                  refine g_sipush hZ (z := 225) dX9_lists_88 rfl ?_
                  refine g_iload_n hZ dX9_lists_91 rfl ?_
                  refine g_imul hZ dX9_lists_92 ?_
                  refine g_bipush hZ (z := 15) dX9_lists_93 rfl ?_
                  refine g_iload_n hZ dX9_lists_95 rfl ?_
                  refine g_imul hZ dX9_lists_96 ?_
                  refine g_iadd hZ dX9_lists_97 ?_
                  refine g_iload hZ dX9_lists_98 rfl ?_
                  refine g_iadd hZ dX9_lists_100 ?_
                  refine g_iast hZ (_) rfl dX9_lists_101 (rfl) (by omega) (by decide) ?_
                  refine g_aload_n hZ dX9_lists_102 rfl ?_
                  refine g_dup hZ dX9_lists_103 rfl ?_
                  refine g_geti hZ fX9_102 rfl rfl dX9_lists_104 hlen ?_
                  refine g_iconst hZ dX9_lists_107 ?_
                  refine g_iadd hZ dX9_lists_108 ?_
                  refine g_puti hZ fX9_102 rfl rfl dX9_lists_109 ?_
                  refine g_iinc hZ dX9_lists_112 rfl (by decide) ?_
                  refine g_goto hZ 61 dX9_lists_115 rfl ?_
                  refine ih3 (u + 1) _ (by omega) ⟨(hm3.1.up rfl).up rfl, ?_, ?_⟩ ?_
                  · rw [hr, List.map_append, ← List.append_assoc, List.length_append]
                    simp [hz3]
                    exact upS_eq _ _ _ _
                  · rw [hr, List.map_append, ← List.append_assoc, show ([u].filter (seenB w (frB (brB (S 62) a t s)) t)).map (fun u => (a, t, u)) = [(a, t, u)] by simp [hz3]]
                    refine HL_add hm3.2.2 (fun k hk => ?_) ?_
                    · rw [upS_v _ _ (by decide), upS_j _ _ (by omega)]
                    · rw [upS_v _ _ (by decide), upS_eq]; rfl
                  · exact hb3
                · refine g_if_eq hZ 112 dX9_lists_77 rfl (by omega) (fun _ => ?_) (fun cX => absurd (by omega) cX)
                  refine g_iinc hZ dX9_lists_112 rfl (by decide) ?_
                  refine g_goto hZ 61 dX9_lists_115 rfl ?_
                  refine ih3 (u + 1) _ (by omega) (hm3.to ?_) hb3
                  rw [hr, show [u].filter (seenB w (frB (brB (S 62) a t s)) t) = [] by simp [hz3], List.append_nil]
            refine inner n 0 _ (by omega) (MV.b (MV.b (hm2.to ?_))) ?_
            · simp
            · funext k
              have hk := congrFun hb2 k
              rw [upS_if, upS_if]
              unfold brB
              by_cases e2 : k = t
              · rw [if_pos ⟨rfl, e2⟩, if_pos e2]
              · rw [if_neg (fun q => e2 q.2), if_neg e2]
                by_cases e1 : k = a
                · rw [if_pos ⟨rfl, e1⟩, if_pos e1]
                · rw [if_neg (fun q => e1 q.2), if_neg e1, hk]
          · refine g_if_eq hZ 132 dX9_lists_41 rfl (by omega) (fun _ => ?_) (fun cX => absurd (by omega) cX)
            refine step S2 (hm2.to ?_) hb2
            unfold mvT
            rw [if_neg hz, List.append_nil]
      have hg₁ := hg.x hm.1 rfl rfl
      refine g_iload_n hZ dX9_lists_7 rfl ?_
      refine g_aload_n hZ dX9_lists_8 rfl ?_
      refine g_callV hZ (t_X9_size E S1 w h n hg₁) kX9_60 ⟨by decide, by decide⟩ rfl rfl rfl rfl (Nat.le_of_ble_eq_true rfl) dX9_lists_9 ?_
      rintro _ _ ⟨rfl, rfl⟩
      refine g_icmp_ge hZ 144 dX9_lists_12 rfl (by omega) (fun cX => absurd cX (by omega)) (fun _ => ?_)
      refine g_iconst hZ dX9_lists_15 ?_
      refine g_istore_n hZ dX9_lists_16 (by decide) ?_
      by_cases hsa : S 62 a = s
      · exact mid hsa n 0 S1 (by omega) (hm.to (by simp)) hb
      · have hBa := hB a (by omega)
        refine g_iload_n hZ dX9_lists_17 rfl ?_
        refine g_aload_n hZ dX9_lists_18 rfl ?_
        refine g_callV hZ (t_X9_size E S1 w h n hg₁) kX9_60 ⟨by decide, by decide⟩ rfl rfl rfl rfl (Nat.le_of_ble_eq_true rfl) dX9_lists_19 ?_
        rintro _ _ ⟨rfl, rfl⟩
        refine g_icmp_ge hZ 138 dX9_lists_22 rfl (by omega) (fun cX => absurd cX (by omega)) (fun _ => ?_)
        refine g_aload_n hZ dX9_lists_25 rfl ?_
        refine g_getr hZ fX9_20 rfl rfl dX9_lists_26 ?_
        refine g_iload_n hZ dX9_lists_29 rfl ?_
        refine g_iald hZ (a) rfl dX9_lists_30 (rfl) (by omega) (by decide) (congrFun hb a) ?_
        refine g_iload_n hZ dX9_lists_31 rfl ?_
        refine g_icmp_ne hZ 138 dX9_lists_32 rfl (by omega) (fun _ => ?_) (fun cX => absurd cX hsa)
        refine g_keep hZ [0, 1, 2] rfl (next S1 (hm.to ?_) hb)
        unfold mvA
        rw [if_neg hsa, List.append_nil]
  refine g_aload_n hZ dX9_lists_0 rfl ?_
  refine g_iconst hZ dX9_lists_1 ?_
  refine g_puti hZ fX9_102 rfl rfl dX9_lists_2 ?_
  refine g_iconst hZ dX9_lists_5 ?_
  refine g_istore_n hZ dX9_lists_6 (by decide) ?_
  refine outer n 0 _ (by omega) ⟨Eqx.rf.up rfl, upS_eq _ _ _ _, ?_⟩ rfl
  exact HL_nil _ _
theorem t_X9_movesNow (E : gE) (S : gS) (w h n : Nat) (hg : mG S w h n) (hB : mBd (S 61) n) (s : Int) (hs : s = 1 ∨ s = 2) (hc : cntZ (S 61) s n ≤ 3) : Ct E LAY mX9_movesNow [.ref (gad E 27), iV s] S (fun r S' => r = some (iV ((mvs w n (S 61) s).length : Int)) ∧ MV S S' (mvs w n (S 61) s) ∧ ∀ k, k < 15 → S' 62 k = S 61 k) := by
  have hn := hg.n15
  refine Ct.intro LAY_ok (by decide +kernel) (Nat.le_of_ble_eq_true rfl) rfl ?_
  intro Z hZ
  refine g_aload_n hZ dX9_movesNow_0 rfl ?_
  refine g_callV hZ (t_X9_shows E S) kX9_95 ⟨by decide, by decide⟩ rfl rfl rfl rfl (Nat.le_of_ble_eq_true rfl) dX9_movesNow_1 ?_
  rintro _ _ ⟨rfl, rfl⟩
  have he₁ : Eqx [62] S (setRow S 62 15 (S 61)) := Eqx.rf.row rfl
  have h62 : ∀ k, k < 15 → setRow S 62 15 (S 61) 62 k = S 61 k := fun k hk => setRow_in S (S 61) hk
  have hg₁ := hg.x he₁ rfl rfl
  have em : mvs w n (setRow S 62 15 (S 61) 62) s = mvs w n (S 61) s := mvs_cong hg.2.2 (fun k hk => h62 k (by omega))
  refine g_aload_n hZ dX9_movesNow_4 rfl ?_
  refine g_iload_n hZ dX9_movesNow_5 rfl ?_
  refine g_callV hZ (t_X9_lists E _ w h n hg₁ (fun k hk => by rw [h62 k (by omega)]; exact hB k hk) s hs (by rw [cntZ_cong (fun k hk => h62 k (by omega))]; exact hc)) kX9_105 ⟨by decide, by decide⟩ rfl rfl rfl rfl (Nat.le_of_ble_eq_true rfl) dX9_movesNow_6 ?_
  rintro _ S₁ ⟨rfl, hm₁, hb₁⟩
  rw [em] at hm₁
  refine g_aload_n hZ dX9_movesNow_9 rfl ?_
  refine g_geti hZ fX9_102 rfl rfl dX9_movesNow_10 hm₁.2.1 ?_
  refine g_iret hZ dX9_movesNow_13 rfl ⟨rfl, ⟨(he₁.mono rfl).tr hm₁.1, hm₁.2.1, hm₁.2.2⟩, fun k hk => by rw [hb₁]; exact h62 k hk⟩
