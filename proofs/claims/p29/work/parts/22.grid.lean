/-! the class: Grid -/
def plc (d : Nat) : Nat := if d < 4 then d else d + 1
def nxF (w h f d : Nat) : Int := if 0 ≤ ((f % w : Nat) : Int) + (((plc d % 3 : Nat) : Int) - 1) ∧ ((f % w : Nat) : Int) + (((plc d % 3 : Nat) : Int) - 1) < (w : Int) ∧ 0 ≤ ((f / w : Nat) : Int) + (((plc d / 3 : Nat) : Int) - 1) ∧ ((f / w : Nat) : Int) + (((plc d / 3 : Nat) : Int) - 1) < (h : Int) then (w : Int) * (((f / w : Nat) : Int) + (((plc d / 3 : Nat) : Int) - 1)) + (((f % w : Nat) : Int) + (((plc d % 3 : Nat) : Int) - 1)) else -1
def ryF (w h a d : Nat) : Nat → Int
  | 0 => (a : Int)
  | i + 1 => if ryF w h a d i < 0 then -1 else nxF w h (ryF w h a d i).toNat d
def gchk2 (w h : Nat) : Bool := (List.range (w * h)).all fun a => (List.range 8).all fun d => (decide (nxF w h a d = -1) || (decide (0 ≤ nxF w h a d) && decide (nxF w h a d < ((w * h : Nat) : Int))))
theorem gchk2_ok : gall gchk2 = true := by decide +kernel
def gchk3 (w h : Nat) : Bool := (List.range (w * h)).all fun a => (List.range 8).all fun d => (List.range 5).all fun i => decide (i = 0) || decide (ryF w h a d i < 0) || (galg w a (ryF w h a d i).toNat && decide (gm w a (ryF w h a d i).toNat = i) && ((List.range (i + 1)).all fun j => decide (ryF w h a d j = ((gst w a (ryF w h a d i).toNat j : Nat) : Int))))
theorem gchk3_ok : gall gchk3 = true := by decide +kernel
def gchk4 (w h : Nat) : Bool := (List.range (w * h)).all fun a => (List.range (w * h)).all fun b => !galg w a b || (decide (gm w a b ≤ 4) && (List.range 8).any fun d => decide (ryF w h a d (gm w a b) = (b : Int)))
theorem gchk4_ok : gall gchk4 = true := by decide +kernel
def gchk5 (w h : Nat) : Bool := (List.range (w * h)).all fun f => (List.range (w * h)).all fun g => (nearB w f g && decide (f ≠ g)) == (List.range 8).any fun d => decide (nxF w h f d = (g : Int))
theorem gchk5_ok : gall gchk5 = true := by decide +kernel
theorem nxF_bd {w h n f d : Nat} (hg : gOK w h n) (hf : f < n) (hd : d < 8) : nxF w h f d = -1 ∨ (0 ≤ nxF w h f d ∧ nxF w h f d < n) := by
  have q := gall_use gchk2_ok hg
  unfold gchk2 at q
  rw [hg.2.2.2.2.1] at q
  have q2 := List.all_eq_true.mp (List.all_eq_true.mp q f (List.mem_range.mpr hf)) d (List.mem_range.mpr hd)
  simp only [Bool.or_eq_true, Bool.and_eq_true, decide_eq_true_eq] at q2
  exact q2
theorem ryF_bd {w h n a d : Nat} (hg : gOK w h n) (ha : a < n) (hd : d < 8) : ∀ i, -1 ≤ ryF w h a d i ∧ ryF w h a d i < n
  | 0 => by rw [ryF]; omega
  | i + 1 => by
    have ih := ryF_bd hg ha hd i
    rw [ryF]
    split
    · omega
    · rcases nxF_bd (f := (ryF w h a d i).toNat) hg (by omega) hd with q | q <;> omega
theorem ryF_see {w h n a d i : Nat} (hg : gOK w h n) (ha : a < n) (hd : d < 8) (h1 : 1 ≤ i) (h4 : i ≤ 4) (h0 : 0 ≤ ryF w h a d i) : galg w a (ryF w h a d i).toNat = true ∧ gm w a (ryF w h a d i).toNat = i ∧ ∀ j, j ≤ i → ryF w h a d j = ((gst w a (ryF w h a d i).toNat j : Nat) : Int) := by
  have q := gall_use gchk3_ok hg
  unfold gchk3 at q
  rw [hg.2.2.2.2.1] at q
  have q2 := List.all_eq_true.mp (List.all_eq_true.mp (List.all_eq_true.mp q a (List.mem_range.mpr ha)) d (List.mem_range.mpr hd)) i (List.mem_range.mpr (by omega))
  simp only [Bool.or_eq_true, Bool.and_eq_true, decide_eq_true_eq, List.all_eq_true, List.mem_range] at q2
  rcases q2 with (q2 | q2) | q2
  · omega
  · omega
  · exact ⟨q2.1.1, q2.1.2, fun j hj => q2.2 j (by omega)⟩
theorem ryF_alg {w h n a b : Nat} (hg : gOK w h n) (ha : a < n) (hb : b < n) (hal : galg w a b = true) : gm w a b ≤ 4 ∧ ∃ d, d < 8 ∧ ryF w h a d (gm w a b) = (b : Int) := by
  have q := gall_use gchk4_ok hg
  unfold gchk4 at q
  rw [hg.2.2.2.2.1] at q
  have q2 := List.all_eq_true.mp (List.all_eq_true.mp q a (List.mem_range.mpr ha)) b (List.mem_range.mpr hb)
  rw [hal] at q2
  simp only [Bool.not_true, Bool.false_or, Bool.and_eq_true, decide_eq_true_eq, List.any_eq_true, List.mem_range] at q2
  exact q2
theorem near_nx {w h n f g : Nat} (hg : gOK w h n) (hf : f < n) (hg2 : g < n) : (nearB w f g = true ∧ f ≠ g) ↔ ∃ d, d < 8 ∧ nxF w h f d = (g : Int) := by
  have q := gall_use gchk5_ok hg
  unfold gchk5 at q
  rw [hg.2.2.2.2.1] at q
  have q2 := List.all_eq_true.mp (List.all_eq_true.mp q f (List.mem_range.mpr hf)) g (List.mem_range.mpr hg2)
  rw [beq_iff_eq, Bool.eq_iff_iff] at q2
  simp only [Bool.and_eq_true, decide_eq_true_eq, List.any_eq_true, List.mem_range] at q2
  exact q2
/-- the class's grid -/
def xG (S : gS) (w h n : Nat) : Prop := S 1 0 = (w : Int) ∧ S 2 0 = (h : Int) ∧ S 3 0 = (n : Int) ∧ S 4 0 = (andM n : Int) ∧ gOK w h n ∧ ∀ f d, f < n → d < 8 → S 5 (8 * f + d) = nxF w h f d
theorem xG.n15 {S : gS} {w h n : Nat} (hg : xG S w h n) : n ≤ 15 := hg.2.2.2.2.1.2.2.2.2.2
theorem xG.o {S : gS} {w h n : Nat} (hg : xG S w h n) : gOK w h n := hg.2.2.2.2.1
theorem xG.x {vs : List Nat} {S S1 : gS} {w h n : Nat} (hg : xG S w h n) (he : Eqx vs S S1) (h1 : ([1, 2, 3, 4, 5].any fun v => vs.contains v) = false) : xG S1 w h n := by
  have k : ∀ v, v = 1 ∨ v = 2 ∨ v = 3 ∨ v = 4 ∨ v = 5 → vs.contains v = false := by
    intro v hv
    cases q : vs.contains v with
    | false => rfl
    | true =>
      have : ([1, 2, 3, 4, 5].any fun v => vs.contains v) = true := List.any_eq_true.mpr ⟨v, by simp; omega, q⟩
      rw [this] at h1; cases h1
  exact ⟨(he 1 0 (k 1 (by omega))).trans hg.1, (he 2 0 (k 2 (by omega))).trans hg.2.1, (he 3 0 (k 3 (by omega))).trans hg.2.2.1, (he 4 0 (k 4 (by omega))).trans hg.2.2.2.1, hg.2.2.2.2.1, fun f d hf hd => (he 5 _ (k 5 (by omega))).trans (hg.2.2.2.2.2 f d hf hd)⟩
theorem t_X1_has (E : gE) (S : gS) (n : Nat) (hn : S 3 0 = (n : Int)) (hn2 : n ≤ 15) (f : Int) (hf : R32 f) : Ct E LAY mX1_has [.ref (gad E 1), iV f] S (fun r S' => S = S' ∧ ∃ z, r = some (iV z) ∧ isB z (0 ≤ f ∧ f < n)) := by
  refine Ct.intro LAY_ok (by decide +kernel) (Nat.le_of_ble_eq_true rfl) rfl ?_
  intro Z hZ
  refine g_iload_n hZ dX1_has_0 rfl ?_
  refine g_if_lt hZ 16 dX1_has_1 rfl (by omega) (fun c1 => ?_) (fun c1 => ?_)
  · refine g_iconst hZ dX1_has_16 ?_
    refine g_zret hZ dX1_has_17 rfl (Or.inl rfl) ⟨rfl, 0, rfl, Or.inr ⟨rfl, by omega⟩⟩
  · refine g_iload_n hZ dX1_has_4 rfl ?_
    refine g_aload_n hZ dX1_has_5 rfl ?_
    refine g_geti hZ fX1_22 rfl rfl dX1_has_6 hn ?_
    refine g_icmp_ge hZ 16 dX1_has_9 rfl (by omega) (fun c2 => ?_) (fun c2 => ?_)
    · refine g_iconst hZ dX1_has_16 ?_
      refine g_zret hZ dX1_has_17 rfl (Or.inl rfl) ⟨rfl, 0, rfl, Or.inr ⟨rfl, by omega⟩⟩
    · refine g_iconst hZ dX1_has_12 ?_
      refine g_goto hZ 17 dX1_has_13 rfl ?_
      refine g_zret hZ dX1_has_17 rfl (Or.inr rfl) ⟨rfl, 1, rfl, Or.inl ⟨rfl, by omega⟩⟩
theorem t_X1_stepFrom (E : gE) (lay : List gC) (hlay : lay = LX ∨ lay = LAY) (S : gS) (w h n : Nat) (hw : S 1 0 = (w : Int)) (hh : S 2 0 = (h : Int)) (hg : gOK w h n) (f d : Nat) (hf : f < n) (hd : d < 8) : Ct E lay mX1_stepFrom [.ref (gad E 1), iV (f : Int), iV (d : Int)] S (fun r S' => S = S' ∧ r = some (iV (nxF w h f d))) := by
  obtain ⟨o1, o2, o3, o4, o5, o6⟩ := id hg
  have hq : f / w < h := Nat.div_lt_of_lt_mul (by omega)
  have hr := Nat.mod_lt f (show 0 < w by omega)
  have hdm := Nat.div_add_mod f w
  have hpl : plc d ≤ 8 := by unfold plc; split <;> omega
  have hfn : f < 15 := by omega
  have hnx : nxF w h f d = if 0 ≤ ((f % w : Nat) : Int) + (((plc d % 3 : Nat) : Int) - 1) ∧ ((f % w : Nat) : Int) + (((plc d % 3 : Nat) : Int) - 1) < (w : Int) ∧ 0 ≤ ((f / w : Nat) : Int) + (((plc d / 3 : Nat) : Int) - 1) ∧ ((f / w : Nat) : Int) + (((plc d / 3 : Nat) : Int) - 1) < (h : Int) then (w : Int) * (((f / w : Nat) : Int) + (((plc d / 3 : Nat) : Int) - 1)) + (((f % w : Nat) : Int) + (((plc d % 3 : Nat) : Int) - 1)) else -1 := rfl
  generalize hqq : f / w = yq at *
  generalize hrr : f % w = xr at *
  rcases hlay with rfl | rfl
  all_goals
    refine Ct.intro (by first | exact LAY_ok | exact LX_ok) (by decide +kernel) (Nat.le_of_ble_eq_true rfl) rfl ?_
    intro Z hZ
    have tail : ∀ (v6 : Int), Z S [(0, .ref (gad E 1)), (1, iV (f : Int)), (2, iV (d : Int)), (3, iV (plc d : Int)), (4, iV ((yq : Nat) : Int)), (5, iV ((xr : Nat) : Int)), (6, iV v6)] 58 [] := by
      intro v6
      have hb3 := Nat.mod_lt (plc d) (show 0 < 3 by omega)
      have hb4 : plc d / 3 ≤ 2 := by omega
      refine g_iload hZ dX1_stepFrom_58 rfl ?_
      refine g_iload_n hZ dX1_stepFrom_60 rfl ?_
      refine g_iconst hZ dX1_stepFrom_61 ?_
      refine g_irem hZ (b := 3) dX1_stepFrom_62 (by omega) (by omega) (by omega) ?_
      refine g_iconst hZ dX1_stepFrom_63 ?_
      refine g_isub hZ dX1_stepFrom_64 ?_
      refine g_iadd hZ dX1_stepFrom_65 ?_
      refine g_istore hZ dX1_stepFrom_66 (by decide) ?_
      refine g_iload hZ dX1_stepFrom_68 rfl ?_
      refine g_iload_n hZ dX1_stepFrom_70 rfl ?_
      refine g_iconst hZ dX1_stepFrom_71 ?_
      refine g_idiv hZ (b := 3) dX1_stepFrom_72 (by omega) (by omega) (by omega) ?_
      refine g_iconst hZ dX1_stepFrom_73 ?_
      refine g_isub hZ dX1_stepFrom_74 ?_
      refine g_iadd hZ dX1_stepFrom_75 ?_
      refine g_istore hZ dX1_stepFrom_76 (by decide) ?_
      refine g_iload hZ dX1_stepFrom_78 rfl ?_
      have no : ¬ (0 ≤ ((xr : Nat) : Int) + (((plc d % 3 : Nat) : Int) - 1) ∧ ((xr : Nat) : Int) + (((plc d % 3 : Nat) : Int) - 1) < (w : Int) ∧ 0 ≤ ((yq : Nat) : Int) + (((plc d / 3 : Nat) : Int) - 1) ∧ ((yq : Nat) : Int) + (((plc d / 3 : Nat) : Int) - 1) < (h : Int)) → ∀ L9 : List (Nat × Value), lkeep L9 [0, 1] = [(0, .ref (gad E 1)), (1, iV (f : Int))] → Z S L9 110 [] := by
        intro hno L9 hL9
        refine g_keep hZ [0, 1] hL9 ?_
        refine g_iconst hZ dX1_stepFrom_110 ?_
        refine g_istore hZ dX1_stepFrom_111 (by decide) ?_
        refine g_iload hZ dX1_stepFrom_113 rfl ?_
        refine g_if_eq hZ 131 dX1_stepFrom_115 rfl (by omega) (fun _ => ?_) (fun cX => absurd (by omega) cX)
        refine g_iconst hZ dX1_stepFrom_131 ?_
        refine g_iret hZ dX1_stepFrom_132 rfl ⟨rfl, by rw [hnx, if_neg hno]⟩
      generalize hX : ((xr : Nat) : Int) + (((plc d % 3 : Nat) : Int) - 1) = X at *
      generalize hY : ((yq : Nat) : Int) + (((plc d / 3 : Nat) : Int) - 1) = Y at *
      refine g_if_lt hZ 110 dX1_stepFrom_80 rfl (by omega) (fun c1 => ?_) (fun c1 => ?_)
      · exact no (by omega) _ rfl
      · refine g_iload hZ dX1_stepFrom_83 rfl ?_
        refine g_aload_n hZ dX1_stepFrom_85 rfl ?_
        refine g_geti hZ fX1_15 rfl rfl dX1_stepFrom_86 hw ?_
        refine g_icmp_ge hZ 110 dX1_stepFrom_89 rfl (by omega) (fun c2 => ?_) (fun c2 => ?_)
        · exact no (by omega) _ rfl
        · refine g_iload hZ dX1_stepFrom_92 rfl ?_
          refine g_if_lt hZ 110 dX1_stepFrom_94 rfl (by omega) (fun c3 => ?_) (fun c3 => ?_)
          · exact no (by omega) _ rfl
          · refine g_iload hZ dX1_stepFrom_97 rfl ?_
            refine g_aload_n hZ dX1_stepFrom_99 rfl ?_
            refine g_geti hZ fX1_19 rfl rfl dX1_stepFrom_100 hh ?_
            refine g_icmp_ge hZ 110 dX1_stepFrom_103 rfl (by omega) (fun c4 => ?_) (fun c4 => ?_)
            · exact no (by omega) _ rfl
            · refine g_iconst hZ dX1_stepFrom_106 ?_
              refine g_goto hZ 111 dX1_stepFrom_107 rfl ?_
              refine g_istore hZ dX1_stepFrom_111 (by decide) ?_
              refine g_iload hZ dX1_stepFrom_113 rfl ?_
              refine g_if_eq hZ 131 dX1_stepFrom_115 rfl (by omega) (fun cX => absurd cX (by omega)) (fun _ => ?_)
              refine g_aload_n hZ dX1_stepFrom_118 rfl ?_
              refine g_geti hZ fX1_15 rfl rfl dX1_stepFrom_119 hw ?_
              refine g_iload hZ dX1_stepFrom_122 rfl ?_
              refine g_imul hZ dX1_stepFrom_124 ?_
              refine g_iload hZ dX1_stepFrom_125 rfl ?_
              refine g_iadd hZ dX1_stepFrom_127 ?_
              refine g_goto hZ 132 dX1_stepFrom_128 rfl ?_
              refine g_iret hZ dX1_stepFrom_132 rfl ⟨rfl, by rw [hnx, if_pos (by omega)]⟩
    have loop : ∀ (m k : Nat), k + m = yq → Z S [(0, .ref (gad E 1)), (1, iV (f : Int)), (2, iV (d : Int)), (3, iV (plc d : Int)), (4, iV (k : Int)), (5, iV ((f - w * k : Nat) : Int)), (6, iV ((k : Int) + 1))] 22 [] := by
      intro m
      induction m with
      | zero =>
        intro k hk
        have ek : k = yq := by omega
        subst ek
        have e1 : f - w * k = xr := by omega
        rw [e1]
        refine g_iload hZ dX1_stepFrom_22 rfl ?_
        refine g_aload_n hZ dX1_stepFrom_24 rfl ?_
        refine g_geti hZ fX1_19 rfl rfl dX1_stepFrom_25 hh ?_
        refine g_icmp_ge hZ 58 dX1_stepFrom_28 rfl (by omega) (fun c1 => ?_) (fun c1 => ?_)
        · exact tail _
        · refine g_iload hZ dX1_stepFrom_31 rfl ?_
          refine g_aload_n hZ dX1_stepFrom_33 rfl ?_
          refine g_geti hZ fX1_15 rfl rfl dX1_stepFrom_34 hw ?_
          refine g_icmp_lt hZ 58 dX1_stepFrom_37 rfl (by omega) (fun _ => ?_) (fun cX => absurd (by omega) cX)
          exact tail _
      | succ m ih =>
        intro k hk
        have hk1 : w * (k + 1) ≤ w * (yq) := Nat.mul_le_mul_left w (by omega)
        rw [Nat.mul_add, Nat.mul_one] at hk1
        have e1 : ((f - w * k : Nat) : Int) - (w : Int) = ((f - w * (k + 1) : Nat) : Int) := by rw [Nat.mul_add, Nat.mul_one]; omega
        refine g_iload hZ dX1_stepFrom_22 rfl ?_
        refine g_aload_n hZ dX1_stepFrom_24 rfl ?_
        refine g_geti hZ fX1_19 rfl rfl dX1_stepFrom_25 hh ?_
        refine g_icmp_ge hZ 58 dX1_stepFrom_28 rfl (by omega) (fun cX => absurd cX (by omega)) (fun _ => ?_)
        refine g_iload hZ dX1_stepFrom_31 rfl ?_
        refine g_aload_n hZ dX1_stepFrom_33 rfl ?_
        refine g_geti hZ fX1_15 rfl rfl dX1_stepFrom_34 hw ?_
        refine g_icmp_lt hZ 58 dX1_stepFrom_37 rfl (by omega) (fun cX => absurd cX (by omega)) (fun _ => ?_)
        refine g_iload hZ dX1_stepFrom_40 rfl ?_
        refine g_aload_n hZ dX1_stepFrom_42 rfl ?_
        refine g_geti hZ fX1_15 rfl rfl dX1_stepFrom_43 hw ?_
        refine g_isub hZ dX1_stepFrom_46 ?_
        rw [e1]
        refine g_istore hZ dX1_stepFrom_47 (by decide) ?_
        refine g_iinc hZ dX1_stepFrom_49 rfl (by decide) ?_
        refine g_iinc hZ dX1_stepFrom_52 rfl (by decide) ?_
        refine g_goto hZ 22 dX1_stepFrom_55 rfl ?_
        exact ih (k + 1) (by omega)
    have go : ∀ (x : Int), x = (plc d : Int) → Z S [(0, .ref (gad E 1)), (1, iV (f : Int)), (2, iV (d : Int))] 12 [iV x] := by
      intro x hx
      rw [hx]
      refine g_istore_n hZ dX1_stepFrom_12 (by decide) ?_
      refine g_iconst hZ dX1_stepFrom_13 ?_
      refine g_istore hZ dX1_stepFrom_14 (by decide) ?_
      refine g_iload_n hZ dX1_stepFrom_16 rfl ?_
      refine g_istore hZ dX1_stepFrom_17 (by decide) ?_
      refine g_iconst hZ dX1_stepFrom_19 ?_
      refine g_istore hZ dX1_stepFrom_20 (by decide) ?_
      have := loop (yq) 0 (by omega)
      rw [Nat.mul_zero, Nat.sub_zero] at this
      exact this
    refine g_iload_n hZ dX1_stepFrom_0 rfl ?_
    refine g_iconst hZ dX1_stepFrom_1 ?_
    refine g_icmp_ge hZ 9 dX1_stepFrom_2 rfl (by omega) (fun c => ?_) (fun c => ?_)
    · refine g_iload_n hZ dX1_stepFrom_9 rfl ?_
      refine g_iconst hZ dX1_stepFrom_10 ?_
      refine g_iadd hZ dX1_stepFrom_11 ?_
      exact go _ (by unfold plc; rw [if_neg (by omega)]; omega)
    · refine g_iload_n hZ dX1_stepFrom_5 rfl ?_
      refine g_goto hZ 12 dX1_stepFrom_6 rfl ?_
      exact go _ (by unfold plc; rw [if_pos (by omega)])
theorem t_X1_resize (E : gE) (lay : List gC) (hlay : lay = LX ∨ lay = LAY) (S : gS) (w h n : Nat) (hg : gOK w h n) : Ct E lay mX1_resize [.ref (gad E 1), iV (w : Int), iV (h : Int)] S (fun r S' => r = none ∧ Eqx [1, 2, 3, 4, 5] S S' ∧ xG S' w h n) := by
  obtain ⟨o1, o2, o3, o4, o5, o6⟩ := id hg
  have hp := p2_le o6
  have hp1 : 1 ≤ 2 ^ n := Nat.one_le_two_pow
  have ewn : (w : Int) * (h : Int) = (n : Int) := by rw [← o5]; simp
  rcases hlay with rfl | rfl
  all_goals
    refine Ct.intro (by first | exact LAY_ok | exact LX_ok) (by decide +kernel) (Nat.le_of_ble_eq_true rfl) rfl ?_
    intro Z hZ
    have outer : ∀ (m f : Nat) (S₁ : gS) (L9 : List (Nat × Value)), f + m = n → Eqx [1, 2, 3, 4, 5] S S₁ → S₁ 1 0 = w → S₁ 2 0 = h → S₁ 3 0 = n → S₁ 4 0 = (andM n : Int) → (∀ g d, g < f → d < 8 → S₁ 5 (8 * g + d) = nxF w h g d) → lkeep L9 [0, 1, 2, 3] = [(0, .ref (gad E 1)), (1, iV (w : Int)), (2, iV (h : Int)), (3, iV (f : Int))] → Z S₁ L9 37 [] := by
      intro m
      induction m with
      | zero =>
        intro f S₁ L9 hf he h1 h2 h3 h4 h5 hL9
        refine g_keep hZ [0, 1, 2, 3] hL9 ?_
        refine g_iload_n hZ dX1_resize_37 rfl ?_
        refine g_aload_n hZ dX1_resize_38 rfl ?_
        refine g_geti hZ fX1_22 rfl rfl dX1_resize_39 h3 ?_
        refine g_icmp_ge hZ 92 dX1_resize_42 rfl (by omega) (fun _ => ?_) (fun cX => absurd (by omega) cX)
        refine g_vret hZ dX1_resize_92 rfl ⟨rfl, he, h1, h2, h3, h4, hg, fun g d hg2 hd => h5 g d (by omega) hd⟩
      | succ m ih =>
        intro f S₁ L9 hf he h1 h2 h3 h4 h5 hL9
        refine g_keep hZ [0, 1, 2, 3] hL9 ?_
        refine g_iload_n hZ dX1_resize_37 rfl ?_
        refine g_aload_n hZ dX1_resize_38 rfl ?_
        refine g_geti hZ fX1_22 rfl rfl dX1_resize_39 h3 ?_
        refine g_icmp_ge hZ 92 dX1_resize_42 rfl (by omega) (fun cX => absurd cX (by omega)) (fun _ => ?_)
        refine g_iload_n hZ dX1_resize_45 rfl ?_
        refine g_bipush hZ (z := 15) dX1_resize_46 rfl ?_
        refine g_icmp_ge hZ 92 dX1_resize_48 rfl (by omega) (fun cX => absurd cX (by omega)) (fun _ => ?_)
        have inner : ∀ (m2 d : Nat) (S₂ : gS), d + m2 = 8 → Eqx [1, 2, 3, 4, 5] S S₂ → S₂ 1 0 = w → S₂ 2 0 = h → S₂ 3 0 = n → S₂ 4 0 = (andM n : Int) → (∀ g e, g < f → e < 8 → S₂ 5 (8 * g + e) = nxF w h g e) → (∀ e, e < d → S₂ 5 (8 * f + e) = nxF w h f e) → Z S₂ [(0, .ref (gad E 1)), (1, iV (w : Int)), (2, iV (h : Int)), (3, iV (f : Int)), (4, iV (d : Int))] 54 [] := by
          intro m2
          induction m2 with
          | zero =>
            intro d S₂ hd he₂ h1 h2 h3 h4 h5 h6
            refine g_iload hZ dX1_resize_54 rfl ?_
            refine g_bipush hZ (z := 8) dX1_resize_56 rfl ?_
            refine g_icmp_ge hZ 86 dX1_resize_58 rfl (by omega) (fun _ => ?_) (fun cX => absurd (by omega) cX)
            refine g_iinc hZ dX1_resize_86 rfl (by decide) ?_
            refine g_goto hZ 37 dX1_resize_89 rfl ?_
            refine ih (f + 1) S₂ _ (by omega) he₂ h1 h2 h3 h4 (fun g e hg2 he2 => ?_) rfl
            by_cases q : g = f
            · subst q; exact h6 e (by omega)
            · exact h5 g e (by omega) he2
          | succ m2 ih2 =>
            intro d S₂ hd he₂ h1 h2 h3 h4 h5 h6
            refine g_iload hZ dX1_resize_54 rfl ?_
            refine g_bipush hZ (z := 8) dX1_resize_56 rfl ?_
            refine g_icmp_ge hZ 86 dX1_resize_58 rfl (by omega) (fun cX => absurd cX (by omega)) (fun _ => ?_)
            refine g_aload_n hZ dX1_resize_61 rfl ?_
            refine g_getr hZ fX1_9 rfl rfl dX1_resize_62 ?_
            refine g_iload_n hZ dX1_resize_65 rfl ?_
            refine g_bipush hZ (z := 8) dX1_resize_66 rfl ?_
            refine g_imul hZ dX1_resize_68 ?_
            refine g_iload hZ dX1_resize_69 rfl ?_
            refine g_iadd hZ dX1_resize_71 ?_
            refine g_aload_n hZ dX1_resize_72 rfl ?_
            refine g_iload_n hZ dX1_resize_73 rfl ?_
            refine g_iload hZ dX1_resize_74 rfl ?_
            refine g_callV hZ (t_X1_stepFrom E _ (by first | exact Or.inl rfl | exact Or.inr rfl) S₂ w h n h1 h2 hg f d (by omega) (by omega)) kX1_28 ⟨by decide, by decide⟩ rfl rfl rfl rfl (Nat.le_of_ble_eq_true rfl) dX1_resize_76 ?_
            rintro _ _ ⟨rfl, rfl⟩
            refine g_iast hZ ((8 * f + d)) rfl dX1_resize_79 (by omega) (by omega) (by decide) ?_
            refine g_iinc hZ dX1_resize_80 rfl (by decide) ?_
            refine g_goto hZ 54 dX1_resize_83 rfl ?_
            refine ih2 (d + 1) _ (by omega) (he₂.up rfl) h1 h2 h3 h4 (fun g e hg2 he2 => ?_) (fun e he2 => ?_)
            · rw [upS_j _ _ (by omega)]; exact h5 g e hg2 he2
            · by_cases q : e = d
              · subst q; rw [upS_eq]
              · rw [upS_j _ _ (by omega)]; exact h6 e (by omega)
        refine g_iconst hZ dX1_resize_51 ?_
        refine g_istore hZ dX1_resize_52 (by decide) ?_
        exact inner 8 0 S₁ rfl he h1 h2 h3 h4 h5 (fun e he2 => absurd he2 (Nat.not_lt_zero e))
    refine g_aload_n hZ dX1_resize_0 rfl ?_
    refine g_iload_n hZ dX1_resize_1 rfl ?_
    refine g_puti hZ fX1_15 rfl rfl dX1_resize_2 ?_
    refine g_aload_n hZ dX1_resize_5 rfl ?_
    refine g_iload_n hZ dX1_resize_6 rfl ?_
    refine g_puti hZ fX1_19 rfl rfl dX1_resize_7 ?_
    refine g_aload_n hZ dX1_resize_10 rfl ?_
    refine g_aload_n hZ dX1_resize_11 rfl ?_
    refine g_geti hZ fX1_15 rfl rfl dX1_resize_12 (upS_eq S 1 0 (w : Int)) ?_
    refine g_aload_n hZ dX1_resize_15 rfl ?_
    refine g_geti hZ fX1_19 rfl rfl dX1_resize_16 (upS_eq _ 2 0 (h : Int)) ?_
    refine g_imul hZ dX1_resize_19 ?_
    rw [ewn]
    refine g_puti hZ fX1_22 rfl rfl dX1_resize_20 ?_
    refine g_aload_n hZ dX1_resize_23 rfl ?_
    refine g_iconst hZ dX1_resize_24 ?_
    refine g_aload_n hZ dX1_resize_25 rfl ?_
    refine g_geti hZ fX1_22 rfl rfl dX1_resize_26 (upS_eq _ 3 0 (n : Int)) ?_
    refine g_ishl hZ dX1_resize_29 (gi_shl (a := 1) (by omega) (by omega)) ?_
    refine g_iconst hZ dX1_resize_30 ?_
    refine g_isub hZ dX1_resize_31 ?_
    rw [Nat.one_mul, show ((2 ^ n : Nat) : Int) - 1 = (andM n : Int) by unfold andM; omega]
    refine g_puti hZ fX1_25 rfl rfl dX1_resize_32 ?_
    refine g_iconst hZ dX1_resize_35 ?_
    refine g_istore_n hZ dX1_resize_36 (by decide) ?_
    exact outer n 0 _ _ (by omega) ((((Eqx.rf.up rfl).up rfl).up rfl).up rfl) rfl rfl rfl rfl (fun g d hg2 => absurd hg2 (Nat.not_lt_zero g)) rfl
