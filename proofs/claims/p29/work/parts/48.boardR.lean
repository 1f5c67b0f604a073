/-! the class: Script findFault, BurningFields fault, executeCommand, run -/
theorem flt_mono (tx : List Nat) : ∀ (g g2 j : Nat), tx.length < j + g → tx.length < j + g2 → flt tx g j = flt tx g2 j := by
  intro g
  induction g with
  | zero =>
    intro g2 j a1 a2
    cases g2 with
    | zero => rfl
    | succ g2 => rw [flt, flt, if_neg (by omega)]
  | succ g ihg =>
    intro g2 j a1 a2
    cases g2 with
    | zero => rw [flt, flt, if_neg (by omega)]
    | succ g2 =>
      rw [flt, flt]
      by_cases e : j < tx.length
      · rw [if_pos e, if_pos e]
        cases hp : pcmd tx j with
        | none => rfl
        | some q =>
          have := pcmd_ok hp
          exact ihg g2 q.2.2 (by omega) (by omega)
      · rw [if_neg e, if_neg e]
theorem flt_bd {tx : List Nat} (h2 : tx.length ≤ 60) : ∀ (f i : Nat), flt tx f i = -1005 ∨ (0 ≤ flt tx f i ∧ flt tx f i ≤ 60) := by
  intro f
  induction f with
  | zero => intro i; exact Or.inl rfl
  | succ f ih =>
    intro i
    rw [flt]
    split
    · split
      · right; omega
      · exact ih _
    · left; rfl
theorem t_X6_findFault (E : gE) (hG : gad E 99 = 1) (S : gS) (tx : List Nat) (hT : XT S tx) : Ct E LAY mX6_findFault [.ref (gad E 24)] S (fun r S' => Eqx [40, 43] S S' ∧ r = some (iV (if flt tx 61 0 = -1005 then -1 else flt tx 61 0))) := by
  have hl := hT.2.1
  have hfb := flt_bd hl 61 0
  refine Ct.intro LAY_ok (by decide +kernel) (Nat.le_of_ble_eq_true rfl) rfl ?_
  intro Z hZ
  have done : flt tx 61 0 = -1005 → ∀ (S₁ : gS) (L9 : List (Nat × Value)), Eqx [40, 43] S S₁ → Z S₁ L9 39 [] := by
    intro hq S₁ L9 he
    rw [hq, if_pos rfl] at hZ
    refine g_iconst hZ dX6_findFault_39 ?_
    refine g_iret hZ dX6_findFault_40 rfl ⟨he, rfl⟩
  have loop : ∀ (f i k : Nat) (S₁ : gS) (L9 : List (Nat × Value)), i + f = 61 → k ≤ i → i ≤ tx.length → Eqx [40, 43] S S₁ → flt tx f i = flt tx 61 0 → lkeep L9 [0, 1, 2] = [(0, .ref (gad E 24)), (1, iV (i : Int)), (2, iV (k : Int))] → Z S₁ L9 4 [] := by
    intro f
    induction f using Nat.strongRecOn with
    | ind f ih =>
      intro i k S₁ L9 hf hki hi he hR hL9
      have hT₁ := hT.x he rfl rfl
      obtain ⟨f', rfl⟩ : ∃ f', f = f' + 1 := ⟨f - 1, by omega⟩
      rw [flt] at hR
      refine g_keep hZ [0, 1, 2] hL9 ?_
      refine g_iload_n hZ dX6_findFault_4 rfl ?_
      refine g_bipush hZ (z := 60) dX6_findFault_5 rfl ?_
      refine g_icmp_ge hZ 39 dX6_findFault_7 rfl (by omega) (fun c1 => ?_) (fun c1 => ?_)
      · rw [if_neg (by omega)] at hR
        exact done hR.symm S₁ _ he
      · refine g_iload_n hZ dX6_findFault_10 rfl ?_
        refine g_aload_n hZ dX6_findFault_11 rfl ?_
        refine g_geti hZ fX6_19 rfl rfl dX6_findFault_12 hT₁.1 ?_
        refine g_icmp_ge hZ 39 dX6_findFault_15 rfl (by omega) (fun c2 => ?_) (fun c2 => ?_)
        · rw [if_neg (by omega)] at hR
          exact done hR.symm S₁ _ he
        · rw [if_pos (by omega)] at hR
          refine g_aload_n hZ dX6_findFault_18 rfl ?_
          refine g_iload_n hZ dX6_findFault_19 rfl ?_
          refine g_callV hZ (t_X6_readCommand E hG S₁ tx hT₁ i (by omega)) kX6_23 ⟨by decide, by decide⟩ rfl rfl rfl rfl (Nat.le_of_ble_eq_true rfl) dX6_findFault_20 ?_
          rintro _ S₂ ⟨he₂, ⟨rfl, hz⟩ | ⟨q, hz, rfl, hw₂, hv₂⟩⟩
          · rw [hz] at hR
            have hR : (i : Int) = flt tx 61 0 := hR
            rw [if_neg (by omega), ← hR] at hZ
            refine g_istore_n hZ dX6_findFault_23 (by decide) ?_
            refine g_iload_n hZ dX6_findFault_24 rfl ?_
            refine g_iconst hZ dX6_findFault_25 ?_
            refine g_icmp_ne hZ 31 dX6_findFault_26 rfl (by omega) (fun cX => absurd rfl cX) (fun _ => ?_)
            refine g_iload_n hZ dX6_findFault_29 rfl ?_
            refine g_iret hZ dX6_findFault_30 rfl ⟨he.tr he₂, rfl⟩
          · obtain ⟨p1, p2, p3, p4, p5⟩ := pcmd_ok hz
            rw [hz] at hR
            refine g_istore_n hZ dX6_findFault_23 (by decide) ?_
            refine g_iload_n hZ dX6_findFault_24 rfl ?_
            refine g_iconst hZ dX6_findFault_25 ?_
            refine g_icmp_ne hZ 31 dX6_findFault_26 rfl (by omega) (fun _ => ?_) (fun cX => absurd cX (by omega))
            refine g_iload_n hZ dX6_findFault_31 rfl ?_
            refine g_istore_n hZ dX6_findFault_32 (by decide) ?_
            refine g_iinc hZ dX6_findFault_33 rfl (by decide) ?_
            refine g_goto hZ 4 dX6_findFault_36 rfl ?_
            exact ih (61 - q.2.2) (by omega) q.2.2 (k + 1) S₂ _ (by omega) (by omega) p5 (he.tr he₂) ((flt_mono tx _ _ _ (by omega) (by omega)).trans hR) rfl
  refine g_iconst hZ dX6_findFault_0 ?_
  refine g_istore_n hZ dX6_findFault_1 (by decide) ?_
  refine g_iconst hZ dX6_findFault_2 ?_
  refine g_istore_n hZ dX6_findFault_3 (by decide) ?_
  exact loop 61 0 0 S _ (by omega) (Nat.le_refl _) (Nat.zero_le _) Eqx.rf rfl rfl
theorem t_X8_fault (E : gE) (hG : gad E 99 = 1) (S : gS) (tx : List Nat) (hT : XT S tx) : Ct E LAY mX8_fault [.ref (gad E 0)] S (fun r S' => Eqx [40, 43] S S' ∧ r = some (iV (flt tx 61 0))) := by
  have hfb := flt_bd hT.2.1 61 0
  refine Ct.intro LAY_ok (by decide +kernel) (Nat.le_of_ble_eq_true rfl) rfl ?_
  intro Z hZ
  refine g_aload_n hZ dX8_fault_0 rfl ?_
  refine g_getr hZ fX8_61 rfl rfl dX8_fault_1 ?_
  refine g_callV hZ (t_X6_findFault E hG S tx hT) kX8_217 ⟨by decide, by decide⟩ rfl rfl rfl rfl (Nat.le_of_ble_eq_true rfl) dX8_fault_4 ?_
  rintro _ S₁ ⟨he₁, rfl⟩
  by_cases q : flt tx 61 0 = -1005
  · rw [if_pos q]
    rw [q] at hZ
    refine g_istore_n hZ dX8_fault_7 (by decide) ?_
    refine g_iload_n hZ dX8_fault_8 rfl ?_
    refine g_iconst hZ dX8_fault_9 ?_
    refine g_icmp_ne hZ 19 dX8_fault_10 rfl (by omega) (fun cX => absurd rfl cX) (fun _ => ?_)
    refine g_sipush hZ (z := (-1005)) dX8_fault_13 rfl ?_
    refine g_goto hZ 20 dX8_fault_16 rfl ?_
    refine g_iret hZ dX8_fault_20 rfl ⟨he₁, rfl⟩
  · rw [if_neg q]
    refine g_istore_n hZ dX8_fault_7 (by decide) ?_
    refine g_iload_n hZ dX8_fault_8 rfl ?_
    refine g_iconst hZ dX8_fault_9 ?_
    refine g_icmp_ne hZ 19 dX8_fault_10 rfl (by omega) (fun _ => ?_) (fun cX => absurd cX (by omega))
    refine g_iload_n hZ dX8_fault_19 rfl ?_
    refine g_iret hZ dX8_fault_20 rfl ⟨he₁, rfl⟩
theorem t_X8_executeCommand (E : gE) (S : gS) (w h n : Nat) (hg : xG S w h n) (B : Nat → Int) (hX : XB S n B) (hB : mBd B n) (hc : mC3 B n) (wd : Nat) (vs : List Nat) (hw : S 40 0 = (wd : Int)) (hwd : wd ≤ 5) (hvl : vs.length = cntW wd) (hv : ∀ v ∈ vs, v ≤ 99) (hHL : HL (fun v : Nat => (v : Int)) (S 43) vs) : Ct E LAY mX8_executeCommand [.ref (gad E 0)] S (fun r S' => Eqx [0, 6, 7] S S' ∧ ∃ z, r = some (iV z) ∧ R32 z ∧ ((z < 0 ∧ exC w n B wd vs = none ∧ XB S' n B) ∨ (0 ≤ z ∧ ∃ B2, exC w n B wd vs = some B2 ∧ XB S' n B2))) := by
  have hn := hg.n15
  have gv : ∀ j, j < cntW wd → S 43 j = ((vs.getD j 0 : Nat) : Int) ∧ vs.getD j 0 ≤ 99 := by
    intro j hj
    obtain ⟨x, hx⟩ : ∃ x, vs[j]? = some x := ⟨_, List.getElem?_eq_getElem (by omega)⟩
    rw [List.getD_eq_getElem?_getD, hx]
    exact ⟨hHL j x hx, hv x (List.mem_of_getElem? hx)⟩
  refine Ct.intro LAY_ok (by decide +kernel) (Nat.le_of_ble_eq_true rfl) rfl ?_
  intro Z hZ
  refine g_aload_n hZ dX8_executeCommand_0 rfl ?_
  refine g_getr hZ fX8_61 rfl rfl dX8_executeCommand_1 ?_
  refine g_getr hZ fX8_242 rfl rfl dX8_executeCommand_4 ?_
  refine g_astore_n hZ dX8_executeCommand_7 (by decide) ?_
  refine g_aload_n hZ dX8_executeCommand_8 rfl ?_
  refine g_getr hZ fX8_61 rfl rfl dX8_executeCommand_9 ?_
  refine g_geti hZ fX8_245 rfl rfl dX8_executeCommand_12 hw ?_
  refine g_iconst hZ dX8_executeCommand_15 ?_
  refine g_icmp_ne hZ 21 dX8_executeCommand_16 rfl (by omega) (fun c1 => ?_) (fun c1 => ?_)
  · refine g_aload_n hZ dX8_executeCommand_21 rfl ?_
    refine g_getr hZ fX8_61 rfl rfl dX8_executeCommand_22 ?_
    refine g_geti hZ fX8_245 rfl rfl dX8_executeCommand_25 hw ?_
    refine g_iconst hZ dX8_executeCommand_28 ?_
    refine g_icmp_ne hZ 49 dX8_executeCommand_29 rfl (by omega) (fun c2 => ?_) (fun c2 => ?_)
    · have hcw : cntW wd = 1 := by unfold cntW; rw [if_neg (by omega), if_neg (by omega)]
      obtain ⟨g0, l0⟩ := gv 0 (by omega)
      have hex : exC w n B wd vs = (if aSet n B (vs.getD 0 0 : Nat) (wd : Int) < 0 then none else some (upB B (vs.getD 0 0) (wd : Int))) := by
        unfold exC
        rw [if_neg (by omega), if_pos (by omega)]
      generalize vs.getD 0 0 = v0 at *
      refine g_aload_n hZ dX8_executeCommand_49 rfl ?_
      refine g_aload_n hZ dX8_executeCommand_50 rfl ?_
      refine g_iconst hZ dX8_executeCommand_51 ?_
      refine g_iald hZ (0) rfl dX8_executeCommand_52 (rfl) (by omega) (by decide) (g0) ?_
      refine g_aload_n hZ dX8_executeCommand_53 rfl ?_
      refine g_getr hZ fX8_61 rfl rfl dX8_executeCommand_54 ?_
      refine g_geti hZ fX8_245 rfl rfl dX8_executeCommand_57 hw ?_
      refine g_callV hZ (t_X8_putContents E S w h n hg B hX hB hc v0 wd (by omega) (by omega)) kX8_91 ⟨by decide, by decide⟩ rfl rfl rfl rfl (Nat.le_of_ble_eq_true rfl) dX8_executeCommand_60 ?_
      rintro _ S₁ ⟨rfl, p1, p2⟩
      have hr : R32 (aSet n B v0 wd) := by
        unfold aSet
        split
        · have := hB (v0 : Int).toNat (by omega)
          split <;> omega
        · omega
      by_cases q : aSet n B v0 wd < 0
      · rw [if_pos q] at hex
        have e := p1 q
        subst e
        refine g_iret hZ dX8_executeCommand_63 rfl ⟨Eqx.rf, _, rfl, hr, Or.inl ⟨q, hex, hX⟩⟩
      · rw [if_neg q] at hex
        obtain ⟨a1, a2⟩ := p2 (by omega)
        refine g_iret hZ dX8_executeCommand_63 rfl ⟨a1.mono rfl, _, rfl, hr, Or.inr ⟨by omega, _, hex, a2⟩⟩
    · have hw4 : wd = 4 := by omega
      have hcw : cntW wd = 4 := by unfold cntW; rw [if_pos hw4]
      obtain ⟨g0, l0⟩ := gv 0 (by omega)
      obtain ⟨g1, l1⟩ := gv 1 (by omega)
      obtain ⟨g2, l2⟩ := gv 2 (by omega)
      obtain ⟨g3, l3⟩ := gv 3 (by omega)
      have hex : exC w n B wd vs = (if aMove w n B (vs.getD 0 0 : Nat) (vs.getD 1 0 : Nat) (vs.getD 2 0 : Nat) (vs.getD 3 0 : Nat) < 0 then none else some (aftB B (vs.getD 1 0, vs.getD 2 0, vs.getD 3 0) (vs.getD 0 0 : Nat))) := by
        unfold exC
        rw [if_neg (by omega), if_neg (by omega)]
      generalize vs.getD 0 0 = v0 at *
      generalize vs.getD 1 0 = v1 at *
      generalize vs.getD 2 0 = v2 at *
      generalize vs.getD 3 0 = v3 at *
      refine g_aload_n hZ dX8_executeCommand_32 rfl ?_
      refine g_aload_n hZ dX8_executeCommand_33 rfl ?_
      refine g_iconst hZ dX8_executeCommand_34 ?_
      refine g_iald hZ (0) rfl dX8_executeCommand_35 (rfl) (by omega) (by decide) (g0) ?_
      refine g_aload_n hZ dX8_executeCommand_36 rfl ?_
      refine g_iconst hZ dX8_executeCommand_37 ?_
      refine g_iald hZ (1) rfl dX8_executeCommand_38 (rfl) (by omega) (by decide) (g1) ?_
      refine g_aload_n hZ dX8_executeCommand_39 rfl ?_
      refine g_iconst hZ dX8_executeCommand_40 ?_
      refine g_iald hZ (2) rfl dX8_executeCommand_41 (rfl) (by omega) (by decide) (g2) ?_
      refine g_aload_n hZ dX8_executeCommand_42 rfl ?_
      refine g_iconst hZ dX8_executeCommand_43 ?_
      refine g_iald hZ (3) rfl dX8_executeCommand_44 (rfl) (by omega) (by decide) (g3) ?_
      refine g_callV hZ (t_X8_makeMove E S w h n hg B hX hB hc v0 v1 v2 v3 (by omega) (by omega) (by omega) (by omega)) kX8_134 ⟨by decide, by decide⟩ rfl rfl rfl rfl (Nat.le_of_ble_eq_true rfl) dX8_executeCommand_45 ?_
      rintro _ S₁ ⟨rfl, p1, p2⟩
      have hr : R32 (aMove w n B v0 v1 v2 v3) := by
        by_cases q : aMove w n B v0 v1 v2 v3 < 0
        · have q2 := q
          unfold aMove at q2 ⊢
          split
          · rename_i o1
            rw [if_pos o1] at q2
            split
            · rename_i o2
              rw [if_pos o2] at q2
              omega
            · omega
          · omega
        · obtain ⟨o1, o2, o3, o4⟩ := aMove_ok hg.o hB hc q
          have e : aMove w n B v0 v1 v2 v3 = ((mvs w n (aftB B ((v1 : Int).toNat, (v2 : Int).toNat, (v3 : Int).toNat) v0) (3 - v0)).length : Int) := by
            unfold aMove
            rw [if_pos o1, if_pos o2]
          have := mvs_bound hn (o4.s (s := 3 - (v0 : Int)) (by omega)) (w := w)
          omega
      by_cases q : aMove w n B v0 v1 v2 v3 < 0
      · rw [if_pos q] at hex
        refine g_iret hZ dX8_executeCommand_48 rfl ⟨(p1 q).mono rfl, _, rfl, hr, Or.inl ⟨q, hex, hX.x (p1 q) rfl⟩⟩
      · rw [if_neg q] at hex
        obtain ⟨a1, a2⟩ := p2 (by omega)
        simp only [Int.toNat_natCast] at a2
        refine g_iret hZ dX8_executeCommand_48 rfl ⟨a1, _, rfl, hr, Or.inr ⟨by omega, _, hex, a2⟩⟩
  · refine g_iconst hZ dX8_executeCommand_19 ?_
    refine g_iret hZ dX8_executeCommand_20 rfl ⟨Eqx.rf, 0, rfl, by omega, Or.inr ⟨by omega, B, by unfold exC; rw [if_pos (by omega)], hX⟩⟩
theorem t_X8_run (E : gE) (hG : gad E 99 = 1) (S : gS) (w h n : Nat) (hg : xG S w h n) (B : Nat → Int) (hX : XB S n B) (hB : mBd B n) (hc : mC3 B n) (hs : List hEn) (hh : XHs S hs) (tx : List Nat) (hT : XT S tx) : Ct E LAY mX8_run [.ref (gad E 0)] S (fun r S' => (flt tx 61 0 ≠ -1005 ∧ r = some (iV (-1002)) ∧ Eqx [40, 43] S S') ∨ (flt tx 61 0 = -1005 ∧ r = some (iV ((rnF w n tx 61 0 B 0).1 : Int)) ∧ Eqx [0, 6, 7, 36, 37, 38, 39, 40, 43] S S' ∧ XB S' n (rnF w n tx 61 0 B 0).2 ∧ XHs S' (hpush hs (w, h, B)))) := by
  have hn := hg.n15
  have hl := hT.2.1
  have hfb := flt_bd hl 61 0
  refine Ct.intro LAY_ok (by decide +kernel) (Nat.le_of_ble_eq_true rfl) rfl ?_
  intro Z hZ
  refine g_aload_n hZ dX8_run_0 rfl ?_
  refine g_getr hZ fX8_61 rfl rfl dX8_run_1 ?_
  refine g_callV hZ (t_X6_findFault E hG S tx hT) kX8_217 ⟨by decide, by decide⟩ rfl rfl rfl rfl (Nat.le_of_ble_eq_true rfl) dX8_run_4 ?_
  rintro _ S₁ ⟨he₁, rfl⟩
  by_cases c : flt tx 61 0 = -1005
  · rw [if_pos c]
    have hg₁ := hg.x he₁ rfl
    obtain ⟨x, x1, x2⟩ := hX.x he₁ rfl
    refine g_iconst hZ dX8_run_7 ?_
    refine g_icmp_eq hZ 15 dX8_run_8 rfl (by omega) (fun _ => ?_) (fun cX => absurd rfl cX)
    refine g_aload_n hZ dX8_run_15 rfl ?_
    refine g_getr hZ fX8_54 rfl rfl dX8_run_16 ?_
    refine g_aload_n hZ dX8_run_19 rfl ?_
    refine g_getr hZ fX8_12 rfl rfl dX8_run_20 ?_
    refine g_aload_n hZ dX8_run_23 rfl ?_
    refine g_getj hZ fX8_69 rfl rfl dX8_run_24 x1 ?_
    refine g_callV hZ (t_X2_record E S₁ w h n hg₁ hs (hh.x he₁ rfl rfl rfl rfl) x B x2) kX8_84 ⟨by decide, by decide⟩ rfl rfl rfl rfl (Nat.le_of_ble_eq_true rfl) dX8_run_27 ?_
    rintro _ S₂ ⟨rfl, he₂, hh₂⟩
    have he₁₂ : Eqx [0, 6, 7, 36, 37, 38, 39, 40, 43] S S₂ := (he₁.mono rfl).tr (he₂.mono rfl)
    have hX₂ : XB S₂ n B := (hX.x he₁ rfl).x he₂ rfl
    have done : ∀ (S₃ : gS) (k : Nat) (Bk : Nat → Int) (pc9 : Nat) (L9 : List (Nat × Value)), (pc9 = 74 ∨ pc9 = 85) → Eqx [0, 6, 7, 36, 37, 38, 39, 40, 43] S S₃ → XB S₃ n Bk → XHs S₃ (hpush hs (w, h, B)) → (k, Bk) = rnF w n tx 61 0 B 0 → lkeep L9 [1] = [(1, iV (k : Int))] → Z S₃ L9 pc9 [] := by
      intro S₃ k Bk pc9 L9 hpc he hX₃ hh₃ hR hL9
      refine g_keep hZ [1] hL9 ?_
      have e1 : (rnF w n tx 61 0 B 0).1 = k := by rw [← hR]
      have e2 : (rnF w n tx 61 0 B 0).2 = Bk := by rw [← hR]
      rw [e1, e2] at hZ
      rcases hpc with rfl | rfl
      · refine g_iload_n hZ dX8_run_74 rfl ?_
        refine g_iret hZ dX8_run_75 rfl (Or.inr ⟨c, rfl, he, hX₃, hh₃⟩)
      · refine g_iload_n hZ dX8_run_85 rfl ?_
        refine g_iret hZ dX8_run_86 rfl (Or.inr ⟨c, rfl, he, hX₃, hh₃⟩)
    have loop : ∀ (f i k : Nat) (S₃ : gS) (Bk : Nat → Int) (L9 : List (Nat × Value)), i + f = 61 → k ≤ i → i ≤ tx.length → Eqx [0, 6, 7, 36, 37, 38, 39, 40, 43] S S₃ → XB S₃ n Bk → mBd Bk n → mC3 Bk n → XHs S₃ (hpush hs (w, h, B)) → rnF w n tx f i Bk k = rnF w n tx 61 0 B 0 → lkeep L9 [0, 1, 2, 3] = [(0, .ref (gad E 0)), (1, iV (k : Int)), (2, iV (i : Int)), (3, iV (k : Int))] → Z S₃ L9 36 [] := by
      intro f
      induction f using Nat.strongRecOn with
      | ind f ih =>
        intro i k S₃ Bk L9 hf hki hi he hX₃ hB₃ hc₃ hh₃ hR hL9
        have hT₃ := hT.x he rfl rfl
        obtain ⟨f', rfl⟩ : ∃ f', f = f' + 1 := ⟨f - 1, by omega⟩
        rw [rnF] at hR
        refine g_keep hZ [0, 1, 2, 3] hL9 ?_
        refine g_iload_n hZ dX8_run_36 rfl ?_
        refine g_bipush hZ (z := 60) dX8_run_37 rfl ?_
        refine g_icmp_ge hZ 85 dX8_run_39 rfl (by omega) (fun c1 => ?_) (fun c1 => ?_)
        · rw [if_neg (by omega)] at hR
          exact done S₃ k Bk 85 _ (Or.inr rfl) he hX₃ hh₃ hR rfl
        · refine g_iload_n hZ dX8_run_42 rfl ?_
          refine g_aload_n hZ dX8_run_43 rfl ?_
          refine g_getr hZ fX8_61 rfl rfl dX8_run_44 ?_
          refine g_geti hZ fX8_216 rfl rfl dX8_run_47 hT₃.1 ?_
          refine g_icmp_ge hZ 85 dX8_run_50 rfl (by omega) (fun c2 => ?_) (fun c2 => ?_)
          · rw [if_neg (by omega)] at hR
            exact done S₃ k Bk 85 _ (Or.inr rfl) he hX₃ hh₃ hR rfl
          · rw [if_pos (by omega)] at hR
            refine g_aload_n hZ dX8_run_53 rfl ?_
            refine g_getr hZ fX8_61 rfl rfl dX8_run_54 ?_
            refine g_iload_n hZ dX8_run_57 rfl ?_
            refine g_callV hZ (t_X6_readCommand E hG S₃ tx hT₃ i (by omega)) kX8_221 ⟨by decide, by decide⟩ rfl rfl rfl rfl (Nat.le_of_ble_eq_true rfl) dX8_run_58 ?_
            rintro _ S₄ ⟨he₄, ⟨rfl, hz⟩ | ⟨q, hz, rfl, hw₄, hv₄⟩⟩
            · rw [hz] at hR
              refine g_istore_n hZ dX8_run_61 (by decide) ?_
              refine g_iload_n hZ dX8_run_62 rfl ?_
              refine g_iconst hZ dX8_run_63 ?_
              refine g_icmp_eq hZ 74 dX8_run_64 rfl (by omega) (fun _ => ?_) (fun cX => absurd rfl cX)
              exact done S₄ k Bk 74 _ (Or.inl rfl) (he.tr (he₄.mono rfl)) (hX₃.x he₄ rfl) (hh₃.x he₄ rfl rfl rfl rfl) hR rfl
            · obtain ⟨p1, p2, p3, p4, p5⟩ := pcmd_ok hz
              have he₃₄ : Eqx [0, 6, 7, 36, 37, 38, 39, 40, 43] S S₄ := he.tr (he₄.mono rfl)
              have hh₄ := hh₃.x he₄ rfl rfl rfl rfl
              rw [hz] at hR
              simp only at hR
              refine g_istore_n hZ dX8_run_61 (by decide) ?_
              refine g_iload_n hZ dX8_run_62 rfl ?_
              refine g_iconst hZ dX8_run_63 ?_
              refine g_icmp_eq hZ 74 dX8_run_64 rfl (by omega) (fun cX => absurd cX (by omega)) (fun _ => ?_)
              refine g_aload_n hZ dX8_run_67 rfl ?_
              refine g_callV hZ (t_X8_executeCommand E S₄ w h n (hg.x he₃₄ rfl) Bk (hX₃.x he₄ rfl) hB₃ hc₃ q.1 q.2.1 hw₄ p1 p2 p3 hv₄) kX8_224 ⟨by decide, by decide⟩ rfl rfl rfl rfl (Nat.le_of_ble_eq_true rfl) dX8_run_68 ?_
              rintro _ S₅ ⟨he₅, z, rfl, rz, ⟨hz0, hex, hX₅⟩ | ⟨hz0, B2, hex, hX₅⟩⟩
              · rw [hex] at hR
                refine g_if_ge hZ 76 dX8_run_71 rfl (by omega) (fun cX => absurd cX (by omega)) (fun _ => ?_)
                exact done S₅ k Bk 74 _ (Or.inl rfl) (he₃₄.tr (he₅.mono rfl)) hX₅ (hh₄.x he₅ rfl rfl rfl rfl) hR rfl
              · rw [hex] at hR
                obtain ⟨b1, b2⟩ := exC_ok hg.o hB₃ hc₃ hex
                refine g_if_ge hZ 76 dX8_run_71 rfl (by omega) (fun _ => ?_) (fun cX => absurd (by omega) cX)
                refine g_iinc hZ dX8_run_76 rfl (by decide) ?_
                refine g_iinc hZ dX8_run_79 rfl (by decide) ?_
                refine g_goto hZ 36 dX8_run_82 rfl ?_
                exact ih (61 - q.2.2) (by omega) q.2.2 (k + 1) S₅ B2 _ (by omega) (by omega) p5 (he₃₄.tr (he₅.mono rfl)) hX₅ b1 b2 (hh₄.x he₅ rfl rfl rfl rfl) ((rnF_mono w n tx _ _ _ _ _ (by omega) (by omega)).trans hR) rfl
    refine g_iconst hZ dX8_run_30 ?_
    refine g_istore_n hZ dX8_run_31 (by decide) ?_
    refine g_iconst hZ dX8_run_32 ?_
    refine g_istore_n hZ dX8_run_33 (by decide) ?_
    refine g_iconst hZ dX8_run_34 ?_
    refine g_istore_n hZ dX8_run_35 (by decide) ?_
    exact loop 61 0 0 S₂ B _ (by omega) (Nat.le_refl _) (Nat.zero_le _) he₁₂ hX₂ hB hc hh₂ rfl rfl
  · rw [if_neg c]
    refine g_iconst hZ dX8_run_7 ?_
    refine g_icmp_eq hZ 15 dX8_run_8 rfl (by omega) (fun cX => absurd cX (by omega)) (fun _ => ?_)
    refine g_sipush hZ (z := (-1002)) dX8_run_11 rfl ?_
    refine g_iret hZ dX8_run_14 rfl (Or.inl ⟨c, rfl, he₁⟩)
