/-! the class: MoveList, History, ValueTable -/
def xenc (q : Nat × Nat × Nat) : Int := 256 * (q.1 : Int) + 16 * (q.2.1 : Int) + (q.2.2 : Int)
/-- the class's list of moves -/
def XL (S : gS) (l : List (Nat × Nat × Nat)) : Prop := S 6 0 = (l.length : Int) ∧ HL xenc (S 7) l
theorem XL.x {vs : List Nat} {S S1 : gS} {l : List (Nat × Nat × Nat)} (hh : XL S l) (he : Eqx vs S S1) (h1 : vs.contains 6 = false) (h2 : vs.contains 7 = false) : XL S1 l := ⟨(he 6 0 h1).trans hh.1, by rw [show S1 7 = S 7 from funext fun j => he 7 j h2]; exact hh.2⟩
theorem XL.to {S : gS} {l l2 : List (Nat × Nat × Nat)} (h : XL S l) (e : l = l2) : XL S l2 := e ▸ h
theorem t_X3_addBurns (E : gE) (S : gS) (n : Nat) (hn3 : S 3 0 = (n : Int)) (hn : n ≤ 15) (l : List (Nat × Nat × Nat)) (hl : XL S l) (a t : Nat) (ha : a < 15) (ht : t < 15) (m : Nat) (hm : m < 32768) (P : Nat → Bool) (hP : ∀ k, k < n → m.testBit k = P k) (hb : l.length + ((List.range n).filter P).length ≤ 588) : Ct E LAY mX3_addBurns [.ref (gad E 3), iV ((256 * a + 16 * t : Nat) : Int), iV (m : Int)] S (fun r S' => r = none ∧ Eqx [6, 7] S S' ∧ XL S' (l ++ ((List.range n).filter P).map (fun u => (a, t, u)))) := by
  refine Ct.intro LAY_ok (by decide +kernel) (Nat.le_of_ble_eq_true rfl) rfl ?_
  intro Z hZ
  have loop : ∀ (m2 u : Nat) (S₁ : gS) (L9 : List (Nat × Value)), u + m2 = n → Eqx [6, 7] S S₁ → XL S₁ (l ++ ((List.range u).filter P).map (fun u => (a, t, u))) → lkeep L9 [0, 1, 2, 3] = [(0, .ref (gad E 3)), (1, iV ((256 * a + 16 * t : Nat) : Int)), (2, iV (m : Int)), (3, iV (u : Int))] → Z S₁ L9 2 [] := by
    intro m2
    induction m2 with
    | zero =>
      intro u S₁ L9 hu he hx hL9
      refine g_keep hZ [0, 1, 2, 3] hL9 ?_
      refine g_iload_n hZ dX3_addBurns_2 rfl ?_
      refine g_aload_n hZ dX3_addBurns_3 rfl ?_
      refine g_getr hZ fX3_15 rfl rfl dX3_addBurns_4 ?_
      refine g_geti hZ fX3_37 rfl rfl dX3_addBurns_7 ((he 3 0 rfl).trans hn3) ?_
      refine g_icmp_ge hZ 59 dX3_addBurns_10 rfl (by omega) (fun _ => ?_) (fun cX => absurd (by omega) cX)
      rw [show u = n by omega] at hx
      refine g_vret hZ dX3_addBurns_59 rfl ⟨rfl, he, hx⟩
    | succ m2 ih =>
      intro u S₁ L9 hu he hx hL9
      have hr : (List.range (u + 1)).filter P = (List.range u).filter P ++ [u].filter P := by rw [List.range_succ, List.filter_append]
      have hmono : ((List.range (u + 1)).filter P).length ≤ ((List.range n).filter P).length := by
        rw [cntB_len, cntB_len]
        have : ∀ (d : Nat), cntB P (u + 1) ≤ cntB P (u + 1 + d) := by
          intro d
          induction d with
          | zero => exact Nat.le_refl _
          | succ d ihd => exact Nat.le_trans ihd (by show _ ≤ cntB P (u + 1 + d) + _; omega)
        have := this (n - (u + 1))
        rw [show u + 1 + (n - (u + 1)) = n by omega] at this
        exact this
      refine g_keep hZ [0, 1, 2, 3] hL9 ?_
      refine g_iload_n hZ dX3_addBurns_2 rfl ?_
      refine g_aload_n hZ dX3_addBurns_3 rfl ?_
      refine g_getr hZ fX3_15 rfl rfl dX3_addBurns_4 ?_
      refine g_geti hZ fX3_37 rfl rfl dX3_addBurns_7 ((he 3 0 rfl).trans hn3) ?_
      refine g_icmp_ge hZ 59 dX3_addBurns_10 rfl (by omega) (fun cX => absurd cX (by omega)) (fun _ => ?_)
      refine g_iload_n hZ dX3_addBurns_13 rfl ?_
      refine g_iload_n hZ dX3_addBurns_14 rfl ?_
      refine g_ishr hZ dX3_addBurns_15 (gi_shr (by omega) (by omega)) ?_
      refine g_iconst hZ dX3_addBurns_16 ?_
      refine g_iand hZ dX3_addBurns_17 (gi_and1 _) ?_
      rw [tb_div, hP u (by omega)]
      cases hpu : P u with
      | false =>
        have e0 : [u].filter P = [] := by simp [hpu]
        refine g_if_eq hZ 53 dX3_addBurns_18 rfl (by decide) (fun _ => ?_) (fun cX => absurd (by decide) cX)
        refine g_iinc hZ dX3_addBurns_53 rfl (by decide) ?_
        refine g_goto hZ 2 dX3_addBurns_56 rfl ?_
        exact ih (u + 1) S₁ _ (by omega) he (hx.to (by rw [hr, e0, List.append_nil])) rfl
      | true =>
        have e1 : [u].filter P = [u] := by simp [hpu]
        rw [hr, e1, List.length_append] at hmono
        have hlen : (l ++ ((List.range u).filter P).map (fun u => (a, t, u))).length < 588 := by
          rw [List.length_append, List.length_map]
          have : ([u] : List Nat).length = 1 := rfl
          omega
        obtain ⟨x1, x2⟩ := hx
        have hor : Int32.ofInt ((256 * a + 16 * t : Nat) : Int) ||| Int32.ofInt (u : Int) = Int32.ofInt ((256 * a + 16 * t + u : Nat) : Int) := by
          have := gi_orh (a := 16 * a + t) (b := u) (k := 4) (by omega)
          rw [show (16 * a + t) * 2 ^ 4 = 256 * a + 16 * t by omega] at this
          exact this
        generalize hll : l ++ ((List.range u).filter P).map (fun u => (a, t, u)) = l2 at *
        refine g_if_eq hZ 53 dX3_addBurns_18 rfl (by decide) (fun cX => absurd cX (by decide)) (fun _ => ?_)
        refine g_aload_n hZ dX3_addBurns_21 rfl ?_
        refine g_geti hZ fX3_19 rfl rfl dX3_addBurns_22 x1 ?_
        refine g_sipush hZ (z := 588) dX3_addBurns_25 rfl ?_
        refine g_icmp_ge hZ 53 dX3_addBurns_28 rfl (by omega) (fun cX => absurd cX (by omega)) (fun _ => ?_)
        refine g_aload_n hZ dX3_addBurns_31 rfl ?_
        refine g_getr hZ fX3_9 rfl rfl dX3_addBurns_32 ?_
        refine g_aload_n hZ dX3_addBurns_35 rfl ?_
        refine g_geti hZ fX3_19 rfl rfl dX3_addBurns_36 x1 ?_
        refine g_iload_n hZ dX3_addBurns_39 rfl ?_
        refine g_iload_n hZ dX3_addBurns_40 rfl ?_
        refine g_ior hZ dX3_addBurns_41 hor ?_
        refine g_iast hZ (l2.length) rfl dX3_addBurns_42 (rfl) (by omega) (by decide) ?_
        refine g_aload_n hZ dX3_addBurns_43 rfl ?_
        refine g_dup hZ dX3_addBurns_44 rfl ?_
        refine g_geti hZ fX3_19 rfl rfl dX3_addBurns_45 x1 ?_
        refine g_iconst hZ dX3_addBurns_48 ?_
        refine g_iadd hZ dX3_addBurns_49 ?_
        refine g_puti hZ fX3_19 rfl rfl dX3_addBurns_50 ?_
        refine g_iinc hZ dX3_addBurns_53 rfl (by decide) ?_
        refine g_goto hZ 2 dX3_addBurns_56 rfl ?_
        refine ih (u + 1) _ _ (by omega) ((he.up rfl).up rfl) ?_ rfl
        rw [hr, e1, List.map_append, ← List.append_assoc, hll]
        refine ⟨by rw [upS_eq, List.length_append]; rfl, HL_add x2 (fun j hj => ?_) ?_⟩
        · rw [upS_v _ _ (by decide), upS_j _ _ (by omega)]
        · rw [upS_v _ _ (by decide), upS_eq]; unfold xenc; dsimp only; omega
  refine g_iconst hZ dX3_addBurns_0 ?_
  refine g_istore_n hZ dX3_addBurns_1 (by decide) ?_
  exact loop n 0 S _ (by omega) Eqx.rf (hl.to (by simp)) rfl
theorem t_X3_addMovesFrom (E : gE) (S : gS) (w h n : Nat) (hg : xG S w h n) (B : Nat → Int) (hB : mBd B n) (s : Int) (hs : s = 1 ∨ s = 2) (a : Nat) (ha : a < n) (hsa : B a = s) (fr : Nat) (hfr : isM fr (mkB n B 0)) (l : List (Nat × Nat × Nat)) (hl : XL S l) (hb : l.length + 196 ≤ 588) : Ct E LAY mX3_addMovesFrom [.ref (gad E 3), iV (a : Int), iV (fr : Int)] S (fun r S' => r = none ∧ Eqx [6, 7] S S' ∧ XL S' (l ++ mvA w n B s a)) := by
  have hn := hg.n15
  have hO := hg.o
  have hfrl := hfr.lt (n := 15) (fun k hk => mkB_out (by omega))
  have e15 : (2 : Nat) ^ 15 = 32768 := by decide
  have hF0 : ∀ k, k < n → fr.testBit k = frB B k := fun k hk => by rw [hfr k]; unfold mkB frB; simp [hk]
  refine Ct.intro LAY_ok (by decide +kernel) (Nat.le_of_ble_eq_true rfl) rfl ?_
  intro Z hZ
  refine g_aload_n hZ dX3_addMovesFrom_0 rfl ?_
  refine g_getr hZ fX3_15 rfl rfl dX3_addMovesFrom_1 ?_
  refine g_iload_n hZ dX3_addMovesFrom_4 rfl ?_
  refine g_iload_n hZ dX3_addMovesFrom_5 rfl ?_
  refine g_callV hZ (t_X1_seenFrom E S w h n hg a ha fr (by omega) (frB B) hF0) kX3_44 ⟨by decide, by decide⟩ rfl rfl rfl rfl (Nat.le_of_ble_eq_true rfl) dX3_addMovesFrom_6 ?_
  rintro _ _ ⟨rfl, sm, rfl, hsm⟩
  have hsml := hsm.lt (n := 15) (fun k hk => by simp; omega)
  have loop : ∀ (m2 t : Nat) (S₁ : gS) (L9 : List (Nat × Value)), t + m2 = n → Eqx [6, 7] S S₁ → XL S₁ (l ++ (List.range t).flatMap (mvT w n B s a)) → lkeep L9 [0, 1, 2, 3, 4] = [(0, .ref (gad E 3)), (1, iV (a : Int)), (2, iV (fr : Int)), (3, iV (sm : Int)), (4, iV (t : Int))] → Z S₁ L9 13 [] := by
    intro m2
    induction m2 with
    | zero =>
      intro t S₁ L9 ht he hx hL9
      refine g_keep hZ [0, 1, 2, 3, 4] hL9 ?_
      refine g_iload hZ dX3_addMovesFrom_13 rfl ?_
      refine g_aload_n hZ dX3_addMovesFrom_15 rfl ?_
      refine g_getr hZ fX3_15 rfl rfl dX3_addMovesFrom_16 ?_
      refine g_geti hZ fX3_37 rfl rfl dX3_addMovesFrom_19 ((he 3 0 rfl).trans hg.2.2.1) ?_
      refine g_icmp_ge hZ 78 dX3_addMovesFrom_22 rfl (by omega) (fun _ => ?_) (fun cX => absurd (by omega) cX)
      refine g_vret hZ dX3_addMovesFrom_78 rfl ⟨rfl, he, hx.to (by rw [show t = n by omega]; unfold mvA; rw [if_pos hsa])⟩
    | succ m2 ih =>
      intro t S₁ L9 ht he hx hL9
      have hg₁ := hg.x he rfl
      have hfm : (List.range (t + 1)).flatMap (mvT w n B s a) = (List.range t).flatMap (mvT w n B s a) ++ mvT w n B s a t := by rw [List.range_succ, List.flatMap_append]; simp
      have hlen := mvAp_len (w := w) (n := n) (B := B) (s := s) (a := a) (m := t + 1) hn ha (by omega)
      rw [hfm, List.length_append] at hlen
      refine g_keep hZ [0, 1, 2, 3, 4] hL9 ?_
      refine g_iload hZ dX3_addMovesFrom_13 rfl ?_
      refine g_aload_n hZ dX3_addMovesFrom_15 rfl ?_
      refine g_getr hZ fX3_15 rfl rfl dX3_addMovesFrom_16 ?_
      refine g_geti hZ fX3_37 rfl rfl dX3_addMovesFrom_19 hg₁.2.2.1 ?_
      refine g_icmp_ge hZ 78 dX3_addMovesFrom_22 rfl (by omega) (fun cX => absurd cX (by omega)) (fun _ => ?_)
      refine g_iload_n hZ dX3_addMovesFrom_25 rfl ?_
      refine g_iload hZ dX3_addMovesFrom_26 rfl ?_
      refine g_ishr hZ dX3_addMovesFrom_28 (gi_shr (by omega) (by omega)) ?_
      refine g_iconst hZ dX3_addMovesFrom_29 ?_
      refine g_iand hZ dX3_addMovesFrom_30 (gi_and1 _) ?_
      have hsmt : sm.testBit t = (decide (t < n) && seenB w (frB B) a t) := hsm t
      rw [tb_div, hsmt, show decide (t < n) = true from decide_eq_true (by omega), Bool.true_and]
      cases hst : seenB w (frB B) a t with
      | false =>
        have e0 : mvT w n B s a t = [] := by unfold mvT; rw [hst]; rfl
        refine g_if_eq hZ 72 dX3_addMovesFrom_31 rfl (by decide) (fun _ => ?_) (fun cX => absurd (by decide) cX)
        refine g_iinc hZ dX3_addMovesFrom_72 rfl (by decide) ?_
        refine g_goto hZ 13 dX3_addMovesFrom_75 rfl ?_
        exact ih (t + 1) S₁ _ (by omega) he (hx.to (by rw [hfm, e0, List.append_nil])) rfl
      | true =>
        have e1 : mvT w n B s a t = (burns w n B s a t).map (fun u => (a, t, u)) := by unfold mvT; rw [if_pos hst]
        have hp2 := p2_le (show a ≤ 15 by omega)
        have hp3 := p2_le (show t ≤ 15 by omega)
        have hm2 : ∀ k, k < n → (andn (fr ||| 2 ^ a) (2 ^ t)).testBit k = frB (brB B a t s) k := by
          intro k hk
          rw [andn_tb, Nat.testBit_or, tb_p2, tb_p2, hF0 k hk]
          unfold frB brB
          by_cases q1 : k = t
          · subst q1
            have : ¬ s = 0 := by omega
            simp [this]
          · by_cases q2 : k = a
            · subst q2
              simp [q1, Ne.symm q1]
            · have : ¬ a = k := fun e => q2 e.symm
              have : ¬ t = k := fun e => q1 e.symm
              simp [q1, q2, *]
        have hor : fr ||| 2 ^ a < 65536 := by
          have e16 : (2 : Nat) ^ 16 = 65536 := by decide
          rw [← e16]
          exact Nat.or_lt_two_pow (by omega) (by omega)
        have hal : andn (fr ||| 2 ^ a) (2 ^ t) < 32768 := by
          rw [← e15]
          refine lt_of_tb fun i hi => ?_
          rw [andn_tb, Nat.testBit_or, tb_p2, hfr i, mkB_out (by omega)]
          have : decide (a = i) = false := decide_eq_false (by omega)
          rw [this]; rfl
        refine g_if_eq hZ 72 dX3_addMovesFrom_31 rfl (by decide) (fun cX => absurd cX (by decide)) (fun _ => ?_)
        refine g_aload_n hZ dX3_addMovesFrom_34 rfl ?_
        refine g_getr hZ fX3_15 rfl rfl dX3_addMovesFrom_35 ?_
        refine g_iload hZ dX3_addMovesFrom_38 rfl ?_
        refine g_iload_n hZ dX3_addMovesFrom_40 rfl ?_
        refine g_iconst hZ dX3_addMovesFrom_41 ?_
        refine g_iload_n hZ dX3_addMovesFrom_42 rfl ?_
        refine g_ishl hZ dX3_addMovesFrom_43 (gi_shl (a := 1) (by omega) (by omega)) ?_
        refine g_ior hZ dX3_addMovesFrom_44 (gi_or _ _) ?_
        refine g_iconst hZ dX3_addMovesFrom_45 ?_
        refine g_iload hZ dX3_addMovesFrom_46 rfl ?_
        refine g_ishl hZ dX3_addMovesFrom_48 (gi_shl (a := 1) (by omega) (by omega)) ?_
        refine g_iconst hZ dX3_addMovesFrom_49 ?_
        refine g_ixor hZ dX3_addMovesFrom_50 (gi_not _) ?_
        refine g_iand hZ dX3_addMovesFrom_51 (gi_andn _ _) ?_
        rw [Nat.one_mul, Nat.one_mul]
        refine g_callV hZ (t_X1_seenFrom E S₁ w h n hg₁ t (by omega) _ hal (frB (brB B a t s)) hm2) kX3_44 ⟨by decide, by decide⟩ rfl rfl rfl rfl (Nat.le_of_ble_eq_true rfl) dX3_addMovesFrom_52 ?_
        rintro _ _ ⟨rfl, bm, rfl, hbm⟩
        have hbml := hbm.lt (n := 15) (fun k hk => by simp; omega)
        have hP : ∀ k, k < n → bm.testBit k = seenB w (frB (brB B a t s)) t k := fun k hk => by have hbmk : bm.testBit k = (decide (k < n) && seenB w (frB (brB B a t s)) t k) := hbm k; rw [hbmk, show decide (k < n) = true from decide_eq_true hk, Bool.true_and]
        have hor2 : Int32.ofInt ((a * 2 ^ 8 : Nat) : Int) ||| Int32.ofInt ((t * 2 ^ 4 : Nat) : Int) = Int32.ofInt ((256 * a + 16 * t : Nat) : Int) := by
          rw [gi_orh (k := 8) (by omega)]
          congr 2
          omega
        rw [e1, List.length_map] at hlen
        refine g_istore hZ dX3_addMovesFrom_55 (by decide) ?_
        refine g_aload_n hZ dX3_addMovesFrom_57 rfl ?_
        refine g_iload_n hZ dX3_addMovesFrom_58 rfl ?_
        refine g_bipush hZ (z := 8) dX3_addMovesFrom_59 rfl ?_
        refine g_ishl hZ dX3_addMovesFrom_61 (gi_shl (k := 8) (by omega) (by omega)) ?_
        refine g_iload hZ dX3_addMovesFrom_62 rfl ?_
        refine g_iconst hZ dX3_addMovesFrom_64 ?_
        refine g_ishl hZ dX3_addMovesFrom_65 (gi_shl (k := 4) (by omega) (by omega)) ?_
        refine g_ior hZ dX3_addMovesFrom_66 hor2 ?_
        refine g_iload hZ dX3_addMovesFrom_67 rfl ?_
        refine g_callV hZ (t_X3_addBurns E S₁ n hg₁.2.2.1 hn _ hx a t (by omega) (by omega) bm (by omega) _ hP (by rw [List.length_append]; have hbl : (burns w n B s a t).length = ((List.range n).filter (seenB w (frB (brB B a t s)) t)).length := rfl; omega)) kX3_48 ⟨by decide, by decide⟩ rfl rfl rfl rfl (Nat.le_of_ble_eq_true rfl) dX3_addMovesFrom_69 ?_
        rintro _ S₂ ⟨rfl, he₂, hx₂⟩
        refine g_iinc hZ dX3_addMovesFrom_72 rfl (by decide) ?_
        refine g_goto hZ 13 dX3_addMovesFrom_75 rfl ?_
        exact ih (t + 1) S₂ _ (by omega) (he.tr he₂) (hx₂.to (by rw [hfm, e1, List.append_assoc]; rfl)) rfl
  refine g_istore_n hZ dX3_addMovesFrom_9 (by decide) ?_
  refine g_iconst hZ dX3_addMovesFrom_10 ?_
  refine g_istore hZ dX3_addMovesFrom_11 (by decide) ?_
  exact loop n 0 S _ (by omega) Eqx.rf (hl.to (by simp)) rfl
theorem t_X3_fill (E : gE) (S : gS) (w h n : Nat) (hg : xG S w h n) (x : Nat) (B : Nat → Int) (hx : repX x n B) (hB : mBd B n) (s : Nat) (hs : s = 1 ∨ s = 2) (hc : cntZ B (s : Int) n ≤ 3) : Ct E LAY mX3_fill [.ref (gad E 3), jV (x : Int), iV (s : Int)] S (fun r S' => r = none ∧ Eqx [6, 7] S S' ∧ XL S' (mvs w n B (s : Int))) := by
  have hn := hg.n15
  have hO := hg.o
  have hmk := msk_rep hx hn (v := s) (by omega) (by omega)
  have hml := msk_lt x s
  have hfr := frM_rep hx hn hB
  refine Ct.intro LAY_ok (by decide +kernel) (Nat.le_of_ble_eq_true rfl) rfl ?_
  intro Z hZ
  refine g_aload_n hZ dX3_fill_0 rfl ?_
  refine g_iconst hZ dX3_fill_1 ?_
  refine g_puti hZ fX3_19 rfl rfl dX3_fill_2 ?_
  refine g_lload_n hZ dX3_fill_5 rfl ?_
  refine g_iload_n hZ dX3_fill_6 rfl ?_
  refine g_callS hZ (t_X0_mask E _ x s hx.1 (by omega) (by omega)) kX3_23 ⟨by decide, by decide⟩ rfl rfl (Nat.le_of_ble_eq_true rfl) dX3_fill_7 ?_
  rintro _ _ ⟨rfl, rfl⟩
  refine g_istore hZ dX3_fill_10 (by decide) ?_
  refine g_lload_n hZ dX3_fill_12 rfl ?_
  refine g_aload_n hZ dX3_fill_13 rfl ?_
  refine g_getr hZ fX3_15 rfl rfl dX3_fill_14 ?_
  refine g_geti hZ fX3_29 rfl rfl dX3_fill_17 hg.2.2.2.1 ?_
  refine g_callS hZ (t_X0_freeMask E _ x n hx.1 hn) kX3_34 ⟨by decide, by decide⟩ rfl rfl (Nat.le_of_ble_eq_true rfl) dX3_fill_20 ?_
  rintro _ _ ⟨rfl, rfl⟩
  have loop : ∀ (m2 a : Nat) (S₁ : gS) (L9 : List (Nat × Value)), a + m2 = n → Eqx [6, 7] S S₁ → XL S₁ ((List.range a).flatMap (mvA w n B (s : Int))) → lkeep L9 [0, 4, 5, 6] = [(0, .ref (gad E 3)), (4, iV (msk x s : Int)), (5, iV (frM x n : Int)), (6, iV (a : Int))] → Z S₁ L9 28 [] := by
    intro m2
    induction m2 with
    | zero =>
      intro a S₁ L9 ha he hl hL9
      refine g_keep hZ [0, 4, 5, 6] hL9 ?_
      refine g_iload hZ dX3_fill_28 rfl ?_
      refine g_aload_n hZ dX3_fill_30 rfl ?_
      refine g_getr hZ fX3_15 rfl rfl dX3_fill_31 ?_
      refine g_geti hZ fX3_37 rfl rfl dX3_fill_34 ((he 3 0 rfl).trans hg.2.2.1) ?_
      refine g_icmp_ge hZ 64 dX3_fill_37 rfl (by omega) (fun _ => ?_) (fun cX => absurd (by omega) cX)
      refine g_vret hZ dX3_fill_64 rfl ⟨rfl, he, hl.to (by rw [show a = n by omega]; rfl)⟩
    | succ m2 ih =>
      intro a S₁ L9 ha he hl hL9
      have hg₁ := hg.x he rfl
      have hfm : (List.range (a + 1)).flatMap (mvA w n B (s : Int)) = (List.range a).flatMap (mvA w n B (s : Int)) ++ mvA w n B (s : Int) a := by rw [List.range_succ, List.flatMap_append]; simp
      have hlen := mvsp_len (w := w) (n := n) (B := B) (s := (s : Int)) hn a (by omega)
      have hcm := cntZ_mono B (s : Int) (show a + 1 ≤ n by omega)
      have hca : cntZ B (s : Int) (a + 1) = cntZ B (s : Int) a + (if B a = (s : Int) then 1 else 0) := rfl
      refine g_keep hZ [0, 4, 5, 6] hL9 ?_
      refine g_iload hZ dX3_fill_28 rfl ?_
      refine g_aload_n hZ dX3_fill_30 rfl ?_
      refine g_getr hZ fX3_15 rfl rfl dX3_fill_31 ?_
      refine g_geti hZ fX3_37 rfl rfl dX3_fill_34 hg₁.2.2.1 ?_
      refine g_icmp_ge hZ 64 dX3_fill_37 rfl (by omega) (fun cX => absurd cX (by omega)) (fun _ => ?_)
      refine g_iload hZ dX3_fill_40 rfl ?_
      refine g_iload hZ dX3_fill_42 rfl ?_
      refine g_ishr hZ dX3_fill_44 (gi_shr (by omega) (by omega)) ?_
      refine g_iconst hZ dX3_fill_45 ?_
      refine g_iand hZ dX3_fill_46 (gi_and1 _) ?_
      rw [tb_div, hmk a]
      by_cases hsa : B a = (s : Int)
      · have e1 : mkB n B (s : Int) a = true := by unfold mkB; exact decide_eq_true ⟨by omega, hsa⟩
        rw [if_pos e1]
        rw [if_pos hsa] at hca
        refine g_if_eq hZ 58 dX3_fill_47 rfl (by omega) (fun cX => absurd cX (by decide)) (fun _ => ?_)
        refine g_aload_n hZ dX3_fill_50 rfl ?_
        refine g_iload hZ dX3_fill_51 rfl ?_
        refine g_iload hZ dX3_fill_53 rfl ?_
        refine g_callV hZ (t_X3_addMovesFrom E S₁ w h n hg₁ B hB (s : Int) (by omega) a (by omega) hsa _ hfr _ hl (by omega)) kX3_40 ⟨by decide, by decide⟩ rfl rfl rfl rfl (Nat.le_of_ble_eq_true rfl) dX3_fill_55 ?_
        rintro _ S₂ ⟨rfl, he₂, hl₂⟩
        refine g_iinc hZ dX3_fill_58 rfl (by decide) ?_
        refine g_goto hZ 28 dX3_fill_61 rfl ?_
        exact ih (a + 1) S₂ _ (by omega) (he.tr he₂) (hl₂.to hfm.symm) rfl
      · have e1 : ¬ mkB n B (s : Int) a = true := by unfold mkB; exact fun q => hsa (of_decide_eq_true q).2
        have e2 : mvA w n B (s : Int) a = [] := by unfold mvA; rw [if_neg hsa]
        rw [if_neg e1]
        refine g_if_eq hZ 58 dX3_fill_47 rfl (by omega) (fun _ => ?_) (fun cX => absurd (by decide) cX)
        refine g_iinc hZ dX3_fill_58 rfl (by decide) ?_
        refine g_goto hZ 28 dX3_fill_61 rfl ?_
        exact ih (a + 1) S₁ _ (by omega) he (hl.to (by rw [hfm, e2, List.append_nil])) rfl
  refine g_istore hZ dX3_fill_23 (by decide) ?_
  refine g_iconst hZ dX3_fill_25 ?_
  refine g_istore hZ dX3_fill_26 (by decide) ?_
  exact loop n 0 _ _ (by omega) (Eqx.rf.up rfl) ⟨upS_eq _ _ _ _, HL_nil _ _⟩ rfl
theorem t_X3_find (E : gE) (S : gS) (l : List (Nat × Nat × Nat)) (hl : XL S l) (hb : l.length ≤ 588) (hlt : ∀ q ∈ l, q.1 < 15 ∧ q.2.1 < 15 ∧ q.2.2 < 15) (q : Nat × Nat × Nat) (h1 : q.1 < 15) (h2 : q.2.1 < 15) (h3 : q.2.2 < 15) : Ct E LAY mX3_find [.ref (gad E 3), iV (q.1 : Int), iV (q.2.1 : Int), iV (q.2.2 : Int)] S (fun r S' => S = S' ∧ ∃ z, r = some (iV z) ∧ ((∃ i : Nat, l[i]? = some q ∧ z = (i : Int)) ∨ (q ∉ l ∧ z = -1))) := by
  obtain ⟨x1, x2⟩ := hl
  refine Ct.intro LAY_ok (by decide +kernel) (Nat.le_of_ble_eq_true rfl) rfl ?_
  intro Z hZ
  have hor1 : Int32.ofInt ((q.1 * 2 ^ 8 : Nat) : Int) ||| Int32.ofInt ((q.2.1 * 2 ^ 4 : Nat) : Int) = Int32.ofInt (((16 * q.1 + q.2.1) * 2 ^ 4 : Nat) : Int) := by
    rw [gi_orh (k := 8) (by omega)]
    congr 2
    omega
  have hor2 : Int32.ofInt (((16 * q.1 + q.2.1) * 2 ^ 4 : Nat) : Int) ||| Int32.ofInt (q.2.2 : Int) = Int32.ofInt (xenc q) := by
    rw [gi_orh (k := 4) (by omega)]
    congr 1
    unfold xenc
    omega
  have hxr : R32 (xenc q) := by unfold xenc; omega
  have loop : ∀ (m k : Nat) (L9 : List (Nat × Value)), k + m = l.length → (∀ j, j < k → l[j]? ≠ some q) → lkeep L9 [0, 4, 5] = [(0, .ref (gad E 3)), (4, iV (xenc q)), (5, iV (k : Int))] → Z S L9 15 [] := by
    intro m
    induction m with
    | zero =>
      intro k L9 hk hno hL9
      refine g_keep hZ [0, 4, 5] hL9 ?_
      refine g_iload hZ dX3_find_15 rfl ?_
      refine g_aload_n hZ dX3_find_17 rfl ?_
      refine g_geti hZ fX3_19 rfl rfl dX3_find_18 x1 ?_
      refine g_icmp_ge hZ 45 dX3_find_21 rfl (by omega) (fun _ => ?_) (fun cX => absurd (by omega) cX)
      refine g_iconst hZ dX3_find_45 ?_
      refine g_iret hZ dX3_find_46 rfl ⟨rfl, -1, rfl, Or.inr ⟨fun hin => ?_, rfl⟩⟩
      obtain ⟨j, hj⟩ := List.getElem?_of_mem hin
      exact hno j (by have := (List.getElem?_eq_some_iff.mp hj).1; omega) hj
    | succ m ih =>
      intro k L9 hk hno hL9
      obtain ⟨p, hp⟩ : ∃ p, l[k]? = some p := ⟨_, List.getElem?_eq_getElem (by omega)⟩
      have hpl := hlt p (List.mem_of_getElem? hp)
      have hpk := x2 k p hp
      have hpr : R32 (xenc p) := by unfold xenc; omega
      refine g_keep hZ [0, 4, 5] hL9 ?_
      refine g_iload hZ dX3_find_15 rfl ?_
      refine g_aload_n hZ dX3_find_17 rfl ?_
      refine g_geti hZ fX3_19 rfl rfl dX3_find_18 x1 ?_
      refine g_icmp_ge hZ 45 dX3_find_21 rfl (by omega) (fun cX => absurd cX (by omega)) (fun _ => ?_)
      refine g_aload_n hZ dX3_find_24 rfl ?_
      refine g_getr hZ fX3_9 rfl rfl dX3_find_25 ?_
      refine g_iload hZ dX3_find_28 rfl ?_
      refine g_iald hZ (k) rfl dX3_find_30 (rfl) (by omega) (by decide) (hpk) ?_
      refine g_iload hZ dX3_find_31 rfl ?_
      refine g_icmp_ne hZ 39 dX3_find_33 rfl ⟨hpr, hxr⟩ (fun c => ?_) (fun c => ?_)
      · refine g_iinc hZ dX3_find_39 rfl (by decide) ?_
        refine g_goto hZ 15 dX3_find_42 rfl ?_
        refine ih (k + 1) _ (by omega) (fun j hj => ?_) rfl
        by_cases z : j = k
        · subst z
          rw [hp]
          intro e
          cases e
          exact c rfl
        · exact hno j (by omega)
      · have e : p = q := by
          obtain ⟨p1, p2, p3⟩ := p
          obtain ⟨q1, q2, q3⟩ := q
          unfold xenc at c
          dsimp only at c hpl h1 h2 h3
          have a1 : p1 = q1 := by omega
          have a2 : p2 = q2 := by omega
          have a3 : p3 = q3 := by omega
          rw [a1, a2, a3]
        refine g_iload hZ dX3_find_36 rfl ?_
        refine g_iret hZ dX3_find_38 rfl ⟨rfl, (k : Int), rfl, Or.inl ⟨k, by rw [hp, e], rfl⟩⟩
  refine g_iload_n hZ dX3_find_0 rfl ?_
  refine g_bipush hZ (z := 8) dX3_find_1 rfl ?_
  refine g_ishl hZ dX3_find_3 (gi_shl (k := 8) (by omega) (by omega)) ?_
  refine g_iload_n hZ dX3_find_4 rfl ?_
  refine g_iconst hZ dX3_find_5 ?_
  refine g_ishl hZ dX3_find_6 (gi_shl (k := 4) (by omega) (by omega)) ?_
  refine g_ior hZ dX3_find_7 hor1 ?_
  refine g_iload_n hZ dX3_find_8 rfl ?_
  refine g_ior hZ dX3_find_9 hor2 ?_
  refine g_istore hZ dX3_find_10 (by decide) ?_
  refine g_iconst hZ dX3_find_12 ?_
  refine g_istore hZ dX3_find_13 (by decide) ?_
  exact loop l.length 0 _ (by omega) (fun j hj => absurd hj (Nat.not_lt_zero j)) rfl
theorem xenc_nat (q : Nat × Nat × Nat) : xenc q = ((256 * q.1 + 16 * q.2.1 + q.2.2 : Nat) : Int) := by unfold xenc; omega
theorem t_X3_fromOf (E : gE) (S : gS) (i : Nat) (hi : i < 588) (q : Nat × Nat × Nat) (hq : S 7 i = xenc q) (h1 : q.1 < 15) (h2 : q.2.1 < 15) (h3 : q.2.2 < 15) : Ct E LAY mX3_fromOf [.ref (gad E 3), iV (i : Int)] S (fun r S' => S = S' ∧ r = some (iV (q.1 : Int))) := by
  refine Ct.intro LAY_ok (by decide +kernel) (Nat.le_of_ble_eq_true rfl) rfl ?_
  intro Z hZ
  rw [xenc_nat] at hq
  refine g_aload_n hZ dX3_fromOf_0 rfl ?_
  refine g_getr hZ fX3_9 rfl rfl dX3_fromOf_1 ?_
  refine g_iload_n hZ dX3_fromOf_4 rfl ?_
  refine g_iald hZ (i) rfl dX3_fromOf_5 (rfl) (by omega) (by decide) (hq) ?_
  refine g_bipush hZ (z := 8) dX3_fromOf_6 rfl ?_
  refine g_ishr hZ dX3_fromOf_8 (gi_shr (k := 8) (by omega) (by omega)) ?_
  refine g_iret hZ dX3_fromOf_9 rfl ⟨rfl, by rw [show (256 * q.1 + 16 * q.2.1 + q.2.2) / 2 ^ 8 = q.1 by omega]⟩
theorem t_X3_toOf (E : gE) (S : gS) (i : Nat) (hi : i < 588) (q : Nat × Nat × Nat) (hq : S 7 i = xenc q) (h1 : q.1 < 15) (h2 : q.2.1 < 15) (h3 : q.2.2 < 15) : Ct E LAY mX3_toOf [.ref (gad E 3), iV (i : Int)] S (fun r S' => S = S' ∧ r = some (iV (q.2.1 : Int))) := by
  refine Ct.intro LAY_ok (by decide +kernel) (Nat.le_of_ble_eq_true rfl) rfl ?_
  intro Z hZ
  rw [xenc_nat] at hq
  refine g_aload_n hZ dX3_toOf_0 rfl ?_
  refine g_getr hZ fX3_9 rfl rfl dX3_toOf_1 ?_
  refine g_iload_n hZ dX3_toOf_4 rfl ?_
  refine g_iald hZ (i) rfl dX3_toOf_5 (rfl) (by omega) (by decide) (hq) ?_
  refine g_iconst hZ dX3_toOf_6 ?_
  refine g_ishr hZ dX3_toOf_7 (gi_shr (k := 4) (by omega) (by omega)) ?_
  refine g_bipush hZ (z := 15) dX3_toOf_8 rfl ?_
  refine g_iand hZ dX3_toOf_10 (gi_mask _ 4) ?_
  refine g_iret hZ dX3_toOf_11 rfl ⟨rfl, by rw [show (256 * q.1 + 16 * q.2.1 + q.2.2) / 2 ^ 4 % 2 ^ 4 = q.2.1 by omega]⟩
theorem t_X3_burntOf (E : gE) (S : gS) (i : Nat) (hi : i < 588) (q : Nat × Nat × Nat) (hq : S 7 i = xenc q) (h1 : q.1 < 15) (h2 : q.2.1 < 15) (h3 : q.2.2 < 15) : Ct E LAY mX3_burntOf [.ref (gad E 3), iV (i : Int)] S (fun r S' => S = S' ∧ r = some (iV (q.2.2 : Int))) := by
  refine Ct.intro LAY_ok (by decide +kernel) (Nat.le_of_ble_eq_true rfl) rfl ?_
  intro Z hZ
  rw [xenc_nat] at hq
  refine g_aload_n hZ dX3_burntOf_0 rfl ?_
  refine g_getr hZ fX3_9 rfl rfl dX3_burntOf_1 ?_
  refine g_iload_n hZ dX3_burntOf_4 rfl ?_
  refine g_iald hZ (i) rfl dX3_burntOf_5 (rfl) (by omega) (by decide) (hq) ?_
  refine g_bipush hZ (z := 15) dX3_burntOf_6 rfl ?_
  refine g_iand hZ dX3_burntOf_8 (gi_mask _ 4) ?_
  refine g_iret hZ dX3_burntOf_9 rfl ⟨rfl, by rw [show (256 * q.1 + 16 * q.2.1 + q.2.2) % 2 ^ 4 = q.2.2 by omega]⟩
theorem t_X3_after (E : gE) (S : gS) (w h n : Nat) (hO : gOK w h n) (x : Nat) (B : Nat → Int) (hx : repX x n B) (s : Nat) (hs : s = 1 ∨ s = 2) (i : Nat) (hi : i < 588) (q : Nat × Nat × Nat) (hq : S 7 i = xenc q) (hqm : q ∈ mvs w n B (s : Int)) : Ct E LAY mX3_after [.ref (gad E 3), jV (x : Int), iV (s : Int), iV (i : Int)] S (fun r S' => S = S' ∧ ∃ y : Nat, r = some (jV (y : Int)) ∧ repX y n (aftB B q (s : Int))) := by
  have hn := hO.2.2.2.2.2
  obtain ⟨m1, m2, m3, m4, m5, m6, m7, m8⟩ := mvs_facts hO (by omega) hqm
  have b1 := rep_bit (x := x) (n := n) (f := q.1) (v := s) (by omega) (by omega) (by omega)
  have b2 := rep_bit (x := x) (n := n) (f := q.2.1) (v := s) (by omega) (by omega) (by omega)
  have b3 := rep_bit (x := x) (n := n) (f := q.2.2) (v := 3) (by omega) (by omega) (by omega)
  have hhi : ∀ i, 45 ≤ i → (andn x (2 ^ (15 * (s - 1) + q.1))).testBit i = false := by
    intro i hi
    rw [andn_tb, rep_hi hx hi]; rfl
  have hyl := rep_lt hhi
  have s1 := or_lt45 hyl b2
  have s2 := or_lt45 s1 b3
  refine Ct.intro LAY_ok (by decide +kernel) (Nat.le_of_ble_eq_true rfl) rfl ?_
  intro Z hZ
  refine g_lload_n hZ dX3_after_0 rfl ?_
  refine g_aload_n hZ dX3_after_1 rfl ?_
  refine g_iload hZ dX3_after_2 rfl ?_
  refine g_callV hZ (t_X3_fromOf E S i hi q hq (by omega) (by omega) (by omega)) kX3_51 ⟨by decide, by decide⟩ rfl rfl rfl rfl (Nat.le_of_ble_eq_true rfl) dX3_after_4 ?_
  rintro _ _ ⟨rfl, rfl⟩
  refine g_iload_n hZ dX3_after_7 rfl ?_
  refine g_callS hZ (t_X0_bit E S q.1 s (by omega) (by omega) (by omega)) kX3_55 ⟨by decide, by decide⟩ rfl rfl (Nat.le_of_ble_eq_true rfl) dX3_after_8 ?_
  rintro _ _ ⟨rfl, rfl⟩
  refine g_ldc2 hZ (z := -1) dX3_after_11 (TS_m (by decide +kernel) rfl) ?_
  refine g_lxor hZ dX3_after_14 (gj_not _) ?_
  refine g_land hZ dX3_after_15 (gj_andn _ _) ?_
  refine g_aload_n hZ dX3_after_16 rfl ?_
  refine g_iload hZ dX3_after_17 rfl ?_
  refine g_callV hZ (t_X3_toOf E S i hi q hq (by omega) (by omega) (by omega)) kX3_61 ⟨by decide, by decide⟩ rfl rfl rfl rfl (Nat.le_of_ble_eq_true rfl) dX3_after_19 ?_
  rintro _ _ ⟨rfl, rfl⟩
  refine g_iload_n hZ dX3_after_22 rfl ?_
  refine g_callS hZ (t_X0_bit E S q.2.1 s (by omega) (by omega) (by omega)) kX3_55 ⟨by decide, by decide⟩ rfl rfl (Nat.le_of_ble_eq_true rfl) dX3_after_23 ?_
  rintro _ _ ⟨rfl, rfl⟩
  refine g_lor hZ dX3_after_26 (gj_or (by omega) (by omega)) ?_
  refine g_lstore hZ dX3_after_27 (by decide) ?_
  refine g_lload hZ dX3_after_29 rfl ?_
  refine g_aload_n hZ dX3_after_31 rfl ?_
  refine g_iload hZ dX3_after_32 rfl ?_
  refine g_callV hZ (t_X3_burntOf E S i hi q hq (by omega) (by omega) (by omega)) kX3_64 ⟨by decide, by decide⟩ rfl rfl rfl rfl (Nat.le_of_ble_eq_true rfl) dX3_after_34 ?_
  rintro _ _ ⟨rfl, rfl⟩
  refine g_iconst hZ dX3_after_37 ?_
  refine g_callS hZ (As := [iV (q.2.2 : Int), iV ((3 : Nat) : Int)]) (t_X0_bit E S q.2.2 3 (by omega) (by omega) (by omega)) kX3_55 ⟨by decide, by decide⟩ rfl rfl (Nat.le_of_ble_eq_true rfl) dX3_after_38 ?_
  rintro _ _ ⟨rfl, rfl⟩
  refine g_lor hZ dX3_after_41 (gj_or (by omega) (by omega)) ?_
  refine g_lret hZ dX3_after_42 rfl ⟨rfl, _, rfl, s2, fun v k h1 h3 hk => ?_⟩
  rw [Nat.testBit_or, Nat.testBit_or, andn_tb, tb_p2, tb_p2, tb_p2, hx.2 v k h1 h3 hk]
  have d1 : decide (15 * (s - 1) + q.1 = 15 * (v - 1) + k) = decide (v = s ∧ k = q.1) := by rw [decide_eq_decide]; omega
  have d2 : decide (15 * (s - 1) + q.2.1 = 15 * (v - 1) + k) = decide (v = s ∧ k = q.2.1) := by rw [decide_eq_decide]; omega
  have d3 : decide (15 * (3 - 1) + q.2.2 = 15 * (v - 1) + k) = decide (v = 3 ∧ k = q.2.2) := by rw [decide_eq_decide]; omega
  rw [d1, d2, d3]
  rw [Bool.eq_iff_iff]
  simp only [Bool.or_eq_true, Bool.and_eq_true, Bool.not_eq_true', decide_eq_true_eq, decide_eq_false_iff_not]
  unfold aftB
  by_cases k3 : k = q.2.2
  · subst k3
    rw [if_pos rfl]
    constructor
    · rintro ((⟨⟨_, a1⟩, a2⟩ | a1) | a1)
      · rcases m8 with z | z
        · rw [z, m4] at a1
          exact absurd ⟨by omega, z⟩ a2
        · omega
      · omega
      · exact ⟨m3, by omega⟩
    · rintro ⟨a1, a2⟩
      right
      exact ⟨by omega, rfl⟩
  · rw [if_neg k3]
    by_cases k2 : k = q.2.1
    · subst k2
      rw [if_pos rfl]
      constructor
      · rintro ((⟨⟨_, a1⟩, a2⟩ | a1) | a1)
        · omega
        · exact ⟨m2, by omega⟩
        · exact absurd a1.2 k3
      · rintro ⟨a1, a2⟩
        left; right
        exact ⟨by omega, rfl⟩
    · rw [if_neg k2]
      by_cases k1 : k = q.1
      · subst k1
        rw [if_pos rfl]
        constructor
        · rintro ((⟨⟨_, a1⟩, a2⟩ | a1) | a1)
          · exact absurd ⟨by omega, rfl⟩ a2
          · exact absurd a1.2 k2
          · exact absurd a1.2 k3
        · rintro ⟨a1, a2⟩
          omega
      · rw [if_neg k1]
        constructor
        · rintro ((⟨a1, a2⟩ | a1) | a1)
          · exact a1
          · exact absurd a1.2 k2
          · exact absurd a1.2 k3
        · intro a1
          exact Or.inl (Or.inl ⟨a1, fun z => k1 z.2⟩)
