/-! the class: Play: slots -/
def hC (c : Nat) : Nat := (Int64.ofInt ((c : Int) * -7046029254386353131)).toBitVec.toNat / 2 ^ 52
theorem hC_lt (c : Nat) : hC c < 4096 := by
  have h : (Int64.ofInt ((c : Int) * -7046029254386353131)).toBitVec.toNat < 2 ^ 64 := (Int64.ofInt ((c : Int) * -7046029254386353131)).toBitVec.isLt
  unfold hC
  have e : (2 : Nat) ^ 64 = 4096 * 2 ^ 52 := by decide
  exact Nat.div_lt_of_lt_mul (by rw [Nat.mul_comm]; omega)
theorem modsep_C : modsep 4096 := ⟨by omega, fun a i j h1 h2 e => by omega⟩
theorem gj_top (x : Int64) : (x.toUInt64 >>> ((Int32.ofInt 52).toInt64.toUInt64 &&& Int64.toUInt64 63)).toInt64 = Int64.ofInt ((x.toBitVec.toNat / 2 ^ 52 : Nat) : Int) := by
  have hx : x.toBitVec.toNat < 2 ^ 64 := x.toBitVec.isLt
  have e : x = lN x.toBitVec.toNat := wb_inj (by rw [wb_tb]; exact BitVec.eq_of_toNat_eq (by rw [BitVec.toNat_ofNat, Nat.mod_eq_of_lt hx]))
  have h := wb_shr (n := x.toBitVec.toNat) (k := 52) hx (by omega)
  rw [← e] at h
  rw [gj_nat]
  exact h
/-- the class's list of what is found, by its numbers -/
def PS (S : gS) (sz fo sl : Nat) (L : List Nat) : Prop := S sz 0 = (L.length : Int) ∧ HL (fun p : Nat => (p : Int)) (S fo) L ∧ htI (S sl) 4096 hC L ∧ L.Nodup ∧ L.length ≤ 1500 ∧ ∀ x ∈ L, x < 35184372088832
theorem PS.x {vs : List Nat} {S S1 : gS} {sz fo sl : Nat} {L : List Nat} (hh : PS S sz fo sl L) (he : Eqx vs S S1) (h1 : vs.contains sz = false) (h2 : vs.contains fo = false) (h3 : vs.contains sl = false) : PS S1 sz fo sl L := by
  have e1 : S1 fo = S fo := funext fun j => he fo j h2
  have e2 : S1 sl = S sl := funext fun j => he sl j h3
  exact ⟨(he sz 0 h1).trans hh.1, by rw [e1]; exact hh.2.1, by rw [e2]; exact hh.2.2.1, hh.2.2.2⟩
/-- the slot of a number, or where it is to lie -/
def slP (f : Nat → Int) (L : List Nat) (c s : Nat) : Prop := s < 4096 ∧ ((∃ i : Nat, L[i]? = some c ∧ f s = ((i + 1 : Nat) : Int)) ∨ (c ∉ L ∧ ∃ d, d < 4096 ∧ s = (hC c + d) % 4096 ∧ f s = 0 ∧ ∀ e, e < d → 0 < f ((hC c + e) % 4096)))
theorem t_X4_slotOfL (E : gE) (S : gS) (L : List Nat) (hP : PS S 12 13 16 L) (c : Nat) (hc : c < 35184372088832) : Ct E LAY mX4_slotOf [.ref (gad E 5), jV (c : Int)] S (fun r S' => S = S' ∧ ∃ s : Nat, r = some (iV (s : Int)) ∧ slP (S 16) L c s) := by
  obtain ⟨p1, hL, hT, p4, p5, hv⟩ := hP
  obtain ⟨dS, hdS, hzS⟩ := ht_stop modsep_C hT (by omega) (hC c)
  refine Ct.intro LAY_ok (by decide +kernel) (Nat.le_of_ble_eq_true rfl) rfl ?_
  intro Z hZ
  have fin : ∀ (s : Nat) (L9 : List (Nat × Value)), slP (S 16) L c s → lkeep L9 [3] = [(3, iV (s : Int))] → Z S L9 48 [] := by
    intro s L9 hs hL9
    refine g_keep hZ [3] hL9 ?_
    refine g_iload_n hZ dX4_slotOf_48 rfl ?_
    refine g_iret hZ dX4_slotOf_49 rfl ⟨rfl, s, rfl, hs⟩
  have loop : ∀ (m d : Nat) (L9 : List (Nat × Value)), d + m = dS → (∀ e, e < d → 0 < S 16 ((hC c + e) % 4096) ∧ L[(S 16 ((hC c + e) % 4096)).toNat - 1]? ≠ some c) → lkeep L9 [0, 1, 3, 4] = [(0, .ref (gad E 5)), (1, jV (c : Int)), (3, iV (((hC c + d) % 4096 : Nat) : Int)), (4, iV (d : Int))] → Z S L9 13 [] := by
    intro m
    induction m with
    | zero =>
      intro d L9 hd hp hL9
      refine g_keep hZ [0, 1, 3, 4] hL9 ?_
      have : d = dS := by omega
      subst this
      refine g_iload hZ dX4_slotOf_13 rfl ?_
      refine g_sipush hZ (z := 4096) dX4_slotOf_15 rfl ?_
      refine g_icmp_ge hZ 64 dX4_slotOf_18 rfl (by omega) (fun cX => absurd cX (by omega)) (fun _ => ?_)
      refine g_aload_n hZ dX4_slotOf_21 rfl ?_
      refine g_getr hZ fX4_23 rfl rfl dX4_slotOf_22 ?_
      refine g_iload_n hZ dX4_slotOf_25 rfl ?_
      refine g_iald hZ (((hC c + d) % 4096)) rfl dX4_slotOf_26 (rfl) (by omega) (by decide) (hzS) ?_
      refine g_istore hZ dX4_slotOf_27 (by decide) ?_
      refine g_iload hZ dX4_slotOf_29 rfl ?_
      refine g_if_eq hZ 48 dX4_slotOf_31 rfl (by omega) (fun _ => ?_) (fun cX => absurd (by omega) cX)
      exact fin ((hC c + d) % 4096) _ ⟨Nat.mod_lt _ (by omega), Or.inr ⟨ht_no hT hzS hp, d, hdS, rfl, hzS, fun e he => (hp e he).1⟩⟩ rfl
    | succ m ih =>
      intro d L9 hd hp hL9
      refine g_keep hZ [0, 1, 3, 4] hL9 ?_
      have hf := hT.1 ((hC c + d) % 4096) (Nat.mod_lt _ (by omega))
      generalize hz : S 16 ((hC c + d) % 4096) = z at *
      refine g_iload hZ dX4_slotOf_13 rfl ?_
      refine g_sipush hZ (z := 4096) dX4_slotOf_15 rfl ?_
      refine g_icmp_ge hZ 64 dX4_slotOf_18 rfl (by omega) (fun cX => absurd cX (by omega)) (fun _ => ?_)
      refine g_aload_n hZ dX4_slotOf_21 rfl ?_
      refine g_getr hZ fX4_23 rfl rfl dX4_slotOf_22 ?_
      refine g_iload_n hZ dX4_slotOf_25 rfl ?_
      refine g_iald hZ (((hC c + d) % 4096)) rfl dX4_slotOf_26 (rfl) (by omega) (by decide) (hz) ?_
      refine g_istore hZ dX4_slotOf_27 (by decide) ?_
      refine g_iload hZ dX4_slotOf_29 rfl ?_
      refine g_if_eq hZ 48 dX4_slotOf_31 rfl (by omega) (fun c1 => ?_) (fun c1 => ?_)
      · have z0 : z = 0 := by omega
        rw [z0] at hz
        exact fin ((hC c + d) % 4096) _ ⟨Nat.mod_lt _ (by omega), Or.inr ⟨ht_no hT hz hp, d, by omega, rfl, hz, fun e he => (hp e he).1⟩⟩ rfl
      · obtain ⟨x, hx⟩ : ∃ x, L[z.toNat - 1]? = some x := ⟨_, List.getElem?_eq_getElem (by omega)⟩
        have hx2 : S 13 (z.toNat - 1) = (x : Int) := hL _ x hx
        have hx3 := hv x (List.mem_of_getElem? hx)
        refine g_aload_n hZ dX4_slotOf_34 rfl ?_
        refine g_getr hZ fX4_9 rfl rfl dX4_slotOf_35 ?_
        refine g_iload hZ dX4_slotOf_38 rfl ?_
        refine g_iconst hZ dX4_slotOf_40 ?_
        refine g_isub hZ dX4_slotOf_41 ?_
        refine g_lald hZ ((z.toNat - 1)) rfl dX4_slotOf_42 (by omega) (by omega) (by decide) (hx2) ?_
        refine g_lload_n hZ dX4_slotOf_43 rfl ?_
        refine g_lcmp hZ dX4_slotOf_44 (by omega) (by omega) ?_
        by_cases q : x = c
        · rw [if_pos (by omega)]
          refine g_if_ne hZ 50 dX4_slotOf_45 rfl (by omega) (fun cX => absurd (by omega) cX) (fun _ => ?_)
          rw [q] at hx
          exact fin ((hC c + d) % 4096) _ ⟨Nat.mod_lt _ (by omega), Or.inl ⟨z.toNat - 1, hx, by omega⟩⟩ rfl
        · rw [if_neg (by omega)]
          refine g_if_ne hZ 50 dX4_slotOf_45 rfl (by split <;> omega) (fun _ => ?_) (fun cX => absurd cX (by split <;> omega))
          refine g_iload_n hZ dX4_slotOf_50 rfl ?_
          refine g_iconst hZ dX4_slotOf_51 ?_
          refine g_iadd hZ dX4_slotOf_52 ?_
          refine g_sipush hZ (z := 4095) dX4_slotOf_53 rfl ?_
          refine g_iand hZ dX4_slotOf_56 (gi_mask ((hC c + d) % 4096 + 1) 12) ?_
          refine g_istore_n hZ dX4_slotOf_57 (by decide) ?_
          refine g_iinc hZ dX4_slotOf_58 rfl (by decide) ?_
          refine g_goto hZ 13 dX4_slotOf_61 rfl ?_
          have e9 : ((hC c + d) % 4096 + 1) % 4096 = (hC c + (d + 1)) % 4096 := by omega
          refine ih (d + 1) _ (by omega) (fun e he => ?_) (by show _ = [_, _, (3, iV (((hC c + (d + 1)) % 4096 : Nat) : Int)), _]; rw [← e9]; rfl)
          by_cases q2 : e = d
          · subst q2
            rw [hz]
            exact ⟨by omega, fun e8 => by rw [hx] at e8; cases e8; exact q rfl⟩
          · exact hp e (by omega)
  refine g_lload_n hZ dX4_slotOf_0 rfl ?_
  refine g_ldc2 hZ (z := -7046029254386353131) dX4_slotOf_1 (TS_m (by decide +kernel) rfl) ?_
  refine g_lmul hZ dX4_slotOf_4 ?_
  refine g_bipush hZ (z := 52) dX4_slotOf_5 rfl ?_
  refine g_lushr hZ dX4_slotOf_7 (gj_top _) ?_
  refine g_l2i hZ dX4_slotOf_8 (gj_l2i _) ?_
  refine g_istore_n hZ dX4_slotOf_9 (by decide) ?_
  refine g_iconst hZ dX4_slotOf_10 ?_
  refine g_istore hZ dX4_slotOf_11 (by decide) ?_
  exact loop dS 0 _ (by omega) (fun e he => absurd he (Nat.not_lt_zero e)) (by rw [Nat.add_zero, Nat.mod_eq_of_lt (hC_lt c)]; rfl)
theorem t_X4_findL (E : gE) (S : gS) (L : List Nat) (hP : PS S 12 13 16 L) (c : Nat) (hc : c < 35184372088832) : Ct E LAY mX4_find [.ref (gad E 5), jV (c : Int)] S (fun r S' => S = S' ∧ ∃ z, r = some (iV z) ∧ ((z = -1 ∧ c ∉ L) ∨ ∃ i : Nat, z = (i : Int) ∧ L[i]? = some c)) := by
  refine Ct.intro LAY_ok (by decide +kernel) (Nat.le_of_ble_eq_true rfl) rfl ?_
  intro Z hZ
  refine g_aload_n hZ dX4_find_0 rfl ?_
  refine g_getr hZ fX4_23 rfl rfl dX4_find_1 ?_
  refine g_aload_n hZ dX4_find_4 rfl ?_
  refine g_lload_n hZ dX4_find_5 rfl ?_
  refine g_callV hZ (t_X4_slotOfL E S L hP c hc) kX4_59 ⟨by decide, by decide⟩ rfl rfl rfl rfl (Nat.le_of_ble_eq_true rfl) dX4_find_6 ?_
  rintro _ _ ⟨rfl, s, rfl, hs, hs2⟩
  rcases hs2 with ⟨i, i1, i2⟩ | ⟨n1, d, d1, d2, d3, d4⟩
  · refine g_iald hZ (s) rfl dX4_find_9 (rfl) (by omega) (by decide) (i2) ?_
    refine g_iconst hZ dX4_find_10 ?_
    refine g_isub hZ dX4_find_11 ?_
    refine g_iret hZ dX4_find_12 rfl ⟨rfl, _, rfl, Or.inr ⟨i, by omega, i1⟩⟩
  · refine g_iald hZ (s) rfl dX4_find_9 (rfl) (by omega) (by decide) (d3) ?_
    refine g_iconst hZ dX4_find_10 ?_
    refine g_isub hZ dX4_find_11 ?_
    refine g_iret hZ dX4_find_12 rfl ⟨rfl, _, rfl, Or.inl ⟨by omega, n1⟩⟩
theorem t_X4_addL (E : gE) (S : gS) (L : List Nat) (hP : PS S 12 13 16 L) (c : Nat) (hc : c < 35184372088832) : Ct E LAY mX4_add [.ref (gad E 5), jV (c : Int)] S (fun r S' => ∃ z, r = some (iV z) ∧ Eqx [12, 13, 16] S S' ∧ ((z = 0 ∧ addL L [c] = none) ∨ ∃ L2, z = 1 ∧ addL L [c] = some L2 ∧ PS S' 12 13 16 L2)) := by
  obtain ⟨p1, hL, hT, p4, p5, hv⟩ := id hP
  refine Ct.intro LAY_ok (by decide +kernel) (Nat.le_of_ble_eq_true rfl) rfl ?_
  intro Z hZ
  refine g_aload_n hZ dX4_add_0 rfl ?_
  refine g_lload_n hZ dX4_add_1 rfl ?_
  refine g_callV hZ (t_X4_slotOfL E S L hP c hc) kX4_59 ⟨by decide, by decide⟩ rfl rfl rfl rfl (Nat.le_of_ble_eq_true rfl) dX4_add_2 ?_
  rintro _ _ ⟨rfl, s, rfl, hs, hs2⟩
  rcases hs2 with ⟨i, i1, i2⟩ | ⟨n1, d, d1, d2, d3, d4⟩
  · have ea : addL L [c] = some L := by unfold addL; rw [if_pos (List.mem_of_getElem? i1)]; rfl
    refine g_istore_n hZ dX4_add_5 (by decide) ?_
    refine g_aload_n hZ dX4_add_6 rfl ?_
    refine g_getr hZ fX4_23 rfl rfl dX4_add_7 ?_
    refine g_iload_n hZ dX4_add_10 rfl ?_
    refine g_iald hZ (s) rfl dX4_add_11 (rfl) (by omega) (by decide) (i2) ?_
    refine g_if_eq hZ 17 dX4_add_12 rfl (by have := (List.getElem?_eq_some_iff.mp i1).1; omega) (fun cX => absurd cX (by omega)) (fun _ => ?_)
    refine g_iconst hZ dX4_add_15 ?_
    refine g_zret hZ dX4_add_16 rfl (Or.inr rfl) ⟨_, rfl, Eqx.rf, Or.inr ⟨L, rfl, ea, hP⟩⟩
  · refine g_istore_n hZ dX4_add_5 (by decide) ?_
    refine g_aload_n hZ dX4_add_6 rfl ?_
    refine g_getr hZ fX4_23 rfl rfl dX4_add_7 ?_
    refine g_iload_n hZ dX4_add_10 rfl ?_
    refine g_iald hZ (s) rfl dX4_add_11 (rfl) (by omega) (by decide) (d3) ?_
    refine g_if_eq hZ 17 dX4_add_12 rfl (by omega) (fun _ => ?_) (fun cX => absurd (by omega) cX)
    refine g_aload_n hZ dX4_add_17 rfl ?_
    refine g_geti hZ fX4_30 rfl rfl dX4_add_18 p1 ?_
    refine g_sipush hZ (z := 1500) dX4_add_21 rfl ?_
    refine g_icmp_lt hZ 29 dX4_add_24 rfl (by omega) (fun c1 => ?_) (fun c1 => ?_)
    · have ea : addL L [c] = some (L ++ [c]) := by unfold addL; rw [if_neg n1, if_neg (by omega)]; rfl
      refine g_aload_n hZ dX4_add_29 rfl ?_
      refine g_getr hZ fX4_9 rfl rfl dX4_add_30 ?_
      refine g_aload_n hZ dX4_add_33 rfl ?_
      refine g_geti hZ fX4_30 rfl rfl dX4_add_34 p1 ?_
      refine g_lload_n hZ dX4_add_37 rfl ?_
      refine g_last hZ (L.length) rfl dX4_add_38 (rfl) (by omega) (by decide) ?_
      refine g_aload_n hZ dX4_add_39 rfl ?_
      refine g_dup hZ dX4_add_40 rfl ?_
      refine g_geti hZ fX4_30 rfl rfl dX4_add_41 p1 ?_
      refine g_iconst hZ dX4_add_44 ?_
      refine g_iadd hZ dX4_add_45 ?_
      refine g_puti hZ fX4_30 rfl rfl dX4_add_46 ?_
      refine g_aload_n hZ dX4_add_49 rfl ?_
      refine g_getr hZ fX4_23 rfl rfl dX4_add_50 ?_
      refine g_iload_n hZ dX4_add_53 rfl ?_
      refine g_aload_n hZ dX4_add_54 rfl ?_
      refine g_geti hZ fX4_30 rfl rfl dX4_add_55 (upS_eq _ _ _ _) ?_
      refine g_iast hZ (s) rfl dX4_add_58 (rfl) (by omega) (by decide) ?_
      refine g_iconst hZ dX4_add_59 ?_
      refine g_zret hZ dX4_add_60 rfl (Or.inr rfl) ⟨_, rfl, ((Eqx.rf.up rfl).up rfl).up rfl, Or.inr ⟨_, rfl, ea, ?_⟩⟩
      refine ⟨?_, ?_, ?_, ?_, ?_, ?_⟩
      · rw [upS_v _ _ (by decide), upS_eq, List.length_append]; rfl
      · refine HL_add hL (fun j hj => ?_) ?_
        · rw [upS_v _ _ (by decide), upS_v _ _ (by decide), upS_j _ _ (by omega)]
        · rw [upS_v _ _ (by decide), upS_v _ _ (by decide), upS_eq]
      · refine ht_add modsep_C hT d1 (by rw [← d2]; exact d3) d4 (fun t => ?_)
        rw [← d2]
        by_cases q : t = s
        · subst q; rw [if_pos rfl, upS_eq]; rfl
        · rw [if_neg q, upS_j _ _ q, upS_v _ _ (by decide), upS_v _ _ (by decide)]
      · exact List.nodup_append.mpr ⟨p4, by simp, fun a ha b hb e => by rw [List.mem_singleton] at hb; subst hb; subst e; exact n1 ha⟩
      · rw [List.length_append]; show L.length + 1 ≤ 1500; omega
      · intro x hx
        rcases List.mem_append.mp hx with q | q
        · exact hv x q
        · rw [List.mem_singleton] at q; subst q; exact hc
    · have ea : addL L [c] = none := by unfold addL; rw [if_neg n1, if_pos (by omega)]
      refine g_iconst hZ dX4_add_27 ?_
      refine g_zret hZ dX4_add_28 rfl (Or.inl rfl) ⟨_, rfl, Eqx.rf, Or.inl ⟨rfl, ea⟩⟩
theorem t_X4_slotOfR (E : gE) (S : gS) (L : List Nat) (hP : PS S 22 23 26 L) (c : Nat) (hc : c < 35184372088832) : Ct E LAY mX4_slotOf [.ref (gad E 10), jV (c : Int)] S (fun r S' => S = S' ∧ ∃ s : Nat, r = some (iV (s : Int)) ∧ slP (S 26) L c s) := by
  obtain ⟨p1, hL, hT, p4, p5, hv⟩ := hP
  obtain ⟨dS, hdS, hzS⟩ := ht_stop modsep_C hT (by omega) (hC c)
  refine Ct.intro LAY_ok (by decide +kernel) (Nat.le_of_ble_eq_true rfl) rfl ?_
  intro Z hZ
  have fin : ∀ (s : Nat) (L9 : List (Nat × Value)), slP (S 26) L c s → lkeep L9 [3] = [(3, iV (s : Int))] → Z S L9 48 [] := by
    intro s L9 hs hL9
    refine g_keep hZ [3] hL9 ?_
    refine g_iload_n hZ dX4_slotOf_48 rfl ?_
    refine g_iret hZ dX4_slotOf_49 rfl ⟨rfl, s, rfl, hs⟩
  have loop : ∀ (m d : Nat) (L9 : List (Nat × Value)), d + m = dS → (∀ e, e < d → 0 < S 26 ((hC c + e) % 4096) ∧ L[(S 26 ((hC c + e) % 4096)).toNat - 1]? ≠ some c) → lkeep L9 [0, 1, 3, 4] = [(0, .ref (gad E 10)), (1, jV (c : Int)), (3, iV (((hC c + d) % 4096 : Nat) : Int)), (4, iV (d : Int))] → Z S L9 13 [] := by
    intro m
    induction m with
    | zero =>
      intro d L9 hd hp hL9
      refine g_keep hZ [0, 1, 3, 4] hL9 ?_
      have : d = dS := by omega
      subst this
      refine g_iload hZ dX4_slotOf_13 rfl ?_
      refine g_sipush hZ (z := 4096) dX4_slotOf_15 rfl ?_
      refine g_icmp_ge hZ 64 dX4_slotOf_18 rfl (by omega) (fun cX => absurd cX (by omega)) (fun _ => ?_)
      refine g_aload_n hZ dX4_slotOf_21 rfl ?_
      refine g_getr hZ fX4_23 rfl rfl dX4_slotOf_22 ?_
      refine g_iload_n hZ dX4_slotOf_25 rfl ?_
      refine g_iald hZ (((hC c + d) % 4096)) rfl dX4_slotOf_26 (rfl) (by omega) (by decide) (hzS) ?_
      refine g_istore hZ dX4_slotOf_27 (by decide) ?_
      refine g_iload hZ dX4_slotOf_29 rfl ?_
      refine g_if_eq hZ 48 dX4_slotOf_31 rfl (by omega) (fun _ => ?_) (fun cX => absurd (by omega) cX)
      exact fin ((hC c + d) % 4096) _ ⟨Nat.mod_lt _ (by omega), Or.inr ⟨ht_no hT hzS hp, d, hdS, rfl, hzS, fun e he => (hp e he).1⟩⟩ rfl
    | succ m ih =>
      intro d L9 hd hp hL9
      refine g_keep hZ [0, 1, 3, 4] hL9 ?_
      have hf := hT.1 ((hC c + d) % 4096) (Nat.mod_lt _ (by omega))
      generalize hz : S 26 ((hC c + d) % 4096) = z at *
      refine g_iload hZ dX4_slotOf_13 rfl ?_
      refine g_sipush hZ (z := 4096) dX4_slotOf_15 rfl ?_
      refine g_icmp_ge hZ 64 dX4_slotOf_18 rfl (by omega) (fun cX => absurd cX (by omega)) (fun _ => ?_)
      refine g_aload_n hZ dX4_slotOf_21 rfl ?_
      refine g_getr hZ fX4_23 rfl rfl dX4_slotOf_22 ?_
      refine g_iload_n hZ dX4_slotOf_25 rfl ?_
      refine g_iald hZ (((hC c + d) % 4096)) rfl dX4_slotOf_26 (rfl) (by omega) (by decide) (hz) ?_
      refine g_istore hZ dX4_slotOf_27 (by decide) ?_
      refine g_iload hZ dX4_slotOf_29 rfl ?_
      refine g_if_eq hZ 48 dX4_slotOf_31 rfl (by omega) (fun c1 => ?_) (fun c1 => ?_)
      · have z0 : z = 0 := by omega
        rw [z0] at hz
        exact fin ((hC c + d) % 4096) _ ⟨Nat.mod_lt _ (by omega), Or.inr ⟨ht_no hT hz hp, d, by omega, rfl, hz, fun e he => (hp e he).1⟩⟩ rfl
      · obtain ⟨x, hx⟩ : ∃ x, L[z.toNat - 1]? = some x := ⟨_, List.getElem?_eq_getElem (by omega)⟩
        have hx2 : S 23 (z.toNat - 1) = (x : Int) := hL _ x hx
        have hx3 := hv x (List.mem_of_getElem? hx)
        refine g_aload_n hZ dX4_slotOf_34 rfl ?_
        refine g_getr hZ fX4_9 rfl rfl dX4_slotOf_35 ?_
        refine g_iload hZ dX4_slotOf_38 rfl ?_
        refine g_iconst hZ dX4_slotOf_40 ?_
        refine g_isub hZ dX4_slotOf_41 ?_
        refine g_lald hZ ((z.toNat - 1)) rfl dX4_slotOf_42 (by omega) (by omega) (by decide) (hx2) ?_
        refine g_lload_n hZ dX4_slotOf_43 rfl ?_
        refine g_lcmp hZ dX4_slotOf_44 (by omega) (by omega) ?_
        by_cases q : x = c
        · rw [if_pos (by omega)]
          refine g_if_ne hZ 50 dX4_slotOf_45 rfl (by omega) (fun cX => absurd (by omega) cX) (fun _ => ?_)
          rw [q] at hx
          exact fin ((hC c + d) % 4096) _ ⟨Nat.mod_lt _ (by omega), Or.inl ⟨z.toNat - 1, hx, by omega⟩⟩ rfl
        · rw [if_neg (by omega)]
          refine g_if_ne hZ 50 dX4_slotOf_45 rfl (by split <;> omega) (fun _ => ?_) (fun cX => absurd cX (by split <;> omega))
          refine g_iload_n hZ dX4_slotOf_50 rfl ?_
          refine g_iconst hZ dX4_slotOf_51 ?_
          refine g_iadd hZ dX4_slotOf_52 ?_
          refine g_sipush hZ (z := 4095) dX4_slotOf_53 rfl ?_
          refine g_iand hZ dX4_slotOf_56 (gi_mask ((hC c + d) % 4096 + 1) 12) ?_
          refine g_istore_n hZ dX4_slotOf_57 (by decide) ?_
          refine g_iinc hZ dX4_slotOf_58 rfl (by decide) ?_
          refine g_goto hZ 13 dX4_slotOf_61 rfl ?_
          have e9 : ((hC c + d) % 4096 + 1) % 4096 = (hC c + (d + 1)) % 4096 := by omega
          refine ih (d + 1) _ (by omega) (fun e he => ?_) (by show _ = [_, _, (3, iV (((hC c + (d + 1)) % 4096 : Nat) : Int)), _]; rw [← e9]; rfl)
          by_cases q2 : e = d
          · subst q2
            rw [hz]
            exact ⟨by omega, fun e8 => by rw [hx] at e8; cases e8; exact q rfl⟩
          · exact hp e (by omega)
  refine g_lload_n hZ dX4_slotOf_0 rfl ?_
  refine g_ldc2 hZ (z := -7046029254386353131) dX4_slotOf_1 (TS_m (by decide +kernel) rfl) ?_
  refine g_lmul hZ dX4_slotOf_4 ?_
  refine g_bipush hZ (z := 52) dX4_slotOf_5 rfl ?_
  refine g_lushr hZ dX4_slotOf_7 (gj_top _) ?_
  refine g_l2i hZ dX4_slotOf_8 (gj_l2i _) ?_
  refine g_istore_n hZ dX4_slotOf_9 (by decide) ?_
  refine g_iconst hZ dX4_slotOf_10 ?_
  refine g_istore hZ dX4_slotOf_11 (by decide) ?_
  exact loop dS 0 _ (by omega) (fun e he => absurd he (Nat.not_lt_zero e)) (by rw [Nat.add_zero, Nat.mod_eq_of_lt (hC_lt c)]; rfl)
theorem t_X4_findR (E : gE) (S : gS) (L : List Nat) (hP : PS S 22 23 26 L) (c : Nat) (hc : c < 35184372088832) : Ct E LAY mX4_find [.ref (gad E 10), jV (c : Int)] S (fun r S' => S = S' ∧ ∃ z, r = some (iV z) ∧ ((z = -1 ∧ c ∉ L) ∨ ∃ i : Nat, z = (i : Int) ∧ L[i]? = some c)) := by
  refine Ct.intro LAY_ok (by decide +kernel) (Nat.le_of_ble_eq_true rfl) rfl ?_
  intro Z hZ
  refine g_aload_n hZ dX4_find_0 rfl ?_
  refine g_getr hZ fX4_23 rfl rfl dX4_find_1 ?_
  refine g_aload_n hZ dX4_find_4 rfl ?_
  refine g_lload_n hZ dX4_find_5 rfl ?_
  refine g_callV hZ (t_X4_slotOfR E S L hP c hc) kX4_59 ⟨by decide, by decide⟩ rfl rfl rfl rfl (Nat.le_of_ble_eq_true rfl) dX4_find_6 ?_
  rintro _ _ ⟨rfl, s, rfl, hs, hs2⟩
  rcases hs2 with ⟨i, i1, i2⟩ | ⟨n1, d, d1, d2, d3, d4⟩
  · refine g_iald hZ (s) rfl dX4_find_9 (rfl) (by omega) (by decide) (i2) ?_
    refine g_iconst hZ dX4_find_10 ?_
    refine g_isub hZ dX4_find_11 ?_
    refine g_iret hZ dX4_find_12 rfl ⟨rfl, _, rfl, Or.inr ⟨i, by omega, i1⟩⟩
  · refine g_iald hZ (s) rfl dX4_find_9 (rfl) (by omega) (by decide) (d3) ?_
    refine g_iconst hZ dX4_find_10 ?_
    refine g_isub hZ dX4_find_11 ?_
    refine g_iret hZ dX4_find_12 rfl ⟨rfl, _, rfl, Or.inl ⟨by omega, n1⟩⟩
theorem t_X4_addR (E : gE) (S : gS) (L : List Nat) (hP : PS S 22 23 26 L) (c : Nat) (hc : c < 35184372088832) : Ct E LAY mX4_add [.ref (gad E 10), jV (c : Int)] S (fun r S' => ∃ z, r = some (iV z) ∧ Eqx [22, 23, 26] S S' ∧ ((z = 0 ∧ addL L [c] = none) ∨ ∃ L2, z = 1 ∧ addL L [c] = some L2 ∧ PS S' 22 23 26 L2)) := by
  obtain ⟨p1, hL, hT, p4, p5, hv⟩ := id hP
  refine Ct.intro LAY_ok (by decide +kernel) (Nat.le_of_ble_eq_true rfl) rfl ?_
  intro Z hZ
  refine g_aload_n hZ dX4_add_0 rfl ?_
  refine g_lload_n hZ dX4_add_1 rfl ?_
  refine g_callV hZ (t_X4_slotOfR E S L hP c hc) kX4_59 ⟨by decide, by decide⟩ rfl rfl rfl rfl (Nat.le_of_ble_eq_true rfl) dX4_add_2 ?_
  rintro _ _ ⟨rfl, s, rfl, hs, hs2⟩
  rcases hs2 with ⟨i, i1, i2⟩ | ⟨n1, d, d1, d2, d3, d4⟩
  · have ea : addL L [c] = some L := by unfold addL; rw [if_pos (List.mem_of_getElem? i1)]; rfl
    refine g_istore_n hZ dX4_add_5 (by decide) ?_
    refine g_aload_n hZ dX4_add_6 rfl ?_
    refine g_getr hZ fX4_23 rfl rfl dX4_add_7 ?_
    refine g_iload_n hZ dX4_add_10 rfl ?_
    refine g_iald hZ (s) rfl dX4_add_11 (rfl) (by omega) (by decide) (i2) ?_
    refine g_if_eq hZ 17 dX4_add_12 rfl (by have := (List.getElem?_eq_some_iff.mp i1).1; omega) (fun cX => absurd cX (by omega)) (fun _ => ?_)
    refine g_iconst hZ dX4_add_15 ?_
    refine g_zret hZ dX4_add_16 rfl (Or.inr rfl) ⟨_, rfl, Eqx.rf, Or.inr ⟨L, rfl, ea, hP⟩⟩
  · refine g_istore_n hZ dX4_add_5 (by decide) ?_
    refine g_aload_n hZ dX4_add_6 rfl ?_
    refine g_getr hZ fX4_23 rfl rfl dX4_add_7 ?_
    refine g_iload_n hZ dX4_add_10 rfl ?_
    refine g_iald hZ (s) rfl dX4_add_11 (rfl) (by omega) (by decide) (d3) ?_
    refine g_if_eq hZ 17 dX4_add_12 rfl (by omega) (fun _ => ?_) (fun cX => absurd (by omega) cX)
    refine g_aload_n hZ dX4_add_17 rfl ?_
    refine g_geti hZ fX4_30 rfl rfl dX4_add_18 p1 ?_
    refine g_sipush hZ (z := 1500) dX4_add_21 rfl ?_
    refine g_icmp_lt hZ 29 dX4_add_24 rfl (by omega) (fun c1 => ?_) (fun c1 => ?_)
    · have ea : addL L [c] = some (L ++ [c]) := by unfold addL; rw [if_neg n1, if_neg (by omega)]; rfl
      refine g_aload_n hZ dX4_add_29 rfl ?_
      refine g_getr hZ fX4_9 rfl rfl dX4_add_30 ?_
      refine g_aload_n hZ dX4_add_33 rfl ?_
      refine g_geti hZ fX4_30 rfl rfl dX4_add_34 p1 ?_
      refine g_lload_n hZ dX4_add_37 rfl ?_
      refine g_last hZ (L.length) rfl dX4_add_38 (rfl) (by omega) (by decide) ?_
      refine g_aload_n hZ dX4_add_39 rfl ?_
      refine g_dup hZ dX4_add_40 rfl ?_
      refine g_geti hZ fX4_30 rfl rfl dX4_add_41 p1 ?_
      refine g_iconst hZ dX4_add_44 ?_
      refine g_iadd hZ dX4_add_45 ?_
      refine g_puti hZ fX4_30 rfl rfl dX4_add_46 ?_
      refine g_aload_n hZ dX4_add_49 rfl ?_
      refine g_getr hZ fX4_23 rfl rfl dX4_add_50 ?_
      refine g_iload_n hZ dX4_add_53 rfl ?_
      refine g_aload_n hZ dX4_add_54 rfl ?_
      refine g_geti hZ fX4_30 rfl rfl dX4_add_55 (upS_eq _ _ _ _) ?_
      refine g_iast hZ (s) rfl dX4_add_58 (rfl) (by omega) (by decide) ?_
      refine g_iconst hZ dX4_add_59 ?_
      refine g_zret hZ dX4_add_60 rfl (Or.inr rfl) ⟨_, rfl, ((Eqx.rf.up rfl).up rfl).up rfl, Or.inr ⟨_, rfl, ea, ?_⟩⟩
      refine ⟨?_, ?_, ?_, ?_, ?_, ?_⟩
      · rw [upS_v _ _ (by decide), upS_eq, List.length_append]; rfl
      · refine HL_add hL (fun j hj => ?_) ?_
        · rw [upS_v _ _ (by decide), upS_v _ _ (by decide), upS_j _ _ (by omega)]
        · rw [upS_v _ _ (by decide), upS_v _ _ (by decide), upS_eq]
      · refine ht_add modsep_C hT d1 (by rw [← d2]; exact d3) d4 (fun t => ?_)
        rw [← d2]
        by_cases q : t = s
        · subst q; rw [if_pos rfl, upS_eq]; rfl
        · rw [if_neg q, upS_j _ _ q, upS_v _ _ (by decide), upS_v _ _ (by decide)]
      · exact List.nodup_append.mpr ⟨p4, by simp, fun a ha b hb e => by rw [List.mem_singleton] at hb; subst hb; subst e; exact n1 ha⟩
      · rw [List.length_append]; show L.length + 1 ≤ 1500; omega
      · intro x hx
        rcases List.mem_append.mp hx with q | q
        · exact hv x q
        · rw [List.mem_singleton] at q; subst q; exact hc
    · have ea : addL L [c] = none := by unfold addL; rw [if_neg n1, if_pos (by omega)]
      refine g_iconst hZ dX4_add_27 ?_
      refine g_zret hZ dX4_add_28 rfl (Or.inl rfl) ⟨_, rfl, Eqx.rf, Or.inl ⟨rfl, ea⟩⟩
