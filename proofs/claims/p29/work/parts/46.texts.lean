/-! String constants: length and charAt, by the JDK's own code -/
theorem kJ0_335 : gV RJ0 335 mJ0_coder_7d493 0 := ⟨TS_in 572 (by decide +kernel) rfl, TS_in 34 (by decide +kernel) rfl, TS_in 569 (by decide +kernel) rfl, TS_in 570 (by decide +kernel) rfl, TS_in 571 (by decide +kernel) rfl, by decide +kernel⟩
theorem kJ0_492 : gV RJ0 492 mJ0_isLatin1_aae02 0 := ⟨TS_in 582 (by decide +kernel) rfl, TS_in 34 (by decide +kernel) rfl, TS_in 579 (by decide +kernel) rfl, TS_in 580 (by decide +kernel) rfl, TS_in 581 (by decide +kernel) rfl, by decide +kernel⟩
theorem kJ0_495 : gSt RJ0 495 mJ1_charAt_3b067 2 := ⟨TS_in 585 (by decide +kernel) rfl, TS_in 35 (by decide +kernel) rfl, TS_in 583 (by decide +kernel) rfl, TS_in 584 (by decide +kernel) rfl, by decide +kernel⟩
theorem kJ1_9 : gSt RJ1 9 mJ0_checkIndex_df160 2 := ⟨TS_in 588 (by decide +kernel) rfl, TS_in 34 (by decide +kernel) rfl, TS_in 586 (by decide +kernel) rfl, TS_in 587 (by decide +kernel) rfl, by decide +kernel⟩
theorem kJ0_1059 : gSt RJ0 1059 mJ3_checkIndex_8e157 3 := ⟨TS_in 593 (by decide +kernel) rfl, TS_in 36 (by decide +kernel) rfl, TS_in 591 (by decide +kernel) rfl, TS_in 592 (by decide +kernel) rfl, by decide +kernel⟩
theorem flJ0_9 : Cond.fieldLink RJ0 9 "java/lang/String" "value" "[B" ∈ TS := TS_in 673 (by decide +kernel) rfl
theorem flJ0_15 : Cond.fieldLink RJ0 15 "java/lang/String" "coder" "B" ∈ TS := TS_in 674 (by decide +kernel) rfl
theorem flJ0_38 : Cond.fieldLink RJ0 38 "java/lang/String" "COMPACT_STRINGS" "Z" ∈ TS := TS_in 573 (by decide +kernel) rfl
theorem flJ0_1053 : Cond.fieldLink RJ0 1053 "jdk/internal/util/Preconditions" "SIOOBE_FORMATTER" "Ljava/util/function/BiFunction;" ∈ TS := TS_in 589 (by decide +kernel) rfl

def sNat : List (List Nat) := [[102, 114, 101, 101], [108, 101, 102, 116], [114, 105, 103, 104, 116], [98, 117, 114, 110], [109, 111, 118, 101], [112, 97, 115, 115]]
def sCh (i j : Nat) : Nat := (sNat.getD i []).getD j 0
def sLn (i : Nat) : Nat := sLen.getD i 0
theorem sCh_ok : ∀ i, i < 6 → ∀ j, j < 5 → (sByt.getD i []).getD j 0 = Int32.ofInt (sCh i j : Int) ∧ sCh i j < 127 := by decide +kernel
theorem sCh_pos : ∀ i, i < 6 → ∀ j, j < sLn i → 0 < sCh i j := by decide +kernel
theorem sLn_ok : ∀ i, i < 6 → 4 ≤ sLn i ∧ sLn i ≤ 5 := by decide +kernel
section STRULES
variable {Z : gS → List (Nat × Value) → Nat → List Value → Prop} {E : gE} {lay : List gC} {M : gM} {Rt : Option Value → gS → Prop} {S : gS} {L : List (Nat × Value)} {pc : Nat} {st : List Value}
theorem g_ldcS (hZ : Cx Z E lay M Rt) (hG : gad E 99 = 1) (i : Nat) (hi : i < 6) (hM : M.1.cls = RX6) {ix : Nat} (hk : ix = 66 + 2 * i) (d : decode M.2.1 pc = .ok (.ldc ix, 2)) (k : Z S L (pc + 2) (.ref (gad E (100 + i)) :: st)) : Z S L pc st := by
  obtain ⟨p, e, R, s, m, args, below, meth, c, A, H0, cells, slots, Q, rfl, hx, hb, hml, hown, hts, hK, hA, ho, hR, -, -, -, -, rfl, hStr⟩ := hZ
  intro H locs ls hP hD hS hl
  obtain ⟨q1, q2, q3, q4⟩ := hStr hG
  subst hk
  rw [hM] at hown
  exact va_ldcS hx hb hown (q4 i hi) d (k H locs ls hP hD hS hl)
theorem g_sval (hZ : Cx Z E lay M Rt) (hG : gad E 99 = 1) (i : Nat) (hi : i < 6) {ix : Nat} (hF : Cond.fieldLink M.1.cls ix "java/lang/String" "value" "[B" ∈ TS) (d : decode M.2.1 pc = .ok (.getfield ix, 3)) (k : Z S L (pc + 3) (.ref (gad E (200 + i)) :: st)) : Z S L pc (.ref (gad E (100 + i)) :: st) := by
  obtain ⟨p, e, R, s, m, args, below, meth, c, A, H0, cells, slots, Q, rfl, hx, hb, hml, hown, hts, hK, hA, ho, hR, -, -, -, -, rfl, hStr⟩ := hZ
  intro H locs ls hP hD hS hl
  obtain ⟨q1, q2, q3, q4⟩ := hStr hG
  exact vk_getf hx hb (q1.1 i hi).2.2.1 hS hown (hts _ hF) (fun _ h => h) d (k H locs ls hP hD hS hl)
theorem g_scod (hZ : Cx Z E lay M Rt) (hG : gad E 99 = 1) (i : Nat) (hi : i < 6) {ix : Nat} (hF : Cond.fieldLink M.1.cls ix "java/lang/String" "coder" "B" ∈ TS) (d : decode M.2.1 pc = .ok (.getfield ix, 3)) (k : Z S L (pc + 3) (iV 0 :: st)) : Z S L pc (.ref (gad E (100 + i)) :: st) := by
  obtain ⟨p, e, R, s, m, args, below, meth, c, A, H0, cells, slots, Q, rfl, hx, hb, hml, hown, hts, hK, hA, ho, hR, -, -, -, -, rfl, hStr⟩ := hZ
  intro H locs ls hP hD hS hl
  obtain ⟨q1, q2, q3, q4⟩ := hStr hG
  exact vk_getf hx hb (q1.1 i hi).2.1 hS hown (hts _ hF) (fun _ h => h) d (k H locs ls hP hD hS hl)
theorem g_slen (hZ : Cx Z E lay M Rt) (hG : gad E 99 = 1) (i : Nat) (hi : i < 6) (d : decode M.2.1 pc = .ok (.arraylength, 1)) (k : Z S L (pc + 1) (iV (sLn i : Int) :: st)) : Z S L pc (.ref (gad E (200 + i)) :: st) := by
  obtain ⟨p, e, R, s, m, args, below, meth, c, A, H0, cells, slots, Q, rfl, hx, hb, hml, hown, hts, hK, hA, ho, hR, -, -, -, -, rfl, hStr⟩ := hZ
  intro H locs ls hP hD hS hl
  obtain ⟨q1, q2, q3, q4⟩ := hStr hG
  exact va_tlen hx hb (q1.1 i hi).2.2.2 hS (gi_nat _).symm d (k H locs ls hP hD hS hl)
theorem g_sbyt (hZ : Cx Z E lay M Rt) (hG : gad E 99 = 1) (i : Nat) (hi : i < 6) {j : Nat} (hj : j < sLn i) (d : decode M.2.1 pc = .ok (.baload, 1)) (k : Z S L (pc + 1) (iV (sCh i j : Int) :: st)) : Z S L pc (iV (j : Int) :: .ref (gad E (200 + i)) :: st) := by
  obtain ⟨p, e, R, s, m, args, below, meth, c, A, H0, cells, slots, Q, rfl, hx, hb, hml, hown, hts, hK, hA, ho, hR, -, -, -, -, rfl, hStr⟩ := hZ
  intro H locs ls hP hD hS hl
  obtain ⟨q1, q2, q3, q4⟩ := hStr hG
  have h5 := sLn_ok i hi
  refine va_tb hx hb (q1.1 i hi).2.2.2 hS (gi_in hj (show sLn i < 2147483648 by omega)) (v := iV (sCh i j : Int)) ?_ d (k H locs ls hP hD hS hl)
  rw [gi_cl (by omega), (sCh_ok i hi j (by omega)).1]
theorem g_scmp (hZ : Cx Z E lay M Rt) (hG : gad E 99 = 1) {ix : Nat} (hF : Cond.fieldLink M.1.cls ix "java/lang/String" "COMPACT_STRINGS" "Z" ∈ TS) (d : decode M.2.1 pc = .ok (.getstatic ix, 3)) (k : Z S L (pc + 3) (iV 1 :: st)) : Z S L pc st := by
  obtain ⟨p, e, R, s, m, args, below, meth, c, A, H0, cells, slots, Q, rfl, hx, hb, hml, hown, hts, hK, hA, ho, hR, -, -, -, -, rfl, hStr⟩ := hZ
  intro H locs ls hP hD hS hl
  obtain ⟨q1, q2, q3, q4⟩ := hStr hG
  exact va_gets hx hb q2 hS hown (hts _ hF) (fun _ h => h) d (k H locs ls hP hD hS hl)
theorem g_sfmt (hZ : Cx Z E lay M Rt) (hG : gad E 99 = 1) {ix : Nat} (hF : Cond.fieldLink M.1.cls ix "jdk/internal/util/Preconditions" "SIOOBE_FORMATTER" "Ljava/util/function/BiFunction;" ∈ TS) (d : decode M.2.1 pc = .ok (.getstatic ix, 3)) (k : ∀ v : Value, (v = .null ∨ ∃ a : Nat, v = .ref a) → Z S L (pc + 3) (v :: st)) : Z S L pc st := by
  obtain ⟨p, e, R, s, m, args, below, meth, c, A, H0, cells, slots, Q, rfl, hx, hb, hml, hown, hts, hK, hA, ho, hR, -, -, -, -, rfl, hStr⟩ := hZ
  intro H locs ls hP hD hS hl
  obtain ⟨q1, q2, q3, q4⟩ := hStr hG
  rcases q3 with q3 | ⟨a, q3⟩
  · exact va_gets hx hb q3 hS hown (hts _ hF) (fun _ h => h) d (k _ (Or.inl rfl) H locs ls hP hD hS hl)
  · exact va_gets hx hb q3 hS hown (hts _ hF) (fun _ h => h) d (k _ (Or.inr ⟨a, rfl⟩) H locs ls hP hD hS hl)
theorem g_callT (hZ : Cx Z E lay M Rt) (hG : gad E 99 = 1) (w : Nat) (hw6 : w < 6) {M2 : gM} {i n : Nat} {As st0 : List Value} {Post : Option Value → gS → Prop} (hM : Ct E lay M2 (.ref (gad E (100 + w)) :: As) S Post) (hw : gV M.1.cls i M2 n) (hR2 : M2.2.2.2.2.1 + 1 ≤ M.2.2.2.2.1 ∧ 8 + (M2.2.2.1 + 11) + M2.2.2.2.2.2 ≤ M.2.2.2.2.2) (hcl : M2.1.cls = "java/lang/String") (hn : As.length = n) (hst : st0 = As.reverse ++ .ref (gad E (100 + w)) :: st) (hcat : (st.map fun v => v.category).sum ≤ 8) (d : decode M.2.1 pc = .ok (.invokevirtual i, 3))
    (kk : ∀ (v : Option Value) (S' : gS), Post v S' → Z S' L (pc + 3) (v.toList ++ st)) : Z S L pc st0 := by
  obtain ⟨p, e, R, s, m, args, below, meth, c, A, H0, cells, slots, Q, rfl, hx, hb, hml, hown, hts, hK, hA, ho, hR, -, -, -, -, rfl, hStr⟩ := hZ
  intro H locs ls hP hD hS hl
  obtain ⟨w1, w2, w3, w4, w5, w6⟩ := hw
  have cb : CallW R s args M.1.cls M2.1.cls i M2.1 M2.2.1 M2.2.2.1 M2.2.2.2.1 (gws M2) (gRm M2) 0 0 n := ⟨callB_of n hts (g_good w1) rfl rfl rfl (hts _ w2) (hts _ w3) w6 ⟨by rw [hR.1]; exact hR2.1, by rw [hR.2.1]; exact hR2.2⟩, hts _ w4, hts _ w5⟩
  have run := va_runV (p := p) (l := E.1) (e := e) (R := R) (below := below) (meth := meth) (H := H) (locs := locs) (cells := cells) (slots := slots) ⟨hx, hb, hml, hown, hts⟩ (hM H.size) cb ⟨g_blind, by have z := vk_recv (i := w) (hStr hG).1 hw6 hS; rw [hcl]; exact z, fun U hU hW => ⟨rfl, by rw [hU], by rw [hU]; exact hP, va_K.moved hW.alike hK, hD.weaken (fun _ _ _ _ => trivial), by rw [hU]; exact ((hStr.kept hS.2.1).narrow (g_A_of (sz := H.size) hD (fun q hq => hA q (Nat.le_trans hS.1 hq)))).warm hW⟩⟩ (g := F0 m pc ls st0) (rest := st) rfl hn hl.1 hst (lv_room hcat) d ⟨hR.2.2.1, hR.2.2.2⟩
  intro T hT X
  obtain ⟨v, st₀, t, T', L1, h0, X', hL, e1, e2, ⟨⟨v2, S', hv, hp, hP1⟩, hz, hk⟩, stp⟩ := run T hT X
  cases hv
  rw [h0] at hz hk
  have hAA := g_A_of (sz := H.size) hD (fun q hq => hA q (Nat.le_trans hS.1 hq))
  obtain ⟨t2, a1, b1⟩ := kk v S' hp T'.heap (locs ++ L1) ls (by rw [e1]; exact hP1) (g_D hD)
    ⟨Nat.le_trans hS.1 (by rw [e1]; exact hz), fun q h1 h2 => by rw [e1, hk q (Nat.lt_of_lt_of_le h1 hS.1) (fun z => h2 (hAA q z))]; exact hS.2.1 q h1 h2, fun q hq => by
      rcases List.mem_append.mp hq with h | h
      · exact hS.2.2 q h
      · exact hAA _ (hL q h)⟩ hl T' rfl X'
  exact ⟨t2, stp t2 a1, b1⟩
end STRULES
theorem t_J0_coder (E : gE) (hG : gad E 99 = 1) (S : gS) (i : Nat) (hi : i < 6) : Ct E LAY mJ0_coder_7d493 [.ref (gad E (100 + i))] S (fun r S' => S = S' ∧ r = some (iV 0)) := by
  refine Ct.intro LAY_ok (by decide +kernel) (Nat.le_of_ble_eq_true rfl) rfl ?_
  intro Z hZ
  refine g_scmp hZ hG flJ0_38 dJ0_coder_7d493_0 ?_
  refine g_if_eq hZ 13 dJ0_coder_7d493_3 rfl (by omega) (fun cX => absurd cX (by omega)) (fun _ => ?_)
  refine g_aload_n hZ dJ0_coder_7d493_6 rfl ?_
  refine g_scod hZ hG i hi flJ0_15 dJ0_coder_7d493_7 ?_
  refine g_goto hZ 14 dJ0_coder_7d493_10 rfl ?_
  exact g_nret hZ dJ0_coder_7d493_14 rfl rfl ⟨rfl, rfl⟩
theorem t_J0_isLatin1 (E : gE) (hG : gad E 99 = 1) (S : gS) (i : Nat) (hi : i < 6) : Ct E LAY mJ0_isLatin1_aae02 [.ref (gad E (100 + i))] S (fun r S' => S = S' ∧ r = some (iV 1)) := by
  refine Ct.intro LAY_ok (by decide +kernel) (Nat.le_of_ble_eq_true rfl) rfl ?_
  intro Z hZ
  refine g_scmp hZ hG flJ0_38 dJ0_isLatin1_aae02_0 ?_
  refine g_if_eq hZ 17 dJ0_isLatin1_aae02_3 rfl (by omega) (fun cX => absurd cX (by omega)) (fun _ => ?_)
  refine g_aload_n hZ dJ0_isLatin1_aae02_6 rfl ?_
  refine g_scod hZ hG i hi flJ0_15 dJ0_isLatin1_aae02_7 ?_
  refine g_if_ne hZ 17 dJ0_isLatin1_aae02_10 rfl (by omega) (fun cX => absurd rfl cX) (fun _ => ?_)
  refine g_iconst hZ dJ0_isLatin1_aae02_13 ?_
  refine g_goto hZ 18 dJ0_isLatin1_aae02_14 rfl ?_
  refine g_zret hZ dJ0_isLatin1_aae02_18 rfl (Or.inr rfl) ⟨rfl, rfl⟩
theorem t_J0_length (E : gE) (hG : gad E 99 = 1) (S : gS) (i : Nat) (hi : i < 6) : Ct E LAY mJ0_length_8abf5 [.ref (gad E (100 + i))] S (fun r S' => S = S' ∧ r = some (iV (sLn i : Int))) := by
  have h5 := sLn_ok i hi
  refine Ct.intro LAY_ok (by decide +kernel) (Nat.le_of_ble_eq_true rfl) rfl ?_
  intro Z hZ
  refine g_aload_n hZ dJ0_length_8abf5_0 rfl ?_
  refine g_sval hZ hG i hi flJ0_9 dJ0_length_8abf5_1 ?_
  refine g_slen hZ hG i hi dJ0_length_8abf5_4 ?_
  refine g_aload_n hZ dJ0_length_8abf5_5 rfl ?_
  refine g_callT hZ hG i hi (t_J0_coder E hG S i hi) kJ0_335 ⟨by decide, by decide⟩ rfl rfl rfl (Nat.le_of_ble_eq_true rfl) dJ0_length_8abf5_6 ?_
  rintro _ _ ⟨rfl, rfl⟩
  refine g_ishr hZ dJ0_length_8abf5_9 (gi_shr (k := 0) (by omega) (by omega)) ?_
  rw [Nat.pow_zero, Nat.div_one]
  refine g_iret hZ dJ0_length_8abf5_10 rfl ⟨rfl, rfl⟩
theorem t_J3_checkIndex (E : gE) (S : gS) (a b : Int) (ha : R32 a) (hb : R32 b) (h : 0 ≤ a ∧ a < b) (v : Value) (hv : v = .null ∨ ∃ t : Nat, v = .ref t) : Ct E LAY mJ3_checkIndex_8e157 [iV a, iV b, v] S (fun r S' => S = S' ∧ r = some (iV a)) := by
  rcases hv with rfl | ⟨t, rfl⟩
  · refine Ct.intro LAY_ok (by decide +kernel) (Nat.le_of_ble_eq_true rfl) rfl ?_
    intro Z hZ
    refine g_iload_n hZ dJ3_checkIndex_8e157_0 rfl ?_
    refine g_if_lt hZ 9 dJ3_checkIndex_8e157_1 rfl (by omega) (fun cX => absurd cX (by omega)) (fun _ => ?_)
    refine g_iload_n hZ dJ3_checkIndex_8e157_4 rfl ?_
    refine g_iload_n hZ dJ3_checkIndex_8e157_5 rfl ?_
    refine g_icmp_lt hZ 16 dJ3_checkIndex_8e157_6 rfl (by omega) (fun _ => ?_) (fun cX => absurd (by omega) cX)
    refine g_iload_n hZ dJ3_checkIndex_8e157_16 rfl ?_
    refine g_iret hZ dJ3_checkIndex_8e157_17 rfl ⟨rfl, rfl⟩
  · refine Ct.intro LAY_ok (by decide +kernel) (Nat.le_of_ble_eq_true rfl) rfl ?_
    intro Z hZ
    refine g_iload_n hZ dJ3_checkIndex_8e157_0 rfl ?_
    refine g_if_lt hZ 9 dJ3_checkIndex_8e157_1 rfl (by omega) (fun cX => absurd cX (by omega)) (fun _ => ?_)
    refine g_iload_n hZ dJ3_checkIndex_8e157_4 rfl ?_
    refine g_iload_n hZ dJ3_checkIndex_8e157_5 rfl ?_
    refine g_icmp_lt hZ 16 dJ3_checkIndex_8e157_6 rfl (by omega) (fun _ => ?_) (fun cX => absurd (by omega) cX)
    refine g_iload_n hZ dJ3_checkIndex_8e157_16 rfl ?_
    refine g_iret hZ dJ3_checkIndex_8e157_17 rfl ⟨rfl, rfl⟩
theorem t_J0_checkIndex (E : gE) (hG : gad E 99 = 1) (S : gS) (a b : Int) (ha : R32 a) (hb : R32 b) (h : 0 ≤ a ∧ a < b) : Ct E LAY mJ0_checkIndex_df160 [iV a, iV b] S (fun r S' => S = S' ∧ r = none) := by
  refine Ct.intro LAY_ok (by decide +kernel) (Nat.le_of_ble_eq_true rfl) rfl ?_
  intro Z hZ
  refine g_iload_n hZ dJ0_checkIndex_df160_0 rfl ?_
  refine g_iload_n hZ dJ0_checkIndex_df160_1 rfl ?_
  refine g_sfmt hZ hG flJ0_1053 dJ0_checkIndex_df160_2 (fun v hv => ?_)
  refine g_callS hZ (As := [iV a, iV b, v]) (t_J3_checkIndex E S a b ha hb h v hv) kJ0_1059 ⟨by decide, by decide⟩ rfl rfl (Nat.le_of_ble_eq_true rfl) dJ0_checkIndex_df160_5 ?_
  rintro _ _ ⟨rfl, rfl⟩
  refine g_pop hZ dJ0_checkIndex_df160_8 rfl ?_
  refine g_vret hZ dJ0_checkIndex_df160_9 rfl ⟨rfl, rfl⟩
theorem t_J1_charAt (E : gE) (hG : gad E 99 = 1) (S : gS) (i : Nat) (hi : i < 6) (j : Nat) (hj : j < sLn i) : Ct E LAY mJ1_charAt_3b067 [.ref (gad E (200 + i)), iV (j : Int)] S (fun r S' => S = S' ∧ r = some (iV (sCh i j : Int))) := by
  have h5 := sLn_ok i hi
  have hc := (sCh_ok i hi j (by omega)).2
  refine Ct.intro LAY_ok (by decide +kernel) (Nat.le_of_ble_eq_true rfl) rfl ?_
  intro Z hZ
  refine g_iload_n hZ dJ1_charAt_3b067_0 rfl ?_
  refine g_aload_n hZ dJ1_charAt_3b067_1 rfl ?_
  refine g_slen hZ hG i hi dJ1_charAt_3b067_2 ?_
  refine g_callS hZ (t_J0_checkIndex E hG S (j : Int) (sLn i : Int) (by omega) (by omega) (by omega)) kJ1_9 ⟨by decide, by decide⟩ rfl rfl (Nat.le_of_ble_eq_true rfl) dJ1_charAt_3b067_3 ?_
  rintro _ _ ⟨rfl, rfl⟩
  refine g_aload_n hZ dJ1_charAt_3b067_6 rfl ?_
  refine g_iload_n hZ dJ1_charAt_3b067_7 rfl ?_
  refine g_sbyt hZ hG i hi hj dJ1_charAt_3b067_8 ?_
  refine g_sipush hZ (z := 255) dJ1_charAt_3b067_9 rfl ?_
  refine g_iand hZ dJ1_charAt_3b067_12 (gi_mask _ 8) ?_
  rw [Nat.mod_eq_of_lt (show sCh i j < 2 ^ 8 by omega)]
  refine g_i2c hZ dJ1_charAt_3b067_13 (gi_c16 (by omega)) ?_
  exact g_nret hZ dJ1_charAt_3b067_14 rfl (by rw [gi_nat]; exact (pk_charN (by omega)).1) ⟨rfl, rfl⟩
theorem t_J0_charAt (E : gE) (hG : gad E 99 = 1) (S : gS) (i : Nat) (hi : i < 6) (j : Nat) (hj : j < sLn i) : Ct E LAY mJ0_charAt_5068e [.ref (gad E (100 + i)), iV (j : Int)] S (fun r S' => S = S' ∧ r = some (iV (sCh i j : Int))) := by
  have h5 := sLn_ok i hi
  have hc := (sCh_ok i hi j (by omega)).2
  refine Ct.intro LAY_ok (by decide +kernel) (Nat.le_of_ble_eq_true rfl) rfl ?_
  intro Z hZ
  refine g_aload_n hZ dJ0_charAt_5068e_0 rfl ?_
  refine g_callT hZ hG i hi (t_J0_isLatin1 E hG S i hi) kJ0_492 ⟨by decide, by decide⟩ rfl rfl rfl (Nat.le_of_ble_eq_true rfl) dJ0_charAt_5068e_1 ?_
  rintro _ _ ⟨rfl, rfl⟩
  refine g_if_eq hZ 16 dJ0_charAt_5068e_4 rfl (by omega) (fun cX => absurd cX (by omega)) (fun _ => ?_)
  refine g_aload_n hZ dJ0_charAt_5068e_7 rfl ?_
  refine g_sval hZ hG i hi flJ0_9 dJ0_charAt_5068e_8 ?_
  refine g_iload_n hZ dJ0_charAt_5068e_11 rfl ?_
  refine g_callS hZ (t_J1_charAt E hG S i hi j hj) kJ0_495 ⟨by decide, by decide⟩ rfl rfl (Nat.le_of_ble_eq_true rfl) dJ0_charAt_5068e_12 ?_
  rintro _ _ ⟨rfl, rfl⟩
  exact g_nret hZ dJ0_charAt_5068e_15 rfl (by rw [gi_nat]; exact (pk_charN (by omega)).1) ⟨rfl, rfl⟩
