/-! the law's own methods: packed, word, number, draws -/
theorem gj_shr {x k : Nat} (hx : x < 9223372036854775808) (hk : k < 64) : Int64.ofInt (x : Int) >>> ((Int32.ofInt (k : Int)).toInt64 &&& 63) = Int64.ofInt ((x / 2 ^ k : Nat) : Int) := by
  rw [gj_nat, gi_nat, gj_nat, wb_c k hk]
  apply wb_inj
  rw [Int64.toBitVec_shiftRight, wb_tb, wb_tb, wb_tb, wb_sm k hk]
  apply BitVec.eq_of_toNat_eq
  have hm : (BitVec.ofNat 64 x).msb = false := by
    rw [BitVec.msb_eq_false_iff_two_mul_lt, BitVec.toNat_ofNat, Nat.mod_eq_of_lt (by omega)]; omega
  rw [BitVec.sshiftRight_eq', BitVec.sshiftRight_eq_of_msb_false hm, BitVec.toNat_ushiftRight, BitVec.toNat_ofNat, BitVec.toNat_ofNat, BitVec.toNat_ofNat, Nat.mod_eq_of_lt (show k < 2 ^ 64 by omega), Nat.mod_eq_of_lt (show x < 2 ^ 64 by omega), Nat.shiftRight_eq_div_pow, Nat.mod_eq_of_lt (Nat.lt_of_le_of_lt (Nat.div_le_self _ _) (by omega))]
theorem gj_127 {x : Nat} (hx : x < 9223372036854775808) : Int64.ofInt (x : Int) &&& Int64.ofInt 127 = Int64.ofInt ((x % 128 : Nat) : Int) := by
  rw [gj_nat, gj_nat]
  exact wb_mask (n := x) (k := 7) (by omega) (by omega)
theorem gj_app {a b : Nat} (ha : a < 4194304) (hb : b < 128) : Int64.ofInt ((a * 2 ^ 7 : Nat) : Int) ||| Int64.ofInt (b : Int) = Int64.ofInt ((a * 128 + b : Nat) : Int) := by
  rw [gj_or (by omega) (by omega)]
  have e : a * 2 ^ 7 ||| b = a * 128 + b := by
    rw [← Nat.shiftLeft_eq, ← Nat.shiftLeft_add_eq_or_of_lt (by omega), Nat.shiftLeft_eq]
  rw [e]
theorem g_lshr {Z : gS → List (Nat × Value) → Nat → List Value → Prop} {E : gE} {lay : List gC} {M : gM} {Rt : Option Value → gS → Prop} {S : gS} {L : List (Nat × Value)} {pc : Nat} {st : List Value} (hZ : Cx Z E lay M Rt) {a b z : Int} (d : decode M.2.1 pc = .ok (.lshr, 1)) (h : Int64.ofInt a >>> ((Int32.ofInt b).toInt64 &&& 63) = Int64.ofInt z) (k : Z S L (pc + 1) (jV z :: st)) : Z S L pc (iV b :: jV a :: st) := by
  obtain ⟨p, e, R, s, m, args, below, meth, c, A, H0, cells, slots, Q, rfl, hx, hb, hml, hown, hts, hK, hA, ho, hR, -, -, -, -⟩ := hZ
  intro H locs ls hP hD hS hl
  exact lv_lshr hx hb d h (k H locs ls hP hD hS hl)
theorem t_L_packed (E : gE) (S : gS) (a b c d : Nat) (ha : a < 128) (hb : b < 128) (hc : c < 128) (hd : d < 128) : Ct E LAY mL_packed [iV (a : Int), iV (b : Int), iV (c : Int), iV (d : Int)] S (fun r S' => S = S' ∧ r = some (jV ((((a * 128 + b) * 128 + c) * 128 + d : Nat) : Int))) := by
  refine Ct.intro LAY_ok (by decide +kernel) (Nat.le_of_ble_eq_true rfl) rfl ?_
  intro Z hZ
  refine g_iload_n hZ dL_packed_0 rfl ?_
  refine g_i2l hZ dL_packed_1 (by omega) ?_
  refine g_bipush hZ (z := 7) dL_packed_2 rfl ?_
  refine g_lshl hZ dL_packed_4 (gj_shl (x := a) (k := 7) (by omega)) ?_
  refine g_iload_n hZ dL_packed_5 rfl ?_
  refine g_i2l hZ dL_packed_6 (by omega) ?_
  refine g_lor hZ dL_packed_7 (gj_app (by omega) (by omega)) ?_
  refine g_bipush hZ (z := 7) dL_packed_8 rfl ?_
  refine g_lshl hZ dL_packed_10 (gj_shl (x := a * 128 + b) (k := 7) (by omega)) ?_
  refine g_iload_n hZ dL_packed_11 rfl ?_
  refine g_i2l hZ dL_packed_12 (by omega) ?_
  refine g_lor hZ dL_packed_13 (gj_app (by omega) (by omega)) ?_
  refine g_bipush hZ (z := 7) dL_packed_14 rfl ?_
  refine g_lshl hZ dL_packed_16 (gj_shl (x := (a * 128 + b) * 128 + c) (k := 7) (by omega)) ?_
  refine g_iload_n hZ dL_packed_17 rfl ?_
  refine g_i2l hZ dL_packed_18 (by omega) ?_
  refine g_lor hZ dL_packed_19 (gj_app (by omega) (by omega)) ?_
  refine g_lret hZ dL_packed_20 rfl ⟨rfl, rfl⟩
def dlW (x : Nat) : Nat → List Nat
  | 0 => []
  | m + 1 => (x / 2 ^ (7 * m) % 128) :: dlW x m
theorem dlW_len (x : Nat) : ∀ m, (dlW x m).length = m
  | 0 => rfl
  | m + 1 => by rw [dlW, List.length_cons, dlW_len x m]
theorem t_L_word (E : gE) (S : gS) {w h n : Nat} {B : Nat → Int} {hs : List hEn} {kp : List (Nat × Nat)} {tx : List Nat} (hI : Iv S w h n B hs kp tx) (x : Nat) (hx : x < 268435456) (m : Nat) (hm : m ≤ 4) (hd : ∀ j, j < m → 32 ≤ x / 2 ^ (7 * j) % 128 ∧ x / 2 ^ (7 * j) % 128 ≤ 126) (hl : tx.length + m ≤ 60) : Ct E LAY mL_word [.ref (gad E 0), jV (x : Int), iV (m : Int)] S (fun r S' => r = some (iV 1) ∧ Iv S' w h n B hs kp (tx ++ dlW x m)) := by
  refine Ct.intro LAY_ok (by decide +kernel) (Nat.le_of_ble_eq_true rfl) rfl ?_
  intro Z hZ
  have loop : ∀ (j : Nat) (S₁ : gS) (ty : List Nat) (L9 : List (Nat × Value)), j ≤ m → Iv S₁ w h n B hs kp ty → ty ++ dlW x j = tx ++ dlW x m → lkeep L9 [0, 1, 4, 5] = [(0, .ref (gad E 0)), (1, jV (x : Int)), (4, iV 1), (5, iV ((j : Int) - 1))] → Z S₁ L9 8 [] := by
    intro j
    induction j with
    | zero =>
      intro S₁ ty L9 hj hI₁ he hL9
      refine g_keep hZ [0, 1, 4, 5] hL9 ?_
      refine g_iload hZ dL_word_8 rfl ?_
      refine g_if_lt hZ 50 dL_word_10 rfl (by omega) (fun _ => ?_) (fun cX => absurd (by omega) cX)
      refine g_iload hZ dL_word_50 rfl ?_
      refine g_zret hZ dL_word_52 rfl (Or.inr rfl) ⟨rfl, by rw [← he, dlW, List.append_nil]; exact hI₁⟩
    | succ j ih =>
      intro S₁ ty L9 hj hI₁ he hL9
      have hlen := congrArg List.length he
      rw [List.length_append, List.length_append, dlW_len, dlW_len] at hlen
      refine g_keep hZ [0, 1, 4, 5] hL9 ?_
      rw [show ((j + 1 : Nat) : Int) - 1 = (j : Int) by omega]
      refine g_iload hZ dL_word_8 rfl ?_
      refine g_if_lt hZ 50 dL_word_10 rfl (by omega) (fun cX => absurd cX (by omega)) (fun _ => ?_)
      refine g_iload hZ dL_word_13 rfl ?_
      refine g_if_eq hZ 50 dL_word_15 rfl (by omega) (fun cX => absurd cX (by omega)) (fun _ => ?_)
      refine g_aload_n hZ dL_word_18 rfl ?_
      refine g_lload_n hZ dL_word_19 rfl ?_
      refine g_bipush hZ (z := 7) dL_word_20 rfl ?_
      refine g_iload hZ dL_word_22 rfl ?_
      refine g_imul hZ dL_word_24 ?_
      rw [show (7 : Int) * (j : Int) = ((7 * j : Nat) : Int) by omega]
      have hq : x / 2 ^ (7 * j) ≤ x := Nat.div_le_self _ _
      refine g_lshr hZ dL_word_25 (gj_shr (by omega) (by omega)) ?_
      refine g_ldc2 hZ (z := 127) dL_word_26 (TS_m (by decide +kernel) rfl) ?_
      refine g_land hZ dL_word_29 (gj_127 (by omega)) ?_
      refine g_l2i hZ dL_word_30 (gj_l2i _) ?_
      refine g_callV hZ (q_type hI₁ (x / 2 ^ (7 * j) % 128) (hd j (by omega)) (by omega)) kL_53 ⟨by decide, by decide⟩ rfl rfl rfl rfl (Nat.le_of_ble_eq_true rfl) dL_word_31 ?_
      rintro _ S₂ ⟨rfl, hI₂⟩
      refine g_if_le hZ 41 dL_word_34 rfl (by omega) (fun cX => absurd cX (by omega)) (fun _ => ?_)
      refine g_iconst hZ dL_word_37 ?_
      refine g_goto hZ 42 dL_word_38 rfl ?_
      refine g_istore hZ dL_word_42 (by decide) ?_
      refine g_iinc hZ dL_word_44 rfl (by decide) ?_
      refine g_goto hZ 8 dL_word_47 rfl ?_
      exact ih S₂ (ty ++ [x / 2 ^ (7 * j) % 128]) _ (by omega) hI₂ (by rw [← he, dlW, List.append_assoc]; rfl) rfl
  refine g_iconst hZ dL_word_0 ?_
  refine g_istore hZ dL_word_1 (by decide) ?_
  refine g_iload_n hZ dL_word_3 rfl ?_
  refine g_iconst hZ dL_word_4 ?_
  refine g_isub hZ dL_word_5 ?_
  refine g_istore hZ dL_word_6 (by decide) ?_
  exact loop m S tx _ (Nat.le_refl m) hI rfl rfl
def nT (v : Nat) : List Nat := if v < 10 then [32, 48 + v] else [32, 48 + v / 10, 48 + v % 10]
theorem nT_len (v : Nat) : (nT v).length ≤ 3 := by unfold nT; split <;> simp
theorem t_L_number (E : gE) (S : gS) {w h n : Nat} {B : Nat → Int} {hs : List hEn} {kp : List (Nat × Nat)} {tx : List Nat} (hI : Iv S w h n B hs kp tx) (v : Nat) (hv : v < 100) (hl : tx.length + 3 ≤ 60) : Ct E LAY mL_number [.ref (gad E 0), iV (v : Int)] S (fun r S' => r = some (iV 1) ∧ Iv S' w h n B hs kp (tx ++ nT v)) := by
  refine Ct.intro LAY_ok (by decide +kernel) (Nat.le_of_ble_eq_true rfl) rfl ?_
  intro Z hZ
  have tail : ∀ (S₁ : gS) (ty : List Nat), Iv S₁ w h n B hs kp ty → ty.length < 60 → ty ++ [48 + v % 10] = tx ++ nT v → Z S₁ [(0, .ref (gad E 0)), (1, iV (v : Int))] 29 [] := by
    intro S₁ ty hI₁ hl₁ he
    refine g_aload_n hZ dL_number_29 rfl ?_
    refine g_bipush hZ (z := 48) dL_number_30 rfl ?_
    refine g_iload_n hZ dL_number_32 rfl ?_
    refine g_bipush hZ (z := 10) dL_number_33 rfl ?_
    refine g_irem hZ (b := 10) dL_number_35 (by omega) (by omega) (by omega) ?_
    refine g_iadd hZ dL_number_36 ?_
    rw [show (48 : Int) + ((v % 10 : Nat) : Int) = ((48 + v % 10 : Nat) : Int) by omega]
    refine g_callV hZ (q_type hI₁ (48 + v % 10) (by omega) (by omega)) kL_53 ⟨by decide, by decide⟩ rfl rfl rfl rfl (Nat.le_of_ble_eq_true rfl) dL_number_37 ?_
    rintro _ S₂ ⟨rfl, hI₂⟩
    refine g_if_le hZ 47 dL_number_40 rfl (by omega) (fun cX => absurd cX (by omega)) (fun _ => ?_)
    refine g_iconst hZ dL_number_43 ?_
    refine g_goto hZ 48 dL_number_44 rfl ?_
    refine g_zret hZ dL_number_48 rfl (Or.inr rfl) ⟨rfl, by rw [← he]; exact hI₂⟩
  refine g_aload_n hZ dL_number_0 rfl ?_
  refine g_bipush hZ (z := 32) dL_number_1 rfl ?_
  refine g_callV hZ (As := [iV ((32 : Nat) : Int)]) (q_type hI 32 (by omega) (by omega)) kL_53 ⟨by decide, by decide⟩ rfl rfl rfl rfl (Nat.le_of_ble_eq_true rfl) dL_number_3 ?_
  rintro _ S₁ ⟨rfl, hI₁⟩
  refine g_if_le hZ 47 dL_number_6 rfl (by omega) (fun cX => absurd cX (by omega)) (fun _ => ?_)
  refine g_iload_n hZ dL_number_9 rfl ?_
  refine g_bipush hZ (z := 10) dL_number_10 rfl ?_
  refine g_icmp_lt hZ 29 dL_number_12 rfl (by omega) (fun c1 => ?_) (fun c1 => ?_)
  · refine tail S₁ _ hI₁ (by rw [List.length_append]; show tx.length + 1 < 60; omega) ?_
    rw [List.append_assoc, Nat.mod_eq_of_lt (by omega)]
    unfold nT
    rw [if_pos (by omega)]
    rfl
  · refine g_aload_n hZ dL_number_15 rfl ?_
    refine g_bipush hZ (z := 48) dL_number_16 rfl ?_
    refine g_iload_n hZ dL_number_18 rfl ?_
    refine g_bipush hZ (z := 10) dL_number_19 rfl ?_
    refine g_idiv hZ (b := 10) dL_number_21 (by omega) (by omega) (by omega) ?_
    refine g_iadd hZ dL_number_22 ?_
    rw [show (48 : Int) + ((v / 10 : Nat) : Int) = ((48 + v / 10 : Nat) : Int) by omega]
    have hl₁ : (tx ++ [32]).length = tx.length + 1 := by rw [List.length_append]; rfl
    refine g_callV hZ (q_type hI₁ (48 + v / 10) (by omega) (by omega)) kL_53 ⟨by decide, by decide⟩ rfl rfl rfl rfl (Nat.le_of_ble_eq_true rfl) dL_number_23 ?_
    rintro _ S₂ ⟨rfl, hI₂⟩
    refine g_if_le hZ 47 dL_number_26 rfl (by omega) (fun cX => absurd cX (by omega)) (fun _ => ?_)
    refine tail S₂ _ hI₂ (by rw [List.length_append, hl₁]; show tx.length + 1 + 1 < 60; omega) ?_
    rw [List.append_assoc, List.append_assoc]
    unfold nT
    rw [if_neg (by omega)]
    rfl
theorem t_L_draws (E : gE) (S : gS) {w h n : Nat} {B : Nat → Int} {hs : List hEn} {kp : List (Nat × Nat)} {tx : List Nat} (hI : Iv S w h n B hs kp tx) (W H N : Nat) (hW : 1 ≤ W ∧ W ≤ 5) (hH : 1 ≤ H ∧ H ≤ 5) (hN : W * H = N) (hN15 : N ≤ 15) (c : Nat) (hc : c < 2147483648) : Ct E LAY mL_draws [.ref (gad E 0), iV (W : Int), iV (H : Int), iV (c : Int)] S (fun r S' => r = some (iV 1) ∧ ∃ (B2 : Nat → Int) (hs2 : List hEn), Iv S' W H N B2 hs2 [] tx) := by
  refine Ct.intro LAY_ok (by decide +kernel) (Nat.le_of_ble_eq_true rfl) rfl ?_
  intro Z hZ
  have eN : (W : Int) * (H : Int) = (N : Int) := by rw [← hN]; exact (Int.natCast_mul W H).symm
  have loop : ∀ (m f : Nat) (S₁ : gS) (A : Nat → Int) (gs : List hEn) (L9 : List (Nat × Value)), f + m = N → Iv S₁ W H N A gs [] tx → (∀ k, f ≤ k → A k = 0) → lkeep L9 [0, 1, 2, 3, 4, 5] = [(0, .ref (gad E 0)), (1, iV (W : Int)), (2, iV (H : Int)), (3, iV (c : Int)), (4, iV 1), (5, iV (f : Int))] → Z S₁ L9 19 [] := by
    intro m
    induction m with
    | zero =>
      intro f S₁ A gs L9 hf hI₁ hA hL9
      refine g_keep hZ [0, 1, 2, 3, 4, 5] hL9 ?_
      refine g_iload hZ dL_draws_19 rfl ?_
      refine g_iload_n hZ dL_draws_21 rfl ?_
      refine g_iload_n hZ dL_draws_22 rfl ?_
      refine g_imul hZ dL_draws_23 ?_
      rw [eN]
      refine g_icmp_ge hZ 102 dL_draws_24 rfl (by omega) (fun _ => ?_) (fun cX => absurd (by omega) cX)
      refine g_iload hZ dL_draws_102 rfl ?_
      refine g_zret hZ dL_draws_104 rfl (Or.inr rfl) ⟨rfl, _, _, hI₁⟩
    | succ m ih =>
      intro f S₁ A gs L9 hf hI₁ hA hL9
      refine g_keep hZ [0, 1, 2, 3, 4, 5] hL9 ?_
      refine g_iload hZ dL_draws_19 rfl ?_
      refine g_iload_n hZ dL_draws_21 rfl ?_
      refine g_iload_n hZ dL_draws_22 rfl ?_
      refine g_imul hZ dL_draws_23 ?_
      rw [eN]
      refine g_icmp_ge hZ 102 dL_draws_24 rfl (by omega) (fun cX => absurd cX (by omega)) (fun _ => ?_)
      refine g_iload hZ dL_draws_27 rfl ?_
      refine g_if_eq hZ 102 dL_draws_29 rfl (by omega) (fun cX => absurd cX (by omega)) (fun _ => ?_)
      have same : ∀ L8 : List (Nat × Value), lkeep L8 [0, 1, 2, 3, 4, 5] = [(0, .ref (gad E 0)), (1, iV (W : Int)), (2, iV (H : Int)), (3, iV (c : Int)), (4, iV 1), (5, iV (f : Int))] → Z S₁ L8 89 [] := by
        intro L8 hL8
        refine g_keep hZ [0, 1, 2, 3, 4, 5] hL8 ?_
        refine g_iconst hZ dL_draws_89 ?_
        refine g_goto hZ 94 dL_draws_90 rfl ?_
        refine g_istore hZ dL_draws_94 (by decide) ?_
        refine g_iinc hZ dL_draws_96 rfl (by decide) ?_
        refine g_goto hZ 19 dL_draws_99 rfl ?_
        exact ih (f + 1) S₁ A gs _ (by omega) hI₁ (fun k hk => hA k (by omega)) rfl
      have sets : ∀ v : Nat, v ≤ 3 → ((v : Int) = 1 ∨ (v : Int) = 2 → cntZ A (v : Int) N ≠ 3) → Z S₁ [(0, .ref (gad E 0)), (1, iV (W : Int)), (2, iV (H : Int)), (3, iV (c : Int)), (4, iV 1), (5, iV (f : Int)), (6, iV (v : Int))] 78 [] := by
        intro v hv hv2
        refine g_aload_n hZ dL_draws_78 rfl ?_
        refine g_iload hZ dL_draws_79 rfl ?_
        refine g_iload hZ dL_draws_81 rfl ?_
        refine g_callV hZ (q_setField hI₁ f (v : Int) (by omega) (by omega) (fun q => Or.inr (hv2 q))) kL_19 ⟨by decide, by decide⟩ rfl rfl rfl rfl (Nat.le_of_ble_eq_true rfl) dL_draws_83 ?_
        rintro _ S₂ ⟨rfl, hI₂⟩
        rw [hA f (Nat.le_refl f)]
        refine g_if_ne hZ 93 dL_draws_86 rfl (by omega) (fun cX => absurd rfl cX) (fun _ => ?_)
        refine g_iconst hZ dL_draws_89 ?_
        refine g_goto hZ 94 dL_draws_90 rfl ?_
        refine g_istore hZ dL_draws_94 (by decide) ?_
        refine g_iinc hZ dL_draws_96 rfl (by decide) ?_
        refine g_goto hZ 19 dL_draws_99 rfl ?_
        exact ih (f + 1) S₂ (upB A f (v : Int)) _ _ (by omega) hI₂ (fun k hk => by unfold upB; rw [if_neg (by omega)]; exact hA k (by omega)) rfl
      have put : ∀ v : Nat, v ≤ 3 → Z S₁ [(0, .ref (gad E 0)), (1, iV (W : Int)), (2, iV (H : Int)), (3, iV (c : Int)), (4, iV 1), (5, iV (f : Int))] 55 [iV (v : Int)] := by
        intro v hv
        have hcn := cntZ_le A (v : Int) N
        refine g_istore hZ dL_draws_55 (by decide) ?_
        refine g_iload hZ dL_draws_57 rfl ?_
        refine g_if_eq hZ 89 dL_draws_59 rfl (by omega) (fun c1 => ?_) (fun c1 => ?_)
        · exact same _ rfl
        · refine g_iload hZ dL_draws_62 rfl ?_
          refine g_iconst hZ dL_draws_64 ?_
          refine g_icmp_ge hZ 78 dL_draws_65 rfl (by omega) (fun c2 => ?_) (fun c2 => ?_)
          · exact sets v hv (fun q => by omega)
          · refine g_aload_n hZ dL_draws_68 rfl ?_
            refine g_iload hZ dL_draws_69 rfl ?_
            refine g_callV hZ (q_count hI₁ (v : Int) (by omega)) kL_15 ⟨by decide, by decide⟩ rfl rfl rfl rfl (Nat.le_of_ble_eq_true rfl) dL_draws_71 ?_
            rintro _ _ ⟨rfl, rfl⟩
            refine g_iconst hZ dL_draws_74 ?_
            refine g_icmp_eq hZ 89 dL_draws_75 rfl (by omega) (fun c3 => ?_) (fun c3 => ?_)
            · exact same _ rfl
            · exact sets v hv (fun _ q => c3 (by omega))
      refine g_iload_n hZ dL_draws_32 rfl ?_
      refine g_iload hZ dL_draws_33 rfl ?_
      refine g_ishr hZ dL_draws_35 (gi_shr (by omega) (by omega)) ?_
      refine g_iconst hZ dL_draws_36 ?_
      have hq : c / 2 ^ f ≤ c := Nat.div_le_self _ _
      refine g_irem hZ (b := 3) dL_draws_37 (by omega) (by omega) (by omega) ?_
      refine g_if_le hZ 45 dL_draws_38 rfl (by omega) (fun c1 => ?_) (fun c1 => ?_)
      · refine g_iconst hZ dL_draws_45 ?_
        refine g_iload_n hZ dL_draws_46 rfl ?_
        refine g_iload hZ dL_draws_47 rfl ?_
        refine g_iconst hZ dL_draws_49 ?_
        refine g_iadd hZ dL_draws_50 ?_
        rw [show (f : Int) + 2 = ((f + 2 : Nat) : Int) by omega]
        have hq2 : c / 2 ^ (f + 2) ≤ c := Nat.div_le_self _ _
        refine g_ishr hZ dL_draws_51 (gi_shr (by omega) (by omega)) ?_
        refine g_iconst hZ dL_draws_52 ?_
        refine g_irem hZ (b := 3) dL_draws_53 (by omega) (by omega) (by omega) ?_
        refine g_iadd hZ dL_draws_54 ?_
        rw [show (1 : Int) + ((c / 2 ^ (f + 2) % 3 : Nat) : Int) = ((1 + c / 2 ^ (f + 2) % 3 : Nat) : Int) by omega]
        exact put _ (by omega)
      · refine g_iconst hZ dL_draws_41 ?_
        refine g_goto hZ 55 dL_draws_42 rfl ?_
        exact put 0 (by omega)
  refine g_aload_n hZ dL_draws_0 rfl ?_
  refine g_iload_n hZ dL_draws_1 rfl ?_
  refine g_iload_n hZ dL_draws_2 rfl ?_
  refine g_callV hZ (q_reset hI W H hW hH (by omega)) kL_9 ⟨by decide, by decide⟩ rfl rfl rfl rfl (Nat.le_of_ble_eq_true rfl) dL_draws_3 ?_
  rintro _ S₁ ⟨z, rfl, hz, rz, hI₁⟩
  rw [hN] at hI₁
  refine g_if_le hZ 13 dL_draws_6 rfl (by omega) (fun cX => absurd cX (by omega)) (fun _ => ?_)
  refine g_iconst hZ dL_draws_9 ?_
  refine g_goto hZ 14 dL_draws_10 rfl ?_
  refine g_istore hZ dL_draws_14 (by decide) ?_
  refine g_iconst hZ dL_draws_16 ?_
  refine g_istore hZ dL_draws_17 (by decide) ?_
  exact loop N 0 S₁ Z0 _ _ (by omega) hI₁ (fun k _ => rfl) rfl
