/-! the law's own methods: isText -/
theorem t_word4 (E : gE) (S : gS) {w h n : Nat} {B : Nat → Int} {hs : List hEn} {kp : List (Nat × Nat)} {tx : List Nat} (hI : Iv S w h n B hs kp tx) (a b c d : Nat) (ha : 32 ≤ a ∧ a ≤ 126) (hb : 32 ≤ b ∧ b ≤ 126) (hc : 32 ≤ c ∧ c ≤ 126) (hd : 32 ≤ d ∧ d ≤ 126) (hl : tx.length + 4 ≤ 60) : Ct E LAY mL_word [.ref (gad E 0), jV ((((a * 128 + b) * 128 + c) * 128 + d : Nat) : Int), iV 4] S (fun r S' => r = some (iV 1) ∧ Iv S' w h n B hs kp (tx ++ [a, b, c, d])) := by
  have e0 : (((a * 128 + b) * 128 + c) * 128 + d) / 2 ^ (7 * 0) % 128 = d := by omega
  have e1 : (((a * 128 + b) * 128 + c) * 128 + d) / 2 ^ (7 * 1) % 128 = c := by omega
  have e2 : (((a * 128 + b) * 128 + c) * 128 + d) / 2 ^ (7 * 2) % 128 = b := by omega
  have e3 : (((a * 128 + b) * 128 + c) * 128 + d) / 2 ^ (7 * 3) % 128 = a := by omega
  have e : dlW (((a * 128 + b) * 128 + c) * 128 + d) 4 = [a, b, c, d] := by
    show [_, _, _, _] = _
    rw [e0, e1, e2, e3]
  have z := t_L_word E S hI (((a * 128 + b) * 128 + c) * 128 + d) (by omega) 4 (by omega) (fun j hj => by
    rcases (show j = 0 ∨ j = 1 ∨ j = 2 ∨ j = 3 by omega) with rfl | rfl | rfl | rfl
    · rw [e0]; exact hd
    · rw [e1]; exact hc
    · rw [e2]; exact hb
    · rw [e3]; exact ha) hl
  rw [e] at z
  exact z
theorem q_type2 {E : gE} {S : gS} {w h n : Nat} {B : Nat → Int} {hs : List hEn} {kp : List (Nat × Nat)} {tx : List Nat} (hI : Iv S w h n B hs kp tx) (c : Nat) (hc : 32 ≤ c ∧ c ≤ 126) (hl : tx.length < 60) : Ct E LAY mX8_type [.ref (gad E 0), iV (c : Int)] S (fun r S' => ∃ z : Int, r = some (iV z) ∧ 0 < z ∧ z ≤ 60 ∧ Iv S' w h n B hs kp (tx ++ [c])) :=
  (q_type hI c hc hl).mono fun r S' q => ⟨_, q.1, by omega, by omega, q.2⟩
theorem hp_two (hs : List hEn) (e : hEn) : ∃ P, (if (hpush hs e).length = 8 then (hpush hs e).tail else hpush hs e) = P ++ [e] := by
  by_cases q : (hpush hs e).length = 8
  · rw [if_pos q]
    unfold hpush at q ⊢
    cases hP : (if hs.length = 8 then hs.tail else hs) with
    | nil => rw [hP] at q; simp at q
    | cons x r => exact ⟨r, rfl⟩
  · rw [if_neg q]; exact ⟨_, rfl⟩
theorem gOK.pos {w h n : Nat} (hg : gOK w h n) : 0 < n := by
  obtain ⟨w1, -, h1, -, e, -⟩ := hg
  rw [← e]; exact Nat.mul_pos w1 h1
section TEXTS
variable {Z : gS → List (Nat × Value) → Nat → List Value → Prop} {E : gE} {Rt : Option Value → gS → Prop} {S : gS} {w h n : Nat} {B : Nat → Int} {hs : List hEn} {kp : List (Nat × Nat)} {tx : List Nat}

set_option maxHeartbeats 4000000 in
theorem it_A (hZ : Cx Z E LAY mL_isText Rt) (hG : gad E 99 = 1) (hI : Iv S w h n B hs kp tx) (a b c : Nat) (hc : c < 2147483648) (ea : a = c % n) (eb : b = c / 2 ^ 4 % n) (next : ∀ S₉ : gS, Iv S₉ w h n B hs kp (tA a b) → Z S₉ [(0, .ref (gad E 0)), (1, iV (n : Int)), (2, iV (c : Int)), (3, iV (a : Int)), (4, iV (b : Int)), (5, iV 1)] 136 []) : Z S [(0, .ref (gad E 0)), (1, iV (n : Int)), (2, iV (c : Int))] 0 [] := by
  have hn := hI.g.2.2.2.2.2
  have hp := hI.g.pos
  have hq : c / 2 ^ 4 ≤ c := Nat.div_le_self _ _
  have ha : a < n := by rw [ea]; exact Nat.mod_lt _ hp
  have hb : b < n := by rw [eb]; exact Nat.mod_lt _ hp
  refine g_iload_n hZ dL_isText_0 rfl ?_
  refine g_iload_n hZ dL_isText_1 rfl ?_
  refine g_irem hZ dL_isText_2 (by omega) (by omega) (by omega) ?_
  refine g_istore_n hZ dL_isText_3 (by decide) ?_
  refine g_iload_n hZ dL_isText_4 rfl ?_
  refine g_iconst hZ dL_isText_5 ?_
  refine g_ishr hZ dL_isText_6 (gi_shr (k := 4) (by omega) (by omega)) ?_
  refine g_iload_n hZ dL_isText_7 rfl ?_
  refine g_irem hZ dL_isText_8 (by omega) (by omega) (by omega) ?_
  rw [← ea, ← eb]
  refine g_istore hZ dL_isText_9 (by decide) ?_
  refine g_aload_n hZ dL_isText_11 rfl ?_
  refine g_callV hZ (q_clearText hI) kL_58 ⟨by decide, by decide⟩ rfl rfl rfl rfl (Nat.le_of_ble_eq_true rfl) dL_isText_12 ?_
  rintro _ S₁ ⟨rfl, hl60, hI₁⟩
  refine g_if_lt hZ 133 dL_isText_15 rfl (by omega) (fun cX => absurd cX (by omega)) (fun _ => ?_)
  refine g_keep hZ [0, 1, 2, 3, 4] (L' := [(0, .ref (gad E 0)), (1, iV (n : Int)), (2, iV (c : Int)), (3, iV (a : Int)), (4, iV (b : Int))]) rfl ?_
  refine g_aload_n hZ dL_isText_18 rfl ?_
  refine g_bipush hZ (z := 98) dL_isText_19 rfl ?_
  refine g_bipush hZ (z := 117) dL_isText_21 rfl ?_
  refine g_bipush hZ (z := 114) dL_isText_23 rfl ?_
  refine g_bipush hZ (z := 110) dL_isText_25 rfl ?_
  refine g_callS hZ (As := [iV ((98 : Nat) : Int), iV ((117 : Nat) : Int), iV ((114 : Nat) : Int), iV ((110 : Nat) : Int)]) (t_L_packed E S₁ 98 117 114 110 (by omega) (by omega) (by omega) (by omega)) kL_61 ⟨by decide, by decide⟩ rfl rfl (Nat.le_of_ble_eq_true rfl) dL_isText_27 ?_
  rintro _ _ ⟨rfl, rfl⟩
  refine g_iconst hZ dL_isText_30 ?_
  refine g_callS hZ (t_word4 E _ hI₁ 98 117 114 110 (by omega) (by omega) (by omega) (by omega) (by first | omega | (simp only [List.length_append, List.length_cons, List.length_nil]; omega))) kL_67 ⟨by decide, by decide⟩ rfl rfl (Nat.le_of_ble_eq_true rfl) dL_isText_31 ?_
  rintro _ W1₁ ⟨rfl, hW1⟩
  refine g_if_eq hZ 133 dL_isText_34 rfl (by omega) (fun cX => absurd cX (by omega)) (fun _ => ?_)
  have hn2 := nT_len a
  refine g_aload_n hZ dL_isText_37 rfl ?_
  refine g_iload_n hZ dL_isText_38 rfl ?_
  refine g_callS hZ (t_L_number E _ hW1 a (by omega) (by first | omega | (simp only [List.length_append, List.length_cons, List.length_nil]; omega))) kL_71 ⟨by decide, by decide⟩ rfl rfl (Nat.le_of_ble_eq_true rfl) dL_isText_39 ?_
  rintro _ W2₁ ⟨rfl, hW2⟩
  refine g_if_eq hZ 133 dL_isText_42 rfl (by omega) (fun cX => absurd cX (by omega)) (fun _ => ?_)
  refine g_aload_n hZ dL_isText_45 rfl ?_
  refine g_bipush hZ (z := 59) dL_isText_46 rfl ?_
  refine g_callV hZ (As := [iV ((59 : Nat) : Int)]) (q_type2 hW2 59 (by omega) (by first | omega | (simp only [List.length_append, List.length_cons, List.length_nil]; omega))) kL_53 ⟨by decide, by decide⟩ rfl rfl rfl rfl (Nat.le_of_ble_eq_true rfl) dL_isText_48 ?_
  rintro _ W3₁ ⟨z3, rfl, z3a, z3b, hW3⟩
  refine g_if_le hZ 133 dL_isText_51 rfl (by omega) (fun cX => absurd cX (by omega)) (fun _ => ?_)
  refine g_aload_n hZ dL_isText_54 rfl ?_
  refine g_bipush hZ (z := 112) dL_isText_55 rfl ?_
  refine g_bipush hZ (z := 97) dL_isText_57 rfl ?_
  refine g_bipush hZ (z := 115) dL_isText_59 rfl ?_
  refine g_bipush hZ (z := 115) dL_isText_61 rfl ?_
  refine g_callS hZ (As := [iV ((112 : Nat) : Int), iV ((97 : Nat) : Int), iV ((115 : Nat) : Int), iV ((115 : Nat) : Int)]) (t_L_packed E W3₁ 112 97 115 115 (by omega) (by omega) (by omega) (by omega)) kL_61 ⟨by decide, by decide⟩ rfl rfl (Nat.le_of_ble_eq_true rfl) dL_isText_63 ?_
  rintro _ _ ⟨rfl, rfl⟩
  refine g_iconst hZ dL_isText_66 ?_
  refine g_callS hZ (t_word4 E _ hW3 112 97 115 115 (by omega) (by omega) (by omega) (by omega) (by first | omega | (simp only [List.length_append, List.length_cons, List.length_nil]; omega))) kL_67 ⟨by decide, by decide⟩ rfl rfl (Nat.le_of_ble_eq_true rfl) dL_isText_67 ?_
  rintro _ W4₁ ⟨rfl, hW4⟩
  refine g_if_eq hZ 133 dL_isText_70 rfl (by omega) (fun cX => absurd cX (by omega)) (fun _ => ?_)
  refine g_aload_n hZ dL_isText_73 rfl ?_
  refine g_bipush hZ (z := 59) dL_isText_74 rfl ?_
  refine g_callV hZ (As := [iV ((59 : Nat) : Int)]) (q_type2 hW4 59 (by omega) (by first | omega | (simp only [List.length_append, List.length_cons, List.length_nil]; omega))) kL_53 ⟨by decide, by decide⟩ rfl rfl rfl rfl (Nat.le_of_ble_eq_true rfl) dL_isText_76 ?_
  rintro _ W5₁ ⟨z5, rfl, z5a, z5b, hW5⟩
  refine g_if_le hZ 133 dL_isText_79 rfl (by omega) (fun cX => absurd cX (by omega)) (fun _ => ?_)
  refine g_aload_n hZ dL_isText_82 rfl ?_
  refine g_bipush hZ (z := 102) dL_isText_83 rfl ?_
  refine g_bipush hZ (z := 114) dL_isText_85 rfl ?_
  refine g_bipush hZ (z := 101) dL_isText_87 rfl ?_
  refine g_bipush hZ (z := 101) dL_isText_89 rfl ?_
  refine g_callS hZ (As := [iV ((102 : Nat) : Int), iV ((114 : Nat) : Int), iV ((101 : Nat) : Int), iV ((101 : Nat) : Int)]) (t_L_packed E W5₁ 102 114 101 101 (by omega) (by omega) (by omega) (by omega)) kL_61 ⟨by decide, by decide⟩ rfl rfl (Nat.le_of_ble_eq_true rfl) dL_isText_91 ?_
  rintro _ _ ⟨rfl, rfl⟩
  refine g_iconst hZ dL_isText_94 ?_
  refine g_callS hZ (t_word4 E _ hW5 102 114 101 101 (by omega) (by omega) (by omega) (by omega) (by first | omega | (simp only [List.length_append, List.length_cons, List.length_nil]; omega))) kL_67 ⟨by decide, by decide⟩ rfl rfl (Nat.le_of_ble_eq_true rfl) dL_isText_95 ?_
  rintro _ W6₁ ⟨rfl, hW6⟩
  refine g_if_eq hZ 133 dL_isText_98 rfl (by omega) (fun cX => absurd cX (by omega)) (fun _ => ?_)
  have hn7 := nT_len b
  refine g_aload_n hZ dL_isText_101 rfl ?_
  refine g_iload hZ dL_isText_102 rfl ?_
  refine g_callS hZ (t_L_number E _ hW6 b (by omega) (by first | omega | (simp only [List.length_append, List.length_cons, List.length_nil]; omega))) kL_71 ⟨by decide, by decide⟩ rfl rfl (Nat.le_of_ble_eq_true rfl) dL_isText_104 ?_
  rintro _ W7₁ ⟨rfl, hW7⟩
  refine g_if_eq hZ 133 dL_isText_107 rfl (by omega) (fun cX => absurd cX (by omega)) (fun _ => ?_)
  refine g_aload_n hZ dL_isText_110 rfl ?_
  refine g_bipush hZ (z := 59) dL_isText_111 rfl ?_
  refine g_callV hZ (As := [iV ((59 : Nat) : Int)]) (q_type2 hW7 59 (by omega) (by first | omega | (simp only [List.length_append, List.length_cons, List.length_nil]; omega))) kL_53 ⟨by decide, by decide⟩ rfl rfl rfl rfl (Nat.le_of_ble_eq_true rfl) dL_isText_113 ?_
  rintro _ W8₁ ⟨z8, rfl, z8a, z8b, hW8⟩
  refine g_if_le hZ 133 dL_isText_116 rfl (by omega) (fun cX => absurd cX (by omega)) (fun _ => ?_)
  rw [show [] ++ [98, 117, 114, 110] ++ nT a ++ [59] ++ [112, 97, 115, 115] ++ [59] ++ [102, 114, 101, 101] ++ nT b ++ [59] = tA a b by unfold tA cB cP cF; simp] at hW8
  refine g_aload_n hZ dL_isText_119 rfl ?_
  refine g_callV hZ (q_fault hG hW8 (-1005) (tA_flt a b (by omega) (by omega))) kL_75 ⟨by decide, by decide⟩ rfl rfl rfl rfl (Nat.le_of_ble_eq_true rfl) dL_isText_120 ?_
  rintro _ S₃ ⟨rfl, hI₃⟩
  refine g_sipush hZ (z := (-1005)) dL_isText_123 rfl ?_
  refine g_icmp_ne hZ 133 dL_isText_126 rfl (by omega) (fun cX => absurd rfl cX) (fun _ => ?_)
  refine g_iconst hZ dL_isText_129 ?_
  refine g_goto hZ 134 dL_isText_130 rfl ?_
  refine g_istore hZ dL_isText_134 (by decide) ?_
  refine g_keep hZ [0, 1, 2, 3, 4, 5] (L' := [(0, .ref (gad E 0)), (1, iV (n : Int)), (2, iV (c : Int)), (3, iV (a : Int)), (4, iV (b : Int)), (5, iV 1)]) rfl ?_
  exact next S₃ hI₃
theorem it_B (hZ : Cx Z E LAY mL_isText Rt) (hI : Iv S w h n B hs kp tx) (a b c : Nat) (next : Z S [(0, .ref (gad E 0)), (1, iV (n : Int)), (2, iV (c : Int)), (3, iV (a : Int)), (4, iV (b : Int)), (5, iV 1), (6, iV (cod B n : Int))] 170 []) : Z S [(0, .ref (gad E 0)), (1, iV (n : Int)), (2, iV (c : Int)), (3, iV (a : Int)), (4, iV (b : Int)), (5, iV 1)] 136 [] := by
  have hn := hI.g.2.2.2.2.2
  have hB := hI.2.2.1
  have loop : ∀ (m f : Nat) (L9 : List (Nat × Value)), f + m = n → lkeep L9 [0, 1, 2, 3, 4, 5, 6, 7] = [(0, .ref (gad E 0)), (1, iV (n : Int)), (2, iV (c : Int)), (3, iV (a : Int)), (4, iV (b : Int)), (5, iV 1), (6, iV (cod B f : Int)), (7, iV (f : Int))] → Z S L9 142 [] := by
    intro m
    induction m with
    | zero =>
      intro f L9 hf hL9
      have e : f = n := by omega
      subst e
      refine g_keep hZ [0, 1, 2, 3, 4, 5, 6, 7] hL9 ?_
      refine g_iload hZ dL_isText_142 rfl ?_
      refine g_iload_n hZ dL_isText_144 rfl ?_
      refine g_icmp_ge hZ 170 dL_isText_145 rfl (by omega) (fun _ => ?_) (fun cX => absurd (by omega) cX)
      refine g_keep hZ [0, 1, 2, 3, 4, 5, 6] rfl ?_
      exact next
    | succ m ih =>
      intro f L9 hf hL9
      refine g_keep hZ [0, 1, 2, 3, 4, 5, 6, 7] hL9 ?_
      have hBf := hB f (by omega)
      obtain ⟨v, hv⟩ := Int.eq_ofNat_of_zero_le hBf.1
      have hcl := cod_lt (n := f) (x := B) (fun k hk => hB k (by omega))
      have e : cod B (f + 1) = cod B f + v * 4 ^ f := by rw [cod, hv, Int.toNat_natCast]
      refine g_iload hZ dL_isText_142 rfl ?_
      refine g_iload_n hZ dL_isText_144 rfl ?_
      refine g_icmp_ge hZ 170 dL_isText_145 rfl (by omega) (fun cX => absurd cX (by omega)) (fun _ => ?_)
      refine g_iload hZ dL_isText_148 rfl ?_
      refine g_aload_n hZ dL_isText_150 rfl ?_
      refine g_iload hZ dL_isText_151 rfl ?_
      refine g_callV hZ (q_field hI f (by omega)) kL_78 ⟨by decide, by decide⟩ rfl rfl rfl rfl (Nat.le_of_ble_eq_true rfl) dL_isText_153 ?_
      rintro _ _ ⟨rfl, rfl⟩
      rw [hv]
      refine g_iconst hZ dL_isText_156 ?_
      refine g_iload hZ dL_isText_157 rfl ?_
      refine g_imul hZ dL_isText_159 ?_
      refine g_ishl hZ dL_isText_160 (gi_shl4 (by omega) (by omega)) ?_
      refine g_ior hZ dL_isText_161 (gi_or4 hcl) ?_
      refine g_istore hZ dL_isText_162 (by decide) ?_
      rw [← e]
      refine g_iinc hZ dL_isText_164 rfl (by decide) ?_
      refine g_goto hZ 142 dL_isText_167 rfl ?_
      exact ih (f + 1) _ (by omega) rfl
  refine g_iconst hZ dL_isText_136 ?_
  refine g_istore hZ dL_isText_137 (by decide) ?_
  refine g_iconst hZ dL_isText_139 ?_
  refine g_istore hZ dL_isText_140 (by decide) ?_
  exact loop n 0 _ (by omega) rfl
theorem it_C (hZ : Cx Z E LAY mL_isText Rt) (hG : gad E 99 = 1) (a b c : Nat) (ha : a < n) (hb : b < n) (hI : Iv S w h n B hs kp (tA a b)) (next : ∀ (S₉ : gS) (gs : List hEn), Iv S₉ w h n B gs kp (tA a b) → Z S₉ [(0, .ref (gad E 0)), (1, iV (n : Int)), (2, iV (c : Int)), (3, iV (a : Int)), (4, iV (b : Int)), (5, iV 1), (6, iV (cod B n : Int)), (7, iV 0)] 224 []) : Z S [(0, .ref (gad E 0)), (1, iV (n : Int)), (2, iV (c : Int)), (3, iV (a : Int)), (4, iV (b : Int)), (5, iV 1), (6, iV (cod B n : Int))] 170 [] := by
  have hn := hI.g.2.2.2.2.2
  have hwh := hI.g.2.2.2.2.1
  refine g_iload hZ dL_isText_170 rfl ?_
  refine g_if_eq hZ 218 dL_isText_172 rfl (by omega) (fun cX => absurd cX (by omega)) (fun _ => ?_)
  refine g_aload_n hZ dL_isText_175 rfl ?_
  refine g_callV hZ (q_run hG hI (tA_flt a b (by omega) (by omega)) 3 _ (tA_rn w hI.2.2.1 hn ha hb)) kL_81 ⟨by decide, by decide⟩ rfl rfl rfl rfl (Nat.le_of_ble_eq_true rfl) dL_isText_176 ?_
  rintro _ S₁ ⟨rfl, hI₁⟩
  refine g_iconst hZ dL_isText_179 ?_
  refine g_icmp_ne hZ 218 dL_isText_180 rfl (by omega) (fun cX => absurd rfl cX) (fun _ => ?_)
  refine g_aload_n hZ dL_isText_183 rfl ?_
  refine g_iload hZ dL_isText_184 rfl ?_
  refine g_callV hZ (q_field hI₁ b hb) kL_78 ⟨by decide, by decide⟩ rfl rfl rfl rfl (Nat.le_of_ble_eq_true rfl) dL_isText_186 ?_
  rintro _ _ ⟨rfl, rfl⟩
  rw [show upB (upB B a 3) b 0 b = 0 by unfold upB; rw [if_pos rfl]]
  refine g_if_ne hZ 218 dL_isText_189 rfl (by omega) (fun cX => absurd rfl cX) (fun _ => ?_)
  have fin : Z S₁ [(0, .ref (gad E 0)), (1, iV (n : Int)), (2, iV (c : Int)), (3, iV (a : Int)), (4, iV (b : Int)), (5, iV 1), (6, iV (cod B n : Int))] 207 [] := by
    refine g_aload_n hZ dL_isText_207 rfl ?_
    refine g_callV hZ (q_undo1 hI₁ rfl hwh) kL_41 ⟨by decide, by decide⟩ rfl rfl rfl rfl (Nat.le_of_ble_eq_true rfl) dL_isText_208 ?_
    rintro _ S₂ ⟨rfl, hl8, hI₂⟩
    refine g_if_lt hZ 218 dL_isText_211 rfl (by omega) (fun cX => absurd cX (by omega)) (fun _ => ?_)
    refine g_iconst hZ dL_isText_214 ?_
    refine g_goto hZ 219 dL_isText_215 rfl ?_
    refine g_istore hZ dL_isText_219 (by decide) ?_
    refine g_iconst hZ dL_isText_221 ?_
    refine g_istore hZ dL_isText_222 (by decide) ?_
    refine g_keep hZ [0, 1, 2, 3, 4, 5, 6, 7] rfl ?_
    exact next S₂ _ hI₂
  refine g_iload_n hZ dL_isText_192 rfl ?_
  refine g_iload hZ dL_isText_193 rfl ?_
  refine g_icmp_eq hZ 207 dL_isText_195 rfl (by omega) (fun c1 => ?_) (fun c1 => ?_)
  · exact fin
  · refine g_aload_n hZ dL_isText_198 rfl ?_
    refine g_iload_n hZ dL_isText_199 rfl ?_
    refine g_callV hZ (q_field hI₁ a ha) kL_78 ⟨by decide, by decide⟩ rfl rfl rfl rfl (Nat.le_of_ble_eq_true rfl) dL_isText_200 ?_
    rintro _ _ ⟨rfl, rfl⟩
    rw [show upB (upB B a 3) b 0 a = 3 by unfold upB; rw [if_neg (by omega), if_pos rfl]]
    refine g_iconst hZ dL_isText_203 ?_
    refine g_icmp_ne hZ 218 dL_isText_204 rfl (by omega) (fun cX => absurd rfl cX) (fun _ => ?_)
    exact fin
theorem it_D (hZ : Cx Z E LAY mL_isText Rt) (a b c : Nat) (hI : Iv S w h n B hs kp tx) (next : Z S [(0, .ref (gad E 0)), (1, iV (n : Int)), (2, iV (c : Int)), (3, iV (a : Int)), (4, iV (b : Int)), (5, iV 1), (6, iV (cod B n : Int))] 266 []) : Z S [(0, .ref (gad E 0)), (1, iV (n : Int)), (2, iV (c : Int)), (3, iV (a : Int)), (4, iV (b : Int)), (5, iV 1), (6, iV (cod B n : Int)), (7, iV 0)] 224 [] := by
  have hn := hI.g.2.2.2.2.2
  have hB := hI.2.2.1
  have hcl := cod_lt30 hn hB
  have loop : ∀ (m f : Nat) (L9 : List (Nat × Value)), f + m = n → lkeep L9 [0, 1, 2, 3, 4, 5, 6, 7] = [(0, .ref (gad E 0)), (1, iV (n : Int)), (2, iV (c : Int)), (3, iV (a : Int)), (4, iV (b : Int)), (5, iV 1), (6, iV (cod B n : Int)), (7, iV (f : Int))] → Z S L9 224 [] := by
    intro m
    induction m with
    | zero =>
      intro f L9 hf hL9
      refine g_keep hZ [0, 1, 2, 3, 4, 5, 6, 7] hL9 ?_
      refine g_iload hZ dL_isText_224 rfl ?_
      refine g_iload_n hZ dL_isText_226 rfl ?_
      refine g_icmp_ge hZ 266 dL_isText_227 rfl (by omega) (fun _ => ?_) (fun cX => absurd (by omega) cX)
      refine g_keep hZ [0, 1, 2, 3, 4, 5, 6] rfl ?_
      exact next
    | succ m ih =>
      intro f L9 hf hL9
      refine g_keep hZ [0, 1, 2, 3, 4, 5, 6, 7] hL9 ?_
      have hBf := hB f (by omega)
      have e : ((cod B n / 4 ^ f % 4 : Nat) : Int) = B f := bdP_cod hB (by omega)
      refine g_iload hZ dL_isText_224 rfl ?_
      refine g_iload_n hZ dL_isText_226 rfl ?_
      refine g_icmp_ge hZ 266 dL_isText_227 rfl (by omega) (fun cX => absurd cX (by omega)) (fun _ => ?_)
      refine g_iload hZ dL_isText_230 rfl ?_
      refine g_if_eq hZ 266 dL_isText_232 rfl (by omega) (fun cX => absurd cX (by omega)) (fun _ => ?_)
      refine g_aload_n hZ dL_isText_235 rfl ?_
      refine g_iload hZ dL_isText_236 rfl ?_
      refine g_callV hZ (q_field hI f (by omega)) kL_78 ⟨by decide, by decide⟩ rfl rfl rfl rfl (Nat.le_of_ble_eq_true rfl) dL_isText_238 ?_
      rintro _ _ ⟨rfl, rfl⟩
      refine g_iload hZ dL_isText_241 rfl ?_
      refine g_iconst hZ dL_isText_243 ?_
      refine g_iload hZ dL_isText_244 rfl ?_
      refine g_imul hZ dL_isText_246 ?_
      refine g_ishr hZ dL_isText_247 (gi_shr4 (by omega) (by omega)) ?_
      refine g_iconst hZ dL_isText_248 ?_
      refine g_iand hZ dL_isText_249 (gi_and3 _) ?_
      rw [e]
      refine g_icmp_ne hZ 257 dL_isText_250 rfl (by omega) (fun cX => absurd rfl cX) (fun _ => ?_)
      refine g_iconst hZ dL_isText_253 ?_
      refine g_goto hZ 258 dL_isText_254 rfl ?_
      refine g_istore hZ dL_isText_258 (by decide) ?_
      refine g_iinc hZ dL_isText_260 rfl (by decide) ?_
      refine g_goto hZ 224 dL_isText_263 rfl ?_
      exact ih (f + 1) _ (by omega) rfl
  exact loop n 0 _ (by omega) rfl
set_option maxHeartbeats 4000000 in
theorem it_E (hZ : Cx Z E LAY mL_isText Rt) (hG : gad E 99 = 1) (a b c : Nat) (ha : a < n) (hb : b < n) (hI : Iv S w h n B hs kp (tA a b)) (next : ∀ (S₉ : gS) (gs : List hEn), Iv S₉ w h n B gs kp (tB a b n) → Z S₉ [(0, .ref (gad E 0)), (1, iV (n : Int)), (2, iV (c : Int)), (3, iV (a : Int)), (4, iV (b : Int)), (5, iV 1)] 357 []) : Z S [(0, .ref (gad E 0)), (1, iV (n : Int)), (2, iV (c : Int)), (3, iV (a : Int)), (4, iV (b : Int)), (5, iV 1), (6, iV (cod B n : Int))] 266 [] := by
  have hn := hI.g.2.2.2.2.2
  have hwh := hI.g.2.2.2.2.1
  have hlA : (tA a b).length ≤ 21 := by
    have l1 := cB_len a
    have l2 := cF_len b
    unfold tA
    simp only [List.length_append, cP_len]; omega
  refine g_iload hZ dL_isText_266 rfl ?_
  refine g_if_eq hZ 354 dL_isText_268 rfl (by omega) (fun cX => absurd cX (by omega)) (fun _ => ?_)
  refine g_aload_n hZ dL_isText_271 rfl ?_
  refine g_bipush hZ (z := 98) dL_isText_272 rfl ?_
  refine g_bipush hZ (z := 117) dL_isText_274 rfl ?_
  refine g_bipush hZ (z := 114) dL_isText_276 rfl ?_
  refine g_bipush hZ (z := 110) dL_isText_278 rfl ?_
  refine g_callS hZ (As := [iV ((98 : Nat) : Int), iV ((117 : Nat) : Int), iV ((114 : Nat) : Int), iV ((110 : Nat) : Int)]) (t_L_packed E S 98 117 114 110 (by omega) (by omega) (by omega) (by omega)) kL_61 ⟨by decide, by decide⟩ rfl rfl (Nat.le_of_ble_eq_true rfl) dL_isText_280 ?_
  rintro _ _ ⟨rfl, rfl⟩
  refine g_iconst hZ dL_isText_283 ?_
  refine g_callS hZ (t_word4 E _ hI 98 117 114 110 (by omega) (by omega) (by omega) (by omega) (by first | omega | (simp only [List.length_append, List.length_cons, List.length_nil]; omega))) kL_67 ⟨by decide, by decide⟩ rfl rfl (Nat.le_of_ble_eq_true rfl) dL_isText_284 ?_
  rintro _ W9₁ ⟨rfl, hW9⟩
  refine g_if_eq hZ 354 dL_isText_287 rfl (by omega) (fun cX => absurd cX (by omega)) (fun _ => ?_)
  have hn10 := nT_len n
  refine g_aload_n hZ dL_isText_290 rfl ?_
  refine g_iload_n hZ dL_isText_291 rfl ?_
  refine g_callS hZ (t_L_number E _ hW9 n (by omega) (by first | omega | (simp only [List.length_append, List.length_cons, List.length_nil]; omega))) kL_71 ⟨by decide, by decide⟩ rfl rfl (Nat.le_of_ble_eq_true rfl) dL_isText_292 ?_
  rintro _ W10₁ ⟨rfl, hW10⟩
  refine g_if_eq hZ 354 dL_isText_295 rfl (by omega) (fun cX => absurd cX (by omega)) (fun _ => ?_)
  refine g_aload_n hZ dL_isText_298 rfl ?_
  refine g_bipush hZ (z := 59) dL_isText_299 rfl ?_
  refine g_callV hZ (As := [iV ((59 : Nat) : Int)]) (q_type2 hW10 59 (by omega) (by first | omega | (simp only [List.length_append, List.length_cons, List.length_nil]; omega))) kL_53 ⟨by decide, by decide⟩ rfl rfl rfl rfl (Nat.le_of_ble_eq_true rfl) dL_isText_301 ?_
  rintro _ W11₁ ⟨z11, rfl, z11a, z11b, hW11⟩
  refine g_if_le hZ 354 dL_isText_304 rfl (by omega) (fun cX => absurd cX (by omega)) (fun _ => ?_)
  refine g_aload_n hZ dL_isText_307 rfl ?_
  refine g_bipush hZ (z := 112) dL_isText_308 rfl ?_
  refine g_bipush hZ (z := 97) dL_isText_310 rfl ?_
  refine g_bipush hZ (z := 115) dL_isText_312 rfl ?_
  refine g_bipush hZ (z := 115) dL_isText_314 rfl ?_
  refine g_callS hZ (As := [iV ((112 : Nat) : Int), iV ((97 : Nat) : Int), iV ((115 : Nat) : Int), iV ((115 : Nat) : Int)]) (t_L_packed E W11₁ 112 97 115 115 (by omega) (by omega) (by omega) (by omega)) kL_61 ⟨by decide, by decide⟩ rfl rfl (Nat.le_of_ble_eq_true rfl) dL_isText_316 ?_
  rintro _ _ ⟨rfl, rfl⟩
  refine g_iconst hZ dL_isText_319 ?_
  refine g_callS hZ (t_word4 E _ hW11 112 97 115 115 (by omega) (by omega) (by omega) (by omega) (by first | omega | (simp only [List.length_append, List.length_cons, List.length_nil]; omega))) kL_67 ⟨by decide, by decide⟩ rfl rfl (Nat.le_of_ble_eq_true rfl) dL_isText_320 ?_
  rintro _ W12₁ ⟨rfl, hW12⟩
  refine g_if_eq hZ 354 dL_isText_323 rfl (by omega) (fun cX => absurd cX (by omega)) (fun _ => ?_)
  refine g_aload_n hZ dL_isText_326 rfl ?_
  refine g_bipush hZ (z := 59) dL_isText_327 rfl ?_
  refine g_callV hZ (As := [iV ((59 : Nat) : Int)]) (q_type2 hW12 59 (by omega) (by first | omega | (simp only [List.length_append, List.length_cons, List.length_nil]; omega))) kL_53 ⟨by decide, by decide⟩ rfl rfl rfl rfl (Nat.le_of_ble_eq_true rfl) dL_isText_329 ?_
  rintro _ W13₁ ⟨z13, rfl, z13a, z13b, hW13⟩
  refine g_if_le hZ 354 dL_isText_332 rfl (by omega) (fun cX => absurd cX (by omega)) (fun _ => ?_)
  rw [show tA a b ++ [98, 117, 114, 110] ++ nT n ++ [59] ++ [112, 97, 115, 115] ++ [59] = tB a b n by unfold tA tB cB cP cF; simp] at hW13
  refine g_aload_n hZ dL_isText_335 rfl ?_
  refine g_callV hZ (q_run hG hW13 (tB_flt a b n (by omega) (by omega) (by omega)) 3 _ (tB_rn w hW13.2.2.1 hn ha hb)) kL_81 ⟨by decide, by decide⟩ rfl rfl rfl rfl (Nat.le_of_ble_eq_true rfl) dL_isText_336 ?_
  rintro _ S₃ ⟨rfl, hI₃⟩
  refine g_iconst hZ dL_isText_339 ?_
  refine g_icmp_ne hZ 354 dL_isText_340 rfl (by omega) (fun cX => absurd rfl cX) (fun _ => ?_)
  refine g_aload_n hZ dL_isText_343 rfl ?_
  refine g_callV hZ (q_undo1 hI₃ rfl hwh) kL_41 ⟨by decide, by decide⟩ rfl rfl rfl rfl (Nat.le_of_ble_eq_true rfl) dL_isText_344 ?_
  rintro _ S₄ ⟨rfl, hl8, hI₄⟩
  refine g_if_lt hZ 354 dL_isText_347 rfl (by omega) (fun cX => absurd cX (by omega)) (fun _ => ?_)
  refine g_iconst hZ dL_isText_350 ?_
  refine g_goto hZ 355 dL_isText_351 rfl ?_
  refine g_istore hZ dL_isText_355 (by decide) ?_
  refine g_keep hZ [0, 1, 2, 3, 4, 5] (L' := [(0, .ref (gad E 0)), (1, iV (n : Int)), (2, iV (c : Int)), (3, iV (a : Int)), (4, iV (b : Int)), (5, iV 1)]) rfl ?_
  exact next S₄ _ hI₄
theorem it_F (hZ : Cx Z E LAY mL_isText Rt) (hG : gad E 99 = 1) (a b c : Nat) (ha : a < n) (hb : b < n) (hI : Iv S w h n B hs kp (tB a b n)) (next : ∀ (S₉ : gS) (gs : List hEn), Iv S₉ w h n B gs kp [] → Z S₉ [(0, .ref (gad E 0)), (1, iV (n : Int)), (2, iV (c : Int)), (3, iV (a : Int)), (4, iV (b : Int)), (5, iV 1)] 423 []) : Z S [(0, .ref (gad E 0)), (1, iV (n : Int)), (2, iV (c : Int)), (3, iV (a : Int)), (4, iV (b : Int)), (5, iV 1)] 357 [] := by
  have hn := hI.g.2.2.2.2.2
  have hwh := hI.g.2.2.2.2.1
  have hlB : (tB a b n).length ≤ 34 := by
    have l1 := cB_len a
    have l2 := cF_len b
    have l3 := cB_len n
    rw [tB_len]; omega
  have hfx := tB_fx a b n (by omega) (by omega) (by omega)
  refine g_aload_n hZ dL_isText_357 rfl ?_
  refine g_bipush hZ (z := 120) dL_isText_358 rfl ?_
  refine g_callV hZ (As := [iV ((120 : Nat) : Int)]) (q_type hI 120 (by omega) (by omega)) kL_53 ⟨by decide, by decide⟩ rfl rfl rfl rfl (Nat.le_of_ble_eq_true rfl) dL_isText_360 ?_
  rintro _ S₁ ⟨rfl, hI₁⟩
  refine g_iconst hZ dL_isText_363 ?_
  refine g_isub hZ dL_isText_364 ?_
  rw [show (((tB a b n).length + 1 : Nat) : Int) - 1 = ((tB a b n).length : Int) by omega]
  refine g_istore hZ dL_isText_365 (by decide) ?_
  refine g_iload hZ dL_isText_367 rfl ?_
  refine g_if_eq hZ 420 dL_isText_369 rfl (by omega) (fun cX => absurd cX (by omega)) (fun _ => ?_)
  refine g_aload_n hZ dL_isText_372 rfl ?_
  refine g_callV hZ (q_fault hG hI₁ _ hfx) kL_75 ⟨by decide, by decide⟩ rfl rfl rfl rfl (Nat.le_of_ble_eq_true rfl) dL_isText_373 ?_
  rintro _ S₂ ⟨rfl, hI₂⟩
  refine g_iload hZ dL_isText_376 rfl ?_
  refine g_icmp_ne hZ 420 dL_isText_378 rfl (by omega) (fun cX => absurd rfl cX) (fun _ => ?_)
  refine g_aload_n hZ dL_isText_381 rfl ?_
  refine g_callV hZ (q_runBad hG hI₂ (by rw [hfx]; omega)) kL_81 ⟨by decide, by decide⟩ rfl rfl rfl rfl (Nat.le_of_ble_eq_true rfl) dL_isText_382 ?_
  rintro _ S₃ ⟨rfl, hI₃⟩
  refine g_sipush hZ (z := (-1002)) dL_isText_385 rfl ?_
  refine g_icmp_ne hZ 420 dL_isText_388 rfl (by omega) (fun cX => absurd rfl cX) (fun _ => ?_)
  refine g_aload_n hZ dL_isText_391 rfl ?_
  refine g_callV hZ (q_clearText hI₃) kL_58 ⟨by decide, by decide⟩ rfl rfl rfl rfl (Nat.le_of_ble_eq_true rfl) dL_isText_392 ?_
  rintro _ S₄ ⟨rfl, hl60, hI₄⟩
  rw [List.length_append, show [120].length = 1 from rfl]
  refine g_iload hZ dL_isText_395 rfl ?_
  refine g_iconst hZ dL_isText_397 ?_
  refine g_iadd hZ dL_isText_398 ?_
  refine g_icmp_ne hZ 420 dL_isText_399 rfl (by omega) (fun cX => absurd (by omega) cX) (fun _ => ?_)
  refine g_aload_n hZ dL_isText_402 rfl ?_
  refine g_callV hZ (q_run hG hI₄ nil_flt 0 B (nil_rn w n B)) kL_81 ⟨by decide, by decide⟩ rfl rfl rfl rfl (Nat.le_of_ble_eq_true rfl) dL_isText_403 ?_
  rintro _ S₅ ⟨rfl, hI₅⟩
  refine g_if_ne hZ 420 dL_isText_406 rfl (by omega) (fun cX => absurd rfl cX) (fun _ => ?_)
  refine g_aload_n hZ dL_isText_409 rfl ?_
  refine g_callV hZ (q_undo1 hI₅ rfl hwh) kL_41 ⟨by decide, by decide⟩ rfl rfl rfl rfl (Nat.le_of_ble_eq_true rfl) dL_isText_410 ?_
  rintro _ S₆ ⟨rfl, hl8, hI₆⟩
  refine g_if_lt hZ 420 dL_isText_413 rfl (by omega) (fun cX => absurd cX (by omega)) (fun _ => ?_)
  refine g_iconst hZ dL_isText_416 ?_
  refine g_goto hZ 421 dL_isText_417 rfl ?_
  refine g_istore hZ dL_isText_421 (by decide) ?_
  refine g_keep hZ [0, 1, 2, 3, 4, 5] (L' := [(0, .ref (gad E 0)), (1, iV (n : Int)), (2, iV (c : Int)), (3, iV (a : Int)), (4, iV (b : Int)), (5, iV 1)]) rfl ?_
  exact next S₆ _ hI₆
theorem it_H (hZ : Cx Z E LAY mL_isText Rt) (hG : gad E 99 = 1) (q0 : Nat × Nat × Nat) (hmem : q0 ∈ mvs w n B 1) (hI : Iv S w h n B hs kp (cM q0.1 q0.2.1 q0.2.2)) (next : ∀ (S₉ : gS) (gs : List hEn), Iv S₉ w h n B gs kp (cM q0.1 q0.2.1 q0.2.2) → Z S₉ [(5, iV 1)] 607 []) : Z S [(0, .ref (gad E 0)), (5, iV 1), (9, iV (q0.1 : Int)), (10, iV (q0.2.1 : Int)), (11, iV (q0.2.2 : Int))] 541 [] := by
  have hg := hI.g
  have hn := hI.g.2.2.2.2.2
  have hwh := hI.g.2.2.2.2.1
  obtain ⟨m1, m2, m3, m4, m5, m6, m7, -⟩ := mvs_facts hg (show (1 : Int) ≠ 0 by omega) hmem
  have hno : (q0.1, q0.2.1, q0.2.2) ∉ mvs w n (aftB B q0 1) 1 := fun z => by
    obtain ⟨-, -, -, z4, -⟩ := mvs_facts hg (show (1 : Int) ≠ 0 by omega) z
    have z4 : aftB B q0 1 q0.1 = 1 := z4
    unfold aftB at z4
    by_cases y : q0.1 = q0.2.2
    · rw [if_pos y] at z4; omega
    · rw [if_neg y, if_neg m6, if_pos rfl] at z4; omega
  have r1 := cM_rn w (n := n) (B := B) (show q0.1 < 15 by omega) (show q0.2.1 < 15 by omega) (show q0.2.2 < 15 by omega) ⟨m1, m2, m3⟩
  rw [if_pos (show (q0.1, q0.2.1, q0.2.2) ∈ mvs w n B 1 from hmem)] at r1
  have r2 := cM_rn w (n := n) (B := aftB B q0 1) (show q0.1 < 15 by omega) (show q0.2.1 < 15 by omega) (show q0.2.2 < 15 by omega) ⟨m1, m2, m3⟩
  rw [if_neg hno] at r2
  have hf := cM_flt q0.1 q0.2.1 q0.2.2 (by omega) (by omega) (by omega)
  refine g_aload_n hZ dL_isText_541 rfl ?_
  refine g_callV hZ (q_run hG hI hf 1 (aftB B q0 1) r1) kL_81 ⟨by decide, by decide⟩ rfl rfl rfl rfl (Nat.le_of_ble_eq_true rfl) dL_isText_542 ?_
  rintro _ S₁ ⟨rfl, hI₁⟩
  refine g_iconst hZ dL_isText_545 ?_
  refine g_icmp_ne hZ 604 dL_isText_546 rfl (by omega) (fun cX => absurd rfl cX) (fun _ => ?_)
  refine g_aload_n hZ dL_isText_549 rfl ?_
  refine g_iload hZ dL_isText_550 rfl ?_
  refine g_callV hZ (q_field hI₁ q0.2.2 m3) kL_78 ⟨by decide, by decide⟩ rfl rfl rfl rfl (Nat.le_of_ble_eq_true rfl) dL_isText_552 ?_
  rintro _ _ ⟨rfl, rfl⟩
  rw [show aftB B q0 1 q0.2.2 = 3 by unfold aftB; rw [if_pos rfl]]
  refine g_iconst hZ dL_isText_555 ?_
  refine g_icmp_ne hZ 604 dL_isText_556 rfl (by omega) (fun cX => absurd rfl cX) (fun _ => ?_)
  refine g_aload_n hZ dL_isText_559 rfl ?_
  refine g_iload hZ dL_isText_560 rfl ?_
  refine g_callV hZ (q_field hI₁ q0.2.1 m2) kL_78 ⟨by decide, by decide⟩ rfl rfl rfl rfl (Nat.le_of_ble_eq_true rfl) dL_isText_562 ?_
  rintro _ _ ⟨rfl, rfl⟩
  rw [show aftB B q0 1 q0.2.1 = 1 by unfold aftB; rw [if_neg m7, if_pos rfl]]
  refine g_iconst hZ dL_isText_565 ?_
  refine g_icmp_ne hZ 604 dL_isText_566 rfl (by omega) (fun cX => absurd rfl cX) (fun _ => ?_)
  refine g_aload_n hZ dL_isText_569 rfl ?_
  refine g_callV hZ (q_run hG hI₁ hf 0 (aftB B q0 1) r2) kL_81 ⟨by decide, by decide⟩ rfl rfl rfl rfl (Nat.le_of_ble_eq_true rfl) dL_isText_570 ?_
  rintro _ S₂ ⟨rfl, hI₂⟩
  refine g_if_ne hZ 604 dL_isText_573 rfl (by omega) (fun cX => absurd rfl cX) (fun _ => ?_)
  refine g_aload_n hZ dL_isText_576 rfl ?_
  refine g_callV hZ (q_undo1 hI₂ rfl hwh) kL_41 ⟨by decide, by decide⟩ rfl rfl rfl rfl (Nat.le_of_ble_eq_true rfl) dL_isText_577 ?_
  rintro _ S₃ ⟨rfl, hl8, hI₃⟩
  refine g_if_lt hZ 604 dL_isText_580 rfl (by omega) (fun cX => absurd cX (by omega)) (fun _ => ?_)
  obtain ⟨P, hP⟩ := hp_two hs (w, h, B)
  refine g_aload_n hZ dL_isText_583 rfl ?_
  refine g_callV hZ (q_undo1 hI₃ hP hwh) kL_41 ⟨by decide, by decide⟩ rfl rfl rfl rfl (Nat.le_of_ble_eq_true rfl) dL_isText_584 ?_
  rintro _ S₄ ⟨rfl, hl9, hI₄⟩
  refine g_if_lt hZ 604 dL_isText_587 rfl (by omega) (fun cX => absurd cX (by omega)) (fun _ => ?_)
  refine g_aload_n hZ dL_isText_590 rfl ?_
  refine g_iload hZ dL_isText_591 rfl ?_
  refine g_callV hZ (q_field hI₄ q0.1 m1) kL_78 ⟨by decide, by decide⟩ rfl rfl rfl rfl (Nat.le_of_ble_eq_true rfl) dL_isText_593 ?_
  rintro _ _ ⟨rfl, rfl⟩
  rw [m4]
  refine g_iconst hZ dL_isText_596 ?_
  refine g_icmp_ne hZ 604 dL_isText_597 rfl (by omega) (fun cX => absurd rfl cX) (fun _ => ?_)
  refine g_iconst hZ dL_isText_600 ?_
  refine g_goto hZ 605 dL_isText_601 rfl ?_
  refine g_istore hZ dL_isText_605 (by decide) ?_
  refine g_keep hZ [5] (L' := [(5, iV 1)]) rfl ?_
  exact next S₄ P hI₄
set_option maxHeartbeats 4000000 in
theorem it_G (hZ : Cx Z E LAY mL_isText Rt) (hG : gad E 99 = 1) (a b c : Nat) (hc : c < 2147483648) (hI : Iv S w h n B hs kp []) (next : ∀ (S₉ : gS) (gs : List hEn) (ty : List Nat), Iv S₉ w h n B gs kp ty → Z S₉ [(5, iV 1)] 607 []) : Z S [(0, .ref (gad E 0)), (1, iV (n : Int)), (2, iV (c : Int)), (3, iV (a : Int)), (4, iV (b : Int)), (5, iV 1)] 423 [] := by
  have hg := hI.g
  have hn := hI.g.2.2.2.2.2
  have hl := mvs_bound (w := w) hn hI.2.2.2.1.1
  have hq : c / 2 ^ 8 ≤ c := Nat.div_le_self _ _
  refine g_aload_n hZ dL_isText_423 rfl ?_
  refine g_iconst hZ dL_isText_424 ?_
  refine g_callV hZ (q_moves hI 1 (Or.inl rfl)) kL_84 ⟨by decide, by decide⟩ rfl rfl rfl rfl (Nat.le_of_ble_eq_true rfl) dL_isText_425 ?_
  rintro _ S₁ ⟨rfl, hI₁⟩
  refine g_if_le hZ 607 dL_isText_428 rfl (by omega) (fun c1 => ?_) (fun c1 => ?_)
  · refine g_keep hZ [5] (L' := [(5, iV 1)]) rfl ?_
    exact next S₁ _ _ hI₁
  · refine g_iload_n hZ dL_isText_431 rfl ?_
    refine g_bipush hZ (z := 8) dL_isText_432 rfl ?_
    refine g_ishr hZ dL_isText_434 (gi_shr (k := 8) (by omega) (by omega)) ?_
    refine g_aload_n hZ dL_isText_435 rfl ?_
    refine g_iconst hZ dL_isText_436 ?_
    refine g_callV hZ (q_moves hI₁ 1 (Or.inl rfl)) kL_84 ⟨by decide, by decide⟩ rfl rfl rfl rfl (Nat.le_of_ble_eq_true rfl) dL_isText_437 ?_
    rintro _ S₂ ⟨rfl, hI₂⟩
    refine g_irem hZ dL_isText_440 (by omega) (by omega) (by omega) ?_
    have him := Nat.mod_lt (c / 2 ^ 8) (show 0 < (mvs w n B 1).length by omega)
    generalize c / 2 ^ 8 % (mvs w n B 1).length = i0 at him ⊢
    obtain ⟨q0, hq0⟩ : ∃ q0, (mvs w n B 1)[i0]? = some q0 := ⟨_, List.getElem?_eq_getElem him⟩
    have hmem := List.mem_of_getElem? hq0
    obtain ⟨m1, m2, m3, m4, m5, m6, m7, -⟩ := mvs_facts hg (show (1 : Int) ≠ 0 by omega) hmem
    refine g_istore hZ dL_isText_441 (by decide) ?_
    refine g_keep hZ [0, 5, 8] (L' := [(0, .ref (gad E 0)), (5, iV 1), (8, iV (i0 : Int))]) rfl ?_
    refine g_aload_n hZ dL_isText_443 rfl ?_
    refine g_iconst hZ dL_isText_444 ?_
    refine g_iload hZ dL_isText_445 rfl ?_
    refine g_iconst hZ dL_isText_447 ?_
    refine g_callV hZ (q_moveAt hI₂ 1 (Or.inl rfl) i0 q0 hq0 0 (by omega)) kL_87 ⟨by decide, by decide⟩ rfl rfl rfl rfl (Nat.le_of_ble_eq_true rfl) dL_isText_448 ?_
    rintro _ S₃ ⟨rfl, hI₃⟩
    rw [mpart_0]
    refine g_istore hZ dL_isText_451 (by decide) ?_
    refine g_aload_n hZ dL_isText_453 rfl ?_
    refine g_iconst hZ dL_isText_454 ?_
    refine g_iload hZ dL_isText_455 rfl ?_
    refine g_iconst hZ dL_isText_457 ?_
    refine g_callV hZ (q_moveAt hI₃ 1 (Or.inl rfl) i0 q0 hq0 1 (by omega)) kL_87 ⟨by decide, by decide⟩ rfl rfl rfl rfl (Nat.le_of_ble_eq_true rfl) dL_isText_458 ?_
    rintro _ S₄ ⟨rfl, hI₄⟩
    rw [mpart_1]
    refine g_istore hZ dL_isText_461 (by decide) ?_
    refine g_aload_n hZ dL_isText_463 rfl ?_
    refine g_iconst hZ dL_isText_464 ?_
    refine g_iload hZ dL_isText_465 rfl ?_
    refine g_iconst hZ dL_isText_467 ?_
    refine g_callV hZ (q_moveAt hI₄ 1 (Or.inl rfl) i0 q0 hq0 2 (by omega)) kL_87 ⟨by decide, by decide⟩ rfl rfl rfl rfl (Nat.le_of_ble_eq_true rfl) dL_isText_468 ?_
    rintro _ S₅ ⟨rfl, hI₅⟩
    rw [mpart_2]
    refine g_istore hZ dL_isText_471 (by decide) ?_
    refine g_iload hZ dL_isText_473 rfl ?_
    refine g_if_eq hZ 604 dL_isText_475 rfl (by omega) (fun cX => absurd cX (by omega)) (fun _ => ?_)
    refine g_keep hZ [0, 5, 9, 10, 11] (L' := [(0, .ref (gad E 0)), (5, iV 1), (9, iV (q0.1 : Int)), (10, iV (q0.2.1 : Int)), (11, iV (q0.2.2 : Int))]) rfl ?_
    refine g_aload_n hZ dL_isText_478 rfl ?_
    refine g_bipush hZ (z := 109) dL_isText_479 rfl ?_
    refine g_bipush hZ (z := 111) dL_isText_481 rfl ?_
    refine g_bipush hZ (z := 118) dL_isText_483 rfl ?_
    refine g_bipush hZ (z := 101) dL_isText_485 rfl ?_
    refine g_callS hZ (As := [iV ((109 : Nat) : Int), iV ((111 : Nat) : Int), iV ((118 : Nat) : Int), iV ((101 : Nat) : Int)]) (t_L_packed E S₅ 109 111 118 101 (by omega) (by omega) (by omega) (by omega)) kL_61 ⟨by decide, by decide⟩ rfl rfl (Nat.le_of_ble_eq_true rfl) dL_isText_487 ?_
    rintro _ _ ⟨rfl, rfl⟩
    refine g_iconst hZ dL_isText_490 ?_
    refine g_callS hZ (t_word4 E _ hI₅ 109 111 118 101 (by omega) (by omega) (by omega) (by omega) (by first | omega | (simp only [List.length_append, List.length_cons, List.length_nil]; omega))) kL_67 ⟨by decide, by decide⟩ rfl rfl (Nat.le_of_ble_eq_true rfl) dL_isText_491 ?_
    rintro _ W14₁ ⟨rfl, hW14⟩
    refine g_if_eq hZ 604 dL_isText_494 rfl (by omega) (fun cX => absurd cX (by omega)) (fun _ => ?_)
    have hn15 := nT_len 1
    refine g_aload_n hZ dL_isText_497 rfl ?_
    refine g_iconst hZ dL_isText_498 ?_
    refine g_callS hZ (As := [.ref (gad E 0), iV ((1 : Nat) : Int)]) (t_L_number E _ hW14 1 (by omega) (by first | omega | (simp only [List.length_append, List.length_cons, List.length_nil]; omega))) kL_71 ⟨by decide, by decide⟩ rfl rfl (Nat.le_of_ble_eq_true rfl) dL_isText_499 ?_
    rintro _ W15₁ ⟨rfl, hW15⟩
    refine g_if_eq hZ 604 dL_isText_502 rfl (by omega) (fun cX => absurd cX (by omega)) (fun _ => ?_)
    have hn16 := nT_len q0.1
    refine g_aload_n hZ dL_isText_505 rfl ?_
    refine g_iload hZ dL_isText_506 rfl ?_
    refine g_callS hZ (t_L_number E _ hW15 q0.1 (by omega) (by first | omega | (simp only [List.length_append, List.length_cons, List.length_nil]; omega))) kL_71 ⟨by decide, by decide⟩ rfl rfl (Nat.le_of_ble_eq_true rfl) dL_isText_508 ?_
    rintro _ W16₁ ⟨rfl, hW16⟩
    refine g_if_eq hZ 604 dL_isText_511 rfl (by omega) (fun cX => absurd cX (by omega)) (fun _ => ?_)
    have hn17 := nT_len q0.2.1
    refine g_aload_n hZ dL_isText_514 rfl ?_
    refine g_iload hZ dL_isText_515 rfl ?_
    refine g_callS hZ (t_L_number E _ hW16 q0.2.1 (by omega) (by first | omega | (simp only [List.length_append, List.length_cons, List.length_nil]; omega))) kL_71 ⟨by decide, by decide⟩ rfl rfl (Nat.le_of_ble_eq_true rfl) dL_isText_517 ?_
    rintro _ W17₁ ⟨rfl, hW17⟩
    refine g_if_eq hZ 604 dL_isText_520 rfl (by omega) (fun cX => absurd cX (by omega)) (fun _ => ?_)
    have hn18 := nT_len q0.2.2
    refine g_aload_n hZ dL_isText_523 rfl ?_
    refine g_iload hZ dL_isText_524 rfl ?_
    refine g_callS hZ (t_L_number E _ hW17 q0.2.2 (by omega) (by first | omega | (simp only [List.length_append, List.length_cons, List.length_nil]; omega))) kL_71 ⟨by decide, by decide⟩ rfl rfl (Nat.le_of_ble_eq_true rfl) dL_isText_526 ?_
    rintro _ W18₁ ⟨rfl, hW18⟩
    refine g_if_eq hZ 604 dL_isText_529 rfl (by omega) (fun cX => absurd cX (by omega)) (fun _ => ?_)
    refine g_aload_n hZ dL_isText_532 rfl ?_
    refine g_bipush hZ (z := 59) dL_isText_533 rfl ?_
    refine g_callV hZ (As := [iV ((59 : Nat) : Int)]) (q_type2 hW18 59 (by omega) (by first | omega | (simp only [List.length_append, List.length_cons, List.length_nil]; omega))) kL_53 ⟨by decide, by decide⟩ rfl rfl rfl rfl (Nat.le_of_ble_eq_true rfl) dL_isText_535 ?_
    rintro _ W19₁ ⟨z19, rfl, z19a, z19b, hW19⟩
    refine g_if_le hZ 604 dL_isText_538 rfl (by omega) (fun cX => absurd cX (by omega)) (fun _ => ?_)
    rw [show [] ++ [109, 111, 118, 101] ++ nT 1 ++ nT q0.1 ++ nT q0.2.1 ++ nT q0.2.2 ++ [59] = cM q0.1 q0.2.1 q0.2.2 by unfold cM; simp] at hW19
    exact it_H hZ hG q0 hmem hW19 (fun S₉ gs h₉ => next S₉ gs _ h₉)
end TEXTS
theorem t_L_isText (E : gE) (hG : gad E 99 = 1) (S : gS) {w h n : Nat} {B : Nat → Int} {hs : List hEn} {kp : List (Nat × Nat)} {tx : List Nat} (hI : Iv S w h n B hs kp tx) (c : Nat) (hc : c < 2147483648) : Ct E LAY mL_isText [.ref (gad E 0), iV (n : Int), iV (c : Int)] S (fun r S' => r = some (iV 1) ∧ ∃ (hs2 : List hEn) (tx2 : List Nat), Iv S' w h n B hs2 kp tx2) := by
  have hp := hI.g.pos
  have ha : c % n < n := Nat.mod_lt _ hp
  have hb : c / 2 ^ 4 % n < n := Nat.mod_lt _ hp
  refine Ct.intro LAY_ok (by decide +kernel) (Nat.le_of_ble_eq_true rfl) rfl ?_
  intro Z hZ
  refine it_A hZ hG hI (c % n) (c / 2 ^ 4 % n) c hc rfl rfl (fun S₁ hI₁ => ?_)
  refine it_B hZ hI₁ _ _ c ?_
  refine it_C hZ hG _ _ c ha hb hI₁ (fun S₂ g₂ hI₂ => ?_)
  refine it_D hZ _ _ c hI₂ ?_
  refine it_E hZ hG _ _ c ha hb hI₂ (fun S₃ g₃ hI₃ => ?_)
  refine it_F hZ hG _ _ c ha hb hI₃ (fun S₄ g₄ hI₄ => ?_)
  refine it_G hZ hG _ _ c hc hI₄ (fun S₅ g₅ ty hI₅ => ?_)
  refine g_iload hZ dL_isText_607 rfl ?_
  refine g_zret hZ dL_isText_609 rfl (Or.inr rfl) ⟨rfl, _, _, hI₅⟩
