/-! the law's own methods: isParted -/
set_option maxHeartbeats 4000000 in
theorem t_L_isParted (E : gE) (S : gS) {w h n : Nat} {B : Nat → Int} {hs : List hEn} {kp : List (Nat × Nat)} {tx : List Nat} (hI : Iv S w h n B hs kp tx) (c : Nat) (hc : c < 2147483648) : Ct E LAY mL_isParted [.ref (gad E 0), iV (c : Int)] S (fun r S' => r = some (iV 1) ∧ ∃ (B2 : Nat → Int) (hs2 : List hEn) (kp2 : List (Nat × Nat)), Iv S' 5 1 5 B2 hs2 kp2 tx) := by
  refine Ct.intro LAY_ok (by decide +kernel) (Nat.le_of_ble_eq_true rfl) rfl ?_
  intro Z hZ
  obtain ⟨a, ea⟩ : ∃ a, a = c % 2 := ⟨_, rfl⟩
  obtain ⟨b, eb⟩ : ∃ b, b = 3 + c / 2 ^ 1 % 2 := ⟨_, rfl⟩
  obtain ⟨⟨p1, p2, p3, p4, p5⟩, ⟨p6, p7, p8, p9, p10⟩, ⟨p11, p12, p13, p14, p15, p16, p17⟩, ⟨p18, p19, p20, p21, p22⟩⟩ := pf_ok a b (by omega) (by omega)
  refine g_aload_n hZ dL_isParted_0 rfl ?_
  refine g_iconst hZ dL_isParted_1 ?_
  refine g_iconst hZ dL_isParted_2 ?_
  refine g_callV hZ (As := [iV ((5 : Nat) : Int), iV ((1 : Nat) : Int)]) (q_reset hI 5 1 (by omega) (by omega) (by omega)) kL_9 ⟨by decide, by decide⟩ rfl rfl rfl rfl (Nat.le_of_ble_eq_true rfl) dL_isParted_3 ?_
  rintro _ S₁ ⟨z, rfl, hz, rz, hI₁⟩
  have hI₁ : Iv S₁ 5 1 5 Z0 (hpush hs (w, h, B)) [] tx := hI₁
  refine g_if_le hZ 89 dL_isParted_6 rfl (by omega) (fun cX => absurd cX (by omega)) (fun _ => ?_)
  refine g_aload_n hZ dL_isParted_9 rfl ?_
  refine g_iconst hZ dL_isParted_10 ?_
  refine g_iconst hZ dL_isParted_11 ?_
  refine g_callV hZ (As := [iV ((2 : Nat) : Int), iV 3]) (q_setField hI₁ 2 3 (by omega) (by omega) (fun q => by omega)) kL_19 ⟨by decide, by decide⟩ rfl rfl rfl rfl (Nat.le_of_ble_eq_true rfl) dL_isParted_12 ?_
  rintro _ S₂ ⟨rfl, hI₂⟩
  rw [show Z0 2 = 0 from rfl]
  refine g_if_ne hZ 89 dL_isParted_15 rfl (by omega) (fun cX => absurd rfl cX) (fun _ => ?_)
  refine g_aload_n hZ dL_isParted_18 rfl ?_
  refine g_iload_n hZ dL_isParted_19 rfl ?_
  refine g_iconst hZ dL_isParted_20 ?_
  refine g_irem hZ (b := 2) dL_isParted_21 (by omega) (by omega) (by omega) ?_
  rw [← ea]
  refine g_iconst hZ dL_isParted_22 ?_
  refine g_callV hZ (q_setField hI₂ a 1 (by omega) (by omega) (fun _ => Or.inr p1)) kL_19 ⟨by decide, by decide⟩ rfl rfl rfl rfl (Nat.le_of_ble_eq_true rfl) dL_isParted_23 ?_
  rintro _ S₃ ⟨rfl, hI₃⟩
  rw [p2]
  refine g_if_ne hZ 89 dL_isParted_26 rfl (by omega) (fun cX => absurd rfl cX) (fun _ => ?_)
  refine g_aload_n hZ dL_isParted_29 rfl ?_
  refine g_iconst hZ dL_isParted_30 ?_
  refine g_iload_n hZ dL_isParted_31 rfl ?_
  refine g_iconst hZ dL_isParted_32 ?_
  refine g_ishr hZ dL_isParted_33 (gi_shr (k := 1) (by omega) (by omega)) ?_
  have hq : c / 2 ^ 1 ≤ c := Nat.div_le_self _ _
  refine g_iconst hZ dL_isParted_34 ?_
  refine g_irem hZ (b := 2) dL_isParted_35 (by omega) (by omega) (by omega) ?_
  refine g_iadd hZ dL_isParted_36 ?_
  rw [show (3 : Int) + ((c / 2 ^ 1 % 2 : Nat) : Int) = (b : Int) by omega]
  refine g_iconst hZ dL_isParted_37 ?_
  refine g_callV hZ (q_setField hI₃ b 2 (by omega) (by omega) (fun _ => Or.inr p3)) kL_19 ⟨by decide, by decide⟩ rfl rfl rfl rfl (Nat.le_of_ble_eq_true rfl) dL_isParted_38 ?_
  rintro _ S₄ ⟨rfl, hI₄⟩
  rw [p4]
  have hI₄ : Iv S₄ 5 1 5 (pT a b) _ [] tx := hI₄
  refine g_if_ne hZ 89 dL_isParted_41 rfl (by omega) (fun cX => absurd rfl cX) (fun _ => ?_)
  refine g_aload_n hZ dL_isParted_44 rfl ?_
  refine g_callV hZ (q_regions hI₄) kL_22 ⟨by decide, by decide⟩ rfl rfl rfl rfl (Nat.le_of_ble_eq_true rfl) dL_isParted_45 ?_
  rintro _ S₅ ⟨rfl, hI₅⟩
  rw [p6]
  refine g_iconst hZ dL_isParted_48 ?_
  refine g_icmp_ne hZ 89 dL_isParted_49 rfl (by omega) (fun cX => absurd rfl cX) (fun _ => ?_)
  refine g_aload_n hZ dL_isParted_52 rfl ?_
  refine g_iconst hZ dL_isParted_53 ?_
  refine g_callV hZ (q_value hI₅ 0 (by omega)) kL_26 ⟨by decide, by decide⟩ rfl rfl rfl rfl (Nat.le_of_ble_eq_true rfl) dL_isParted_54 ?_
  rintro _ S₆ ⟨rfl, hI₆⟩
  rw [p7]
  have hI₆ : Iv S₆ 5 1 5 (pT a b) _ (k1 (rg 5 5 (pT a b)) (pT a b)) tx := hI₆
  refine g_iconst hZ dL_isParted_57 ?_
  refine g_icmp_ne hZ 89 dL_isParted_58 rfl (by omega) (fun cX => absurd rfl cX) (fun _ => ?_)
  refine g_aload_n hZ dL_isParted_61 rfl ?_
  refine g_iconst hZ dL_isParted_62 ?_
  refine g_callV hZ (q_value hI₆ 1 (by omega)) kL_26 ⟨by decide, by decide⟩ rfl rfl rfl rfl (Nat.le_of_ble_eq_true rfl) dL_isParted_63 ?_
  rintro _ S₇ ⟨rfl, hI₇⟩
  rw [p8]
  have hI₇ : Iv S₇ 5 1 5 (pT a b) _ (k2 (rg 5 5 (pT a b)) (pT a b)) tx := hI₇
  refine g_iconst hZ dL_isParted_66 ?_
  refine g_icmp_ne hZ 89 dL_isParted_67 rfl (by omega) (fun cX => absurd rfl cX) (fun _ => ?_)
  refine g_aload_n hZ dL_isParted_70 rfl ?_
  refine g_callV hZ (q_lead hI₇) kL_29 ⟨by decide, by decide⟩ rfl rfl rfl rfl (Nat.le_of_ble_eq_true rfl) dL_isParted_71 ?_
  rintro _ S₈ ⟨rfl, hI₈⟩
  rw [p9]
  have hI₈ : Iv S₈ 5 1 5 (pT a b) _ (k3 (rg 5 5 (pT a b)) (pT a b)) tx := hI₈
  refine g_if_ne hZ 89 dL_isParted_74 rfl (by omega) (fun cX => absurd rfl cX) (fun _ => ?_)
  refine g_aload_n hZ dL_isParted_77 rfl ?_
  refine g_callV hZ (q_outcome hI₈) kL_32 ⟨by decide, by decide⟩ rfl rfl rfl rfl (Nat.le_of_ble_eq_true rfl) dL_isParted_78 ?_
  rintro _ S₉ ⟨rfl, hI₉⟩
  rw [p10]
  refine g_iconst hZ dL_isParted_81 ?_
  refine g_icmp_ne hZ 89 dL_isParted_82 rfl (by omega) (fun cX => absurd rfl cX) (fun _ => ?_)
  refine g_iconst hZ dL_isParted_85 ?_
  refine g_goto hZ 90 dL_isParted_86 rfl ?_
  refine g_istore_n hZ dL_isParted_90 (by decide) ?_
  refine g_iload_n hZ dL_isParted_91 rfl ?_
  refine g_if_eq hZ 161 dL_isParted_92 rfl (by omega) (fun cX => absurd cX (by omega)) (fun _ => ?_)
  refine g_aload_n hZ dL_isParted_95 rfl ?_
  refine g_iconst hZ dL_isParted_96 ?_
  refine g_iload_n hZ dL_isParted_97 rfl ?_
  refine g_iconst hZ dL_isParted_98 ?_
  refine g_irem hZ (b := 2) dL_isParted_99 (by omega) (by omega) (by omega) ?_
  refine g_isub hZ dL_isParted_100 ?_
  rw [show (1 : Int) - ((c % 2 : Nat) : Int) = ((1 - a : Nat) : Int) by omega]
  refine g_iconst hZ dL_isParted_101 ?_
  refine g_callV hZ (q_setField hI₉ (1 - a) 3 (by omega) (by omega) (fun q => by omega)) kL_19 ⟨by decide, by decide⟩ rfl rfl rfl rfl (Nat.le_of_ble_eq_true rfl) dL_isParted_102 ?_
  rintro _ T₁ ⟨rfl, hJ₁⟩
  rw [p5]
  have hJ₁ : Iv T₁ 5 1 5 (pU a b) _ _ tx := hJ₁
  refine g_if_ne hZ 161 dL_isParted_105 rfl (by omega) (fun cX => absurd rfl cX) (fun _ => ?_)
  refine g_aload_n hZ dL_isParted_108 rfl ?_
  refine g_iconst hZ dL_isParted_109 ?_
  refine g_callV hZ (q_value hJ₁ 0 (by omega)) kL_26 ⟨by decide, by decide⟩ rfl rfl rfl rfl (Nat.le_of_ble_eq_true rfl) dL_isParted_110 ?_
  rintro _ T₂ ⟨rfl, hJ₂⟩
  rw [p11]
  refine g_if_ne hZ 161 dL_isParted_113 rfl (by omega) (fun cX => absurd rfl cX) (fun _ => ?_)
  refine g_aload_n hZ dL_isParted_116 rfl ?_
  refine g_callV hZ (q_lead hJ₂) kL_29 ⟨by decide, by decide⟩ rfl rfl rfl rfl (Nat.le_of_ble_eq_true rfl) dL_isParted_117 ?_
  rintro _ T₃ ⟨rfl, hJ₃⟩
  rw [p12]
  refine g_iconst hZ dL_isParted_120 ?_
  refine g_icmp_ne hZ 161 dL_isParted_121 rfl (by omega) (fun cX => absurd rfl cX) (fun _ => ?_)
  refine g_aload_n hZ dL_isParted_124 rfl ?_
  refine g_callV hZ (q_outcome hJ₃) kL_32 ⟨by decide, by decide⟩ rfl rfl rfl rfl (Nat.le_of_ble_eq_true rfl) dL_isParted_125 ?_
  rintro _ T₄ ⟨rfl, hJ₄⟩
  rw [p13]
  refine g_iconst hZ dL_isParted_128 ?_
  refine g_icmp_ne hZ 161 dL_isParted_129 rfl (by omega) (fun cX => absurd rfl cX) (fun _ => ?_)
  refine g_aload_n hZ dL_isParted_132 rfl ?_
  refine g_iconst hZ dL_isParted_133 ?_
  refine g_callV hZ (q_outcomeOf hJ₄ 0 (by omega)) kL_35 ⟨by decide, by decide⟩ rfl rfl rfl rfl (Nat.le_of_ble_eq_true rfl) dL_isParted_134 ?_
  rintro _ T₅ ⟨rfl, hJ₅⟩
  rw [p14]
  refine g_iconst hZ dL_isParted_137 ?_
  refine g_icmp_ne hZ 161 dL_isParted_138 rfl (by omega) (fun cX => absurd rfl cX) (fun _ => ?_)
  refine g_aload_n hZ dL_isParted_141 rfl ?_
  refine g_iconst hZ dL_isParted_142 ?_
  refine g_callV hZ (q_outcomeOf hJ₅ 1 (by omega)) kL_35 ⟨by decide, by decide⟩ rfl rfl rfl rfl (Nat.le_of_ble_eq_true rfl) dL_isParted_143 ?_
  rintro _ T₆ ⟨rfl, hJ₆⟩
  rw [p15]
  refine g_iconst hZ dL_isParted_146 ?_
  refine g_icmp_ne hZ 161 dL_isParted_147 rfl (by omega) (fun cX => absurd rfl cX) (fun _ => ?_)
  refine g_aload_n hZ dL_isParted_150 rfl ?_
  refine g_callV hZ (q_zugzwangs hJ₆) kL_38 ⟨by decide, by decide⟩ rfl rfl rfl rfl (Nat.le_of_ble_eq_true rfl) dL_isParted_151 ?_
  rintro _ T₇ ⟨rfl, hJ₇⟩
  refine g_if_lt hZ 161 dL_isParted_154 rfl (by omega) (fun cX => absurd cX (by omega)) (fun _ => ?_)
  refine g_iconst hZ dL_isParted_157 ?_
  refine g_goto hZ 162 dL_isParted_158 rfl ?_
  refine g_istore_n hZ dL_isParted_162 (by decide) ?_
  refine g_iload_n hZ dL_isParted_163 rfl ?_
  refine g_if_eq hZ 221 dL_isParted_164 rfl (by omega) (fun cX => absurd cX (by omega)) (fun _ => ?_)
  refine g_aload_n hZ dL_isParted_167 rfl ?_
  refine g_callV hZ (q_undo1 hJ₇ rfl rfl) kL_41 ⟨by decide, by decide⟩ rfl rfl rfl rfl (Nat.le_of_ble_eq_true rfl) dL_isParted_168 ?_
  rintro _ V₁ ⟨rfl, hl8, hK₁⟩
  refine g_if_lt hZ 221 dL_isParted_171 rfl (by omega) (fun cX => absurd cX (by omega)) (fun _ => ?_)
  refine g_aload_n hZ dL_isParted_174 rfl ?_
  refine g_callV hZ (q_lead hK₁) kL_29 ⟨by decide, by decide⟩ rfl rfl rfl rfl (Nat.le_of_ble_eq_true rfl) dL_isParted_175 ?_
  rintro _ V₂ ⟨rfl, hK₂⟩
  rw [p18]
  refine g_if_ne hZ 221 dL_isParted_178 rfl (by omega) (fun cX => absurd rfl cX) (fun _ => ?_)
  refine g_aload_n hZ dL_isParted_181 rfl ?_
  refine g_iconst hZ dL_isParted_182 ?_
  refine g_callV hZ (q_outcomeOf hK₂ 0 (by omega)) kL_35 ⟨by decide, by decide⟩ rfl rfl rfl rfl (Nat.le_of_ble_eq_true rfl) dL_isParted_183 ?_
  rintro _ V₃ ⟨rfl, hK₃⟩
  rw [p19]
  refine g_if_ne hZ 221 dL_isParted_186 rfl (by omega) (fun cX => absurd rfl cX) (fun _ => ?_)
  refine g_aload_n hZ dL_isParted_189 rfl ?_
  refine g_iconst hZ dL_isParted_190 ?_
  refine g_callV hZ (q_length hK₃ 1 (by omega)) kL_44 ⟨by decide, by decide⟩ rfl rfl rfl rfl (Nat.le_of_ble_eq_true rfl) dL_isParted_191 ?_
  rintro _ V₄ ⟨rfl, hK₄⟩
  rw [p20]
  refine g_iconst hZ dL_isParted_194 ?_
  refine g_icmp_ne hZ 221 dL_isParted_195 rfl (by omega) (fun cX => absurd rfl cX) (fun _ => ?_)
  refine g_aload_n hZ dL_isParted_198 rfl ?_
  refine g_iconst hZ dL_isParted_199 ?_
  refine g_callV hZ (q_bestMove hK₄ 1 (by omega)) kL_47 ⟨by decide, by decide⟩ rfl rfl rfl rfl (Nat.le_of_ble_eq_true rfl) dL_isParted_200 ?_
  rintro _ V₅ ⟨rfl, hK₅⟩
  rw [p21]
  refine g_sipush hZ (z := (-1005)) dL_isParted_203 rfl ?_
  refine g_icmp_ne hZ 221 dL_isParted_206 rfl (by omega) (fun cX => absurd rfl cX) (fun _ => ?_)
  refine g_aload_n hZ dL_isParted_209 rfl ?_
  refine g_iconst hZ dL_isParted_210 ?_
  refine g_callV hZ (q_wins hK₅ 2 (by omega)) kL_50 ⟨by decide, by decide⟩ rfl rfl rfl rfl (Nat.le_of_ble_eq_true rfl) dL_isParted_211 ?_
  rintro _ V₆ ⟨rfl, hK₆⟩
  rw [p22]
  refine g_if_ne hZ 221 dL_isParted_214 rfl (by omega) (fun cX => absurd rfl cX) (fun _ => ?_)
  refine g_iconst hZ dL_isParted_217 ?_
  refine g_goto hZ 222 dL_isParted_218 rfl ?_
  refine g_zret hZ dL_isParted_222 rfl (Or.inr rfl) ⟨rfl, _, _, _, hK₆⟩
