/-! the law's own methods: isSound -/
/-- the last m states of the history: one burned field fewer each -/
def Hd (w h n : Nat) : Nat → List hEn → Nat → Prop
  | 0, _, _ => True
  | m + 1, hs, q => ∃ (gs : List hEn) (C : Nat → Int), hs = gs ++ [(w, h, C)] ∧ cntZ C 3 n + 1 = q ∧ Hd w h n m gs (cntZ C 3 n)
theorem Hd.less {w h n : Nat} : ∀ {m k : Nat} {hs : List hEn} {q : Nat}, Hd w h n m hs q → k ≤ m → Hd w h n k hs q
  | _, 0, _, _, _, _ => trivial
  | 0, k + 1, _, _, _, hk => absurd hk (by omega)
  | m + 1, k + 1, hs, q, hH, hk => by
    obtain ⟨gs, C, e1, e2, e3⟩ := hH
    exact ⟨gs, C, e1, e2, e3.less (by omega)⟩
theorem Hd.tail {w h n : Nat} : ∀ {m : Nat} {hs : List hEn} {q : Nat}, Hd w h n m hs q → m < hs.length → Hd w h n m hs.tail q
  | 0, _, _, _, _ => trivial
  | m + 1, hs, q, hH, hl => by
    obtain ⟨gs, C, e1, e2, e3⟩ := hH
    rw [e1, List.length_append] at hl
    have hl : m + 1 < gs.length + 1 := hl
    have h0 := e3.tail (by omega)
    refine ⟨gs.tail, C, ?_, e2, h0⟩
    rw [e1]
    cases gs with
    | nil => simp at hl
    | cons x r => rfl
theorem Hd.push {w h n : Nat} {m : Nat} {hs : List hEn} {B : Nat → Int} (hH : Hd w h n (min m 8) hs (cntZ B 3 n)) : Hd w h n (min (m + 1) 8) (hpush hs (w, h, B)) (cntZ B 3 n + 1) := by
  obtain ⟨j, hj⟩ : ∃ j, min (m + 1) 8 = j + 1 := ⟨min (m + 1) 8 - 1, by omega⟩
  rw [hj]
  refine ⟨_, B, rfl, rfl, ?_⟩
  have h1 := hH.less (k := j) (by omega)
  by_cases q : hs.length = 8
  · rw [if_pos q]; exact h1.tail (by omega)
  · rw [if_neg q]; exact h1
theorem cntZ_all {B : Nat → Int} : ∀ {n : Nat}, mBd B n → cntZ B 0 n + cntZ B 1 n + cntZ B 2 n + cntZ B 3 n = n
  | 0, _ => rfl
  | n + 1, hB => by
    have ih := cntZ_all (n := n) (fun k hk => hB k (by omega))
    have h := hB n (by omega)
    rw [cntZ, cntZ, cntZ, cntZ]
    rcases (show B n = 0 ∨ B n = 1 ∨ B n = 2 ∨ B n = 3 by omega) with e | e | e | e <;> rw [e] <;> simp <;> omega
theorem mpart_0 (q : Nat × Nat × Nat) : mpart q 0 = (q.1 : Int) := rfl
theorem mpart_1 (q : Nat × Nat × Nat) : mpart q 1 = (q.2.1 : Int) := rfl
theorem mpart_2 (q : Nat × Nat × Nat) : mpart q 2 = (q.2.2 : Int) := rfl
set_option maxHeartbeats 4000000 in
theorem t_L_isSound (E : gE) (S : gS) {w h n : Nat} {B : Nat → Int} {hs : List hEn} {kp : List (Nat × Nat)} {tx : List Nat} (hI : Iv S w h n B hs kp tx) (c : Nat) (hc : c < 1073741824) : Ct E LAY mL_isSound [.ref (gad E 0), iV (n : Int), iV (c : Int)] S (fun r S' => r = some (iV 1) ∧ ∃ (B2 : Nat → Int) (hs2 : List hEn), Iv S' w h n B2 hs2 kp tx) := by
  have hg := hI.g
  have hn := hg.2.2.2.2.2
  have hwh := hg.2.2.2.2.1
  refine Ct.intro LAY_ok (by decide +kernel) (Nat.le_of_ble_eq_true rfl) rfl ?_
  intro Z hZ
  have undo : ∀ (j k T burned : Nat) (S₁ : gS) (A : Nat → Int) (gs : List hEn) (L9 : List (Nat × Value)), k + j = T → T ≤ 8 → burned ≤ 15 → Iv S₁ w h n A gs kp tx → Hd w h n j gs (cntZ A 3 n) → cntZ A 3 n + k = burned → lkeep L9 [0, 3, 5, 6, 7] = [(0, .ref (gad E 0)), (3, iV 1), (5, iV (T : Int)), (6, iV (burned : Int)), (7, iV (k : Int))] → Z S₁ L9 212 [] := by
    intro j
    induction j with
    | zero =>
      intro k T burned S₁ A gs L9 hk hT hb hI₁ hH hcb hL9
      refine g_keep hZ [0, 3, 5, 6, 7] hL9 ?_
      refine g_iload hZ dL_isSound_212 rfl ?_
      refine g_iload hZ dL_isSound_214 rfl ?_
      refine g_icmp_ge hZ 257 dL_isSound_216 rfl (by omega) (fun _ => ?_) (fun cX => absurd (by omega) cX)
      refine g_iload_n hZ dL_isSound_257 rfl ?_
      refine g_zret hZ dL_isSound_258 rfl (Or.inr rfl) ⟨rfl, _, _, hI₁⟩
    | succ j ih =>
      intro k T burned S₁ A gs L9 hk hT hb hI₁ hH hcb hL9
      obtain ⟨gs₂, C, e1, e2, e3⟩ := hH
      refine g_keep hZ [0, 3, 5, 6, 7] hL9 ?_
      refine g_iload hZ dL_isSound_212 rfl ?_
      refine g_iload hZ dL_isSound_214 rfl ?_
      refine g_icmp_ge hZ 257 dL_isSound_216 rfl (by omega) (fun cX => absurd cX (by omega)) (fun _ => ?_)
      refine g_iload_n hZ dL_isSound_219 rfl ?_
      refine g_if_eq hZ 257 dL_isSound_220 rfl (by omega) (fun cX => absurd cX (by omega)) (fun _ => ?_)
      refine g_aload_n hZ dL_isSound_223 rfl ?_
      refine g_callV hZ (q_undo1 hI₁ e1 hwh) kL_41 ⟨by decide, by decide⟩ rfl rfl rfl rfl (Nat.le_of_ble_eq_true rfl) dL_isSound_224 ?_
      rintro _ S₂ ⟨rfl, hl8, hI₂⟩
      refine g_if_lt hZ 249 dL_isSound_227 rfl (by omega) (fun cX => absurd cX (by omega)) (fun _ => ?_)
      refine g_aload_n hZ dL_isSound_230 rfl ?_
      refine g_iconst hZ dL_isSound_231 ?_
      refine g_callV hZ (q_count hI₂ 3 (by omega)) kL_15 ⟨by decide, by decide⟩ rfl rfl rfl rfl (Nat.le_of_ble_eq_true rfl) dL_isSound_232 ?_
      rintro _ _ ⟨rfl, rfl⟩
      refine g_iload hZ dL_isSound_235 rfl ?_
      refine g_iconst hZ dL_isSound_237 ?_
      refine g_isub hZ dL_isSound_238 ?_
      refine g_iload hZ dL_isSound_239 rfl ?_
      refine g_isub hZ dL_isSound_241 ?_
      refine g_icmp_ne hZ 249 dL_isSound_242 rfl (by omega) (fun cX => absurd (by omega) cX) (fun _ => ?_)
      refine g_iconst hZ dL_isSound_245 ?_
      refine g_goto hZ 250 dL_isSound_246 rfl ?_
      refine g_istore_n hZ dL_isSound_250 (by decide) ?_
      refine g_iinc hZ dL_isSound_251 rfl (by decide) ?_
      refine g_goto hZ 212 dL_isSound_254 rfl ?_
      exact ih (k + 1) T burned S₂ C gs₂ _ (by omega) hT hb hI₂ e3 (by omega) rfl
  have rest : ∀ (made : Nat) (S₁ : gS) (A : Nat → Int) (gs : List hEn) (L9 : List (Nat × Value)), made ≤ 12 → Iv S₁ w h n A gs kp tx → Hd w h n (min made 8) gs (cntZ A 3 n) → lkeep L9 [0, 3, 4] = [(0, .ref (gad E 0)), (3, iV 1), (4, iV (made : Int))] → Z S₁ L9 186 [] := by
    intro made S₁ A gs L9 hm hI₁ hH hL9
    have hcl := cntZ_le A 3 n
    have fin : ∀ T : Nat, T = min made 8 → Z S₁ [(0, .ref (gad E 0)), (3, iV 1), (4, iV (made : Int))] 200 [iV (T : Int)] := by
      intro T hT
      refine g_istore hZ dL_isSound_200 (by decide) ?_
      refine g_aload_n hZ dL_isSound_202 rfl ?_
      refine g_iconst hZ dL_isSound_203 ?_
      refine g_callV hZ (q_count hI₁ 3 (by omega)) kL_15 ⟨by decide, by decide⟩ rfl rfl rfl rfl (Nat.le_of_ble_eq_true rfl) dL_isSound_204 ?_
      rintro _ _ ⟨rfl, rfl⟩
      refine g_istore hZ dL_isSound_207 (by decide) ?_
      refine g_iconst hZ dL_isSound_209 ?_
      refine g_istore hZ dL_isSound_210 (by decide) ?_
      exact undo T 0 T (cntZ A 3 n) S₁ A gs _ (by omega) (by omega) (by omega) hI₁ (by rw [hT]; exact hH) rfl rfl
    refine g_keep hZ [0, 3, 4] hL9 ?_
    refine g_iload hZ dL_isSound_186 rfl ?_
    refine g_bipush hZ (z := 8) dL_isSound_188 rfl ?_
    refine g_icmp_le hZ 198 dL_isSound_190 rfl (by omega) (fun c1 => ?_) (fun c1 => ?_)
    · refine g_iload hZ dL_isSound_198 rfl ?_
      exact fin made (by omega)
    · refine g_bipush hZ (z := 8) dL_isSound_193 rfl ?_
      refine g_goto hZ 200 dL_isSound_195 rfl ?_
      exact fin 8 (by omega)
  have loop : ∀ (t k made : Nat) (S₁ : gS) (A : Nat → Int) (gs : List hEn) (L9 : List (Nat × Value)), k + t = 12 → made ≤ k → Iv S₁ w h n A gs kp tx → Hd w h n (min made 8) gs (cntZ A 3 n) → lkeep L9 [0, 1, 2, 3, 4, 5] = [(0, .ref (gad E 0)), (1, iV (n : Int)), (2, iV (c : Int)), (3, iV 1), (4, iV (made : Int)), (5, iV (k : Int))] → Z S₁ L9 8 [] := by
    intro t
    induction t with
    | zero =>
      intro k made S₁ A gs L9 hk hm hI₁ hH hL9
      refine g_keep hZ [0, 1, 2, 3, 4, 5] hL9 ?_
      refine g_iload hZ dL_isSound_8 rfl ?_
      refine g_bipush hZ (z := 12) dL_isSound_10 rfl ?_
      refine g_icmp_ge hZ 186 dL_isSound_12 rfl (by omega) (fun _ => ?_) (fun cX => absurd (by omega) cX)
      exact rest made S₁ A gs _ (by omega) hI₁ hH rfl
    | succ t ih =>
      intro k made S₁ A gs L9 hk hm hI₁ hH hL9
      refine g_keep hZ [0, 1, 2, 3, 4, 5] hL9 ?_
      refine g_iload hZ dL_isSound_8 rfl ?_
      refine g_bipush hZ (z := 12) dL_isSound_10 rfl ?_
      refine g_icmp_ge hZ 186 dL_isSound_12 rfl (by omega) (fun cX => absurd cX (by omega)) (fun _ => ?_)
      refine g_iload_n hZ dL_isSound_15 rfl ?_
      refine g_if_eq hZ 186 dL_isSound_16 rfl (by omega) (fun cX => absurd cX (by omega)) (fun _ => ?_)
      refine g_iconst hZ dL_isSound_19 ?_
      refine g_iload hZ dL_isSound_20 rfl ?_
      refine g_iload_n hZ dL_isSound_22 rfl ?_
      refine g_iadd hZ dL_isSound_23 ?_
      rw [show (k : Int) + (c : Int) = ((k + c : Nat) : Int) by omega]
      refine g_iconst hZ dL_isSound_24 ?_
      refine g_irem hZ (b := 2) dL_isSound_25 (by omega) (by omega) (by omega) ?_
      refine g_iadd hZ dL_isSound_26 ?_
      rw [show (1 : Int) + (((k + c) % 2 : Nat) : Int) = ((1 + (k + c) % 2 : Nat) : Int) by omega]
      obtain ⟨s, hs0⟩ : ∃ s, s = 1 + (k + c) % 2 := ⟨_, rfl⟩
      rw [← hs0]
      have hs12 : (s : Int) = 1 ∨ (s : Int) = 2 := by omega
      have hl := mvs_bound (w := w) hn (hI₁.2.2.2.1.s hs12)
      refine g_istore hZ dL_isSound_27 (by decide) ?_
      refine g_aload_n hZ dL_isSound_29 rfl ?_
      refine g_iload hZ dL_isSound_30 rfl ?_
      refine g_callV hZ (q_moves hI₁ (s : Int) hs12) kL_84 ⟨by decide, by decide⟩ rfl rfl rfl rfl (Nat.le_of_ble_eq_true rfl) dL_isSound_32 ?_
      rintro _ S₂ ⟨rfl, hI₂⟩
      refine g_istore hZ dL_isSound_35 (by decide) ?_
      refine g_iload hZ dL_isSound_37 rfl ?_
      refine g_if_le hZ 180 dL_isSound_39 rfl (by omega) (fun c1 => ?_) (fun c1 => ?_)
      · refine g_iinc hZ dL_isSound_180 rfl (by decide) ?_
        refine g_goto hZ 8 dL_isSound_183 rfl ?_
        exact ih (k + 1) made S₂ A gs _ (by omega) (by omega) hI₂ hH rfl
      · refine g_iload_n hZ dL_isSound_42 rfl ?_
        refine g_iload hZ dL_isSound_43 rfl ?_
        refine g_ishr hZ dL_isSound_45 (gi_shr (by omega) (by omega)) ?_
        refine g_iload hZ dL_isSound_46 rfl ?_
        have hq : c / 2 ^ k ≤ c := Nat.div_le_self _ _
        refine g_irem hZ dL_isSound_48 (by omega) (by omega) (by omega) ?_
        have him := Nat.mod_lt (c / 2 ^ k) (show 0 < (mvs w n A (s : Int)).length by omega)
        generalize c / 2 ^ k % (mvs w n A (s : Int)).length = i0 at him ⊢
        obtain ⟨q0, hq0⟩ : ∃ q0, (mvs w n A (s : Int))[i0]? = some q0 := ⟨_, List.getElem?_eq_getElem him⟩
        have hmem := List.mem_of_getElem? hq0
        obtain ⟨m1, m2, m3, m4, m5, m6, m7, -⟩ := mvs_facts hg (show (s : Int) ≠ 0 by omega) hmem
        obtain ⟨-, -, -, -, hseen, -⟩ := mvs_in hmem
        have hcl := cntZ_le A 3 n
        refine g_istore hZ dL_isSound_49 (by decide) ?_
        refine g_keep hZ [0, 1, 2, 3, 4, 5, 6, 8] (L' := [(0, .ref (gad E 0)), (1, iV (n : Int)), (2, iV (c : Int)), (3, iV 1), (4, iV (made : Int)), (5, iV (k : Int)), (6, iV (s : Int)), (8, iV (i0 : Int))]) rfl ?_
        refine g_aload_n hZ dL_isSound_51 rfl ?_
        refine g_iconst hZ dL_isSound_52 ?_
        refine g_callV hZ (q_count hI₂ 3 (by omega)) kL_15 ⟨by decide, by decide⟩ rfl rfl rfl rfl (Nat.le_of_ble_eq_true rfl) dL_isSound_53 ?_
        rintro _ _ ⟨rfl, rfl⟩
        refine g_istore hZ dL_isSound_56 (by decide) ?_
        refine g_aload_n hZ dL_isSound_58 rfl ?_
        refine g_iload hZ dL_isSound_59 rfl ?_
        refine g_iload hZ dL_isSound_61 rfl ?_
        refine g_iconst hZ dL_isSound_63 ?_
        refine g_callV hZ (q_moveAt hI₂ (s : Int) hs12 i0 q0 hq0 0 (by omega)) kL_87 ⟨by decide, by decide⟩ rfl rfl rfl rfl (Nat.le_of_ble_eq_true rfl) dL_isSound_64 ?_
        rintro _ S₃ ⟨rfl, hI₃⟩
        rw [mpart_0]
        refine g_istore hZ dL_isSound_67 (by decide) ?_
        refine g_aload_n hZ dL_isSound_69 rfl ?_
        refine g_iload hZ dL_isSound_70 rfl ?_
        refine g_iload hZ dL_isSound_72 rfl ?_
        refine g_iconst hZ dL_isSound_74 ?_
        refine g_callV hZ (q_moveAt hI₃ (s : Int) hs12 i0 q0 hq0 1 (by omega)) kL_87 ⟨by decide, by decide⟩ rfl rfl rfl rfl (Nat.le_of_ble_eq_true rfl) dL_isSound_75 ?_
        rintro _ S₄ ⟨rfl, hI₄⟩
        rw [mpart_1]
        refine g_istore hZ dL_isSound_78 (by decide) ?_
        refine g_keep hZ [0, 1, 2, 3, 4, 5, 6, 8, 9, 10, 11] (L' := [(0, .ref (gad E 0)), (1, iV (n : Int)), (2, iV (c : Int)), (3, iV 1), (4, iV (made : Int)), (5, iV (k : Int)), (6, iV (s : Int)), (8, iV (i0 : Int)), (9, iV (cntZ A 3 n : Int)), (10, iV (q0.1 : Int)), (11, iV (q0.2.1 : Int))]) rfl ?_
        refine g_aload_n hZ dL_isSound_80 rfl ?_
        refine g_iload hZ dL_isSound_81 rfl ?_
        refine g_iload hZ dL_isSound_83 rfl ?_
        refine g_callV hZ (q_isSeen hI₄ q0.1 q0.2.1 m1 m2) kL_91 ⟨by decide, by decide⟩ rfl rfl rfl rfl (Nat.le_of_ble_eq_true rfl) dL_isSound_85 ?_
        rintro _ _ ⟨rfl, rfl⟩
        rw [if_pos hseen]
        refine g_iconst hZ dL_isSound_88 ?_
        refine g_icmp_ne hZ 175 dL_isSound_89 rfl (by omega) (fun cX => absurd rfl cX) (fun _ => ?_)
        refine g_aload_n hZ dL_isSound_92 rfl ?_
        refine g_iload hZ dL_isSound_93 rfl ?_
        refine g_iload hZ dL_isSound_95 rfl ?_
        refine g_callV hZ (q_isSeen hI₄ q0.2.1 q0.1 m2 m1) kL_91 ⟨by decide, by decide⟩ rfl rfl rfl rfl (Nat.le_of_ble_eq_true rfl) dL_isSound_97 ?_
        rintro _ _ ⟨rfl, rfl⟩
        rw [if_neg (fun z => by have y := (seenB_free hg m2 m1 z).1; unfold frB at y; have y := of_decide_eq_true y; omega)]
        refine g_if_ne hZ 175 dL_isSound_100 rfl (by omega) (fun cX => absurd rfl cX) (fun _ => ?_)
        refine g_aload_n hZ dL_isSound_103 rfl ?_
        refine g_iload hZ dL_isSound_104 rfl ?_
        refine g_iload hZ dL_isSound_106 rfl ?_
        refine g_iload hZ dL_isSound_108 rfl ?_
        refine g_aload_n hZ dL_isSound_110 rfl ?_
        refine g_iload hZ dL_isSound_111 rfl ?_
        refine g_iload hZ dL_isSound_113 rfl ?_
        refine g_iconst hZ dL_isSound_115 ?_
        refine g_callV hZ (q_moveAt hI₄ (s : Int) hs12 i0 q0 hq0 2 (by omega)) kL_87 ⟨by decide, by decide⟩ rfl rfl rfl rfl (Nat.le_of_ble_eq_true rfl) dL_isSound_116 ?_
        rintro _ S₅ ⟨rfl, hI₅⟩
        rw [mpart_2]
        refine g_callV hZ (As := [iV (s : Int), iV (q0.1 : Int), iV (q0.2.1 : Int), iV (q0.2.2 : Int)]) (q_move hI₅ (s : Int) hs12 q0 hmem) kL_94 ⟨by decide, by decide⟩ rfl rfl rfl rfl (Nat.le_of_ble_eq_true rfl) dL_isSound_119 ?_
        rintro _ S₆ ⟨rfl, hI₆⟩
        have hl2 := mvs_bound (w := w) hn (hI₆.2.2.2.1.s (s := 3 - (s : Int)) (by omega))
        have h3 := aftB_cnt3 hg hs12 hmem
        have hall := cntZ_all hI₆.2.2.1
        refine g_aload_n hZ dL_isSound_122 rfl ?_
        refine g_iconst hZ dL_isSound_123 ?_
        refine g_iload hZ dL_isSound_124 rfl ?_
        refine g_isub hZ dL_isSound_126 ?_
        refine g_callV hZ (q_moves hI₆ (3 - (s : Int)) (by omega)) kL_84 ⟨by decide, by decide⟩ rfl rfl rfl rfl (Nat.le_of_ble_eq_true rfl) dL_isSound_127 ?_
        rintro _ S₇ ⟨rfl, hI₇⟩
        refine g_icmp_ne hZ 175 dL_isSound_130 rfl (by omega) (fun cX => absurd rfl cX) (fun _ => ?_)
        refine g_aload_n hZ dL_isSound_133 rfl ?_
        refine g_iconst hZ dL_isSound_134 ?_
        refine g_callV hZ (q_count hI₇ 3 (by omega)) kL_15 ⟨by decide, by decide⟩ rfl rfl rfl rfl (Nat.le_of_ble_eq_true rfl) dL_isSound_135 ?_
        rintro _ _ ⟨rfl, rfl⟩
        refine g_iload hZ dL_isSound_138 rfl ?_
        refine g_iconst hZ dL_isSound_140 ?_
        refine g_iadd hZ dL_isSound_141 ?_
        refine g_icmp_ne hZ 175 dL_isSound_142 rfl (by omega) (fun cX => absurd (by omega) cX) (fun _ => ?_)
        refine g_aload_n hZ dL_isSound_145 rfl ?_
        refine g_iconst hZ dL_isSound_146 ?_
        refine g_callV hZ (q_count hI₇ 0 (by omega)) kL_15 ⟨by decide, by decide⟩ rfl rfl rfl rfl (Nat.le_of_ble_eq_true rfl) dL_isSound_147 ?_
        rintro _ _ ⟨rfl, rfl⟩
        refine g_aload_n hZ dL_isSound_150 rfl ?_
        refine g_iconst hZ dL_isSound_151 ?_
        refine g_callV hZ (q_count hI₇ 1 (by omega)) kL_15 ⟨by decide, by decide⟩ rfl rfl rfl rfl (Nat.le_of_ble_eq_true rfl) dL_isSound_152 ?_
        rintro _ _ ⟨rfl, rfl⟩
        refine g_iadd hZ dL_isSound_155 ?_
        refine g_aload_n hZ dL_isSound_156 rfl ?_
        refine g_iconst hZ dL_isSound_157 ?_
        refine g_callV hZ (q_count hI₇ 2 (by omega)) kL_15 ⟨by decide, by decide⟩ rfl rfl rfl rfl (Nat.le_of_ble_eq_true rfl) dL_isSound_158 ?_
        rintro _ _ ⟨rfl, rfl⟩
        refine g_iadd hZ dL_isSound_161 ?_
        refine g_iload hZ dL_isSound_162 rfl ?_
        refine g_iadd hZ dL_isSound_164 ?_
        refine g_iconst hZ dL_isSound_165 ?_
        refine g_iadd hZ dL_isSound_166 ?_
        refine g_iload_n hZ dL_isSound_167 rfl ?_
        refine g_icmp_ne hZ 175 dL_isSound_168 rfl (by omega) (fun cX => absurd (by omega) cX) (fun _ => ?_)
        refine g_iconst hZ dL_isSound_171 ?_
        refine g_goto hZ 176 dL_isSound_172 rfl ?_
        refine g_istore_n hZ dL_isSound_176 (by decide) ?_
        refine g_iinc hZ dL_isSound_177 rfl (by decide) ?_
        refine g_iinc hZ dL_isSound_180 rfl (by decide) ?_
        refine g_goto hZ 8 dL_isSound_183 rfl ?_
        exact ih (k + 1) (made + 1) S₇ (aftB A q0 (s : Int)) _ _ (by omega) (by omega) hI₇ (by rw [h3]; exact hH.push) rfl
  refine g_iconst hZ dL_isSound_0 ?_
  refine g_istore_n hZ dL_isSound_1 (by decide) ?_
  refine g_iconst hZ dL_isSound_2 ?_
  refine g_istore hZ dL_isSound_3 (by decide) ?_
  refine g_iconst hZ dL_isSound_5 ?_
  refine g_istore hZ dL_isSound_6 (by decide) ?_
  exact loop 12 0 0 S B hs _ rfl (Nat.le_refl 0) hI trivial rfl
