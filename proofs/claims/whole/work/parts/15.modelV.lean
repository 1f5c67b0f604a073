/-! the reference: values -/
theorem cntZ_sub {f g : Nat → Int} {z : Int} : ∀ {n : Nat}, (∀ k, k < n → f k = z → g k = z) → cntZ f z n ≤ cntZ g z n
  | 0, _ => Nat.le_refl _
  | n + 1, h => by
    have ih := cntZ_sub (f := f) (g := g) (z := z) (n := n) (fun k hk => h k (by omega))
    have h1 := h n (by omega)
    rw [cntZ, cntZ]
    by_cases q : f n = z
    · rw [if_pos q, if_pos (h1 q)]; omega
    · rw [if_neg q]; omega
theorem alnB_c3 {r B : Nat → Int} {root : Int} {n : Nat} (hB : mBd B n) (hc : mC3 B n) : mC3 (bdP (cod (alnB r B root) n)) n := by
  have hA := alnB_bd (r := r) (root := root) hB
  have key : ∀ v : Int, v ≠ 3 → ∀ k, k < n → bdP (cod (alnB r B root) n) k = v → B k = v := by
    intro v hv k hk e
    rw [bdP_cod hA hk] at e
    unfold alnB at e
    split at e
    · omega
    · exact e
  exact ⟨Nat.le_trans (cntZ_sub (key 1 (by omega))) hc.1, Nat.le_trans (cntZ_sub (key 2 (by omega))) hc.2⟩
theorem alnB_m1 (r B : Nat → Int) : alnB r B (-1) = B := by
  funext k
  unfold alnB
  rw [if_neg (by omega)]
/-- the reference's table of kept values -/
def mKp (S : gS) (kp : List (Nat × Nat)) : Prop := S 53 0 = (kp.length : Int) ∧ kp.length ≤ 40 ∧ (∀ (i : Nat) (e : Nat × Nat), kp[i]? = some e → S 64 i = (e.1 : Int) ∧ S 65 i = (e.2 : Int)) ∧ ∀ e ∈ kp, e.1 < 1073741824 ∧ e.2 ≤ 16
theorem mKp.x {vs : List Nat} {S S1 : gS} {kp : List (Nat × Nat)} (hh : mKp S kp) (he : Eqx vs S S1) (h1 : vs.contains 53 = false) (h2 : vs.contains 64 = false) (h3 : vs.contains 65 = false) : mKp S1 kp :=
  ⟨(he 53 0 h1).trans hh.1, hh.2.1, fun i e hi => ⟨(he 64 i h2).trans (hh.2.2.1 i e hi).1, (he 65 i h3).trans (hh.2.2.1 i e hi).2⟩, hh.2.2.2⟩
def kfind : List (Nat × Nat) → Nat → Option Nat
  | [], _ => none
  | e :: r, c => if e.1 = c then some e.2 else kfind r c
theorem kfind_drop {c : Nat} : ∀ {kp : List (Nat × Nat)} {i : Nat} {e : Nat × Nat}, (∀ (j : Nat) (x : Nat × Nat), j < i → kp[j]? = some x → x.1 ≠ c) → kp[i]? = some e → e.1 = c → kfind kp c = some e.2
  | [], i, e, _, h, _ => by simp at h
  | x :: kp, i, e, hn, h, he => by
    rw [kfind]
    cases i with
    | zero =>
      simp at h
      rw [h, if_pos he]
    | succ i =>
      rw [if_neg (hn 0 x (by omega) (by simp))]
      exact kfind_drop (fun j y hj hy => hn (j + 1) y (Nat.succ_lt_succ hj) (by simpa using hy)) (by simpa using h) he
theorem kfind_no {c : Nat} : ∀ {kp : List (Nat × Nat)}, (∀ (j : Nat) (x : Nat × Nat), kp[j]? = some x → x.1 ≠ c) → kfind kp c = none
  | [], _ => rfl
  | x :: kp, hn => by
    rw [kfind, if_neg (hn 0 x (by simp))]
    exact kfind_no (fun j y hy => hn (j + 1) y (by simpa using hy))
def kpush (kp : List (Nat × Nat)) (e : Nat × Nat) : List (Nat × Nat) := (if kp.length = 40 then [] else kp) ++ [e]
/-- a value asked for: answer, table, hits -/
def askV (w n : Nat) (r B : Nat → Int) (kp : List (Nat × Nat)) (root : Int) : Int × List (Nat × Nat) × Int :=
  if kindF r B n root = 0 then (0, kp, 0) else
  match kfind kp (cod (alnB r B root) n) with
  | some v => ((v : Int), kp, 1)
  | none => match bfs (scP w n false) 1501 0 [cod (alnB r B root) n + 1073741824 * ((kindF r B n root).toNat - 1)] with
    | none => (-1004, kp, 0)
    | some _ => (((GV w n false (cod (alnB r B root) n + 1073741824 * ((kindF r B n root).toNat - 1))).2 : Int), kpush kp (cod (alnB r B root) n, (GV w n false (cod (alnB r B root) n + 1073741824 * ((kindF r B n root).toNat - 1))).2), 0)
theorem bfs_ok0 {w h n p0 : Nat} {alt : Bool} (hg : gOK w h n) (hp : vP n p0) {L : List Nat} (hb : bfs (scP w n alt) 1501 0 [p0] = some L) : bOK (scP w n alt) (vP n) L ∧ L[0]? = some p0 := by
  refine ⟨bfs_ok (rk := bcP n) (Q := vP n) (fun p hp c hc => ⟨vP_nx hg hp c hc, bcP_nx hg c hc⟩) rfl (bI_0 hp) hb, ?_⟩
  obtain ⟨N, hN⟩ := bfs_pre (by simp) (by simp) hb
  rw [hN]; rfl
theorem vP_start {n c s : Nat} (hn : n ≤ 15) (hc : c < 1073741824) (hC : mC3 (bdP c) n) (hs : s = 1 ∨ s = 2) : vP n (c + 1073741824 * (s - 1)) := ⟨by omega, by rw [cntZ_cong (fun k hk => bdP_side (by omega))]; exact hC.1, by rw [cntZ_cong (fun k hk => bdP_side (by omega))]; exact hC.2⟩
theorem mRg.x {vs : List Nat} {S S1 : gS} {w n : Nat} (hh : mRg S w n) (he : Eqx vs S S1) (h1 : vs.contains 61 = false) (h2 : vs.contains 72 = false) : mRg S1 w n := by
  have e : S1 61 = S 61 := funext fun j => he 61 j h1
  intro f hf
  rw [he 72 f h2, e]
  exact hh f hf
theorem t_X9_valueOf (E : gE) (S : gS) (w h n : Nat) (hg : mG S w h n) (hB : mBd (S 61) n) (hc : mC3 (S 61) n) (hr : mRg S w n) (kp : List (Nat × Nat)) (hk : mKp S kp) (root : Nat) (hroot : root < n) (h3 : kindF (rg w n (S 61)) (S 61) n root ≠ 3) : Ct E LAY mX9_valueOf [.ref (gad E 27), iV (root : Int)] S (fun r S' => Eqx [53, 54, 55, 56, 62, 64, 65, 66, 67, 68, 69, 70] S S' ∧ r = some (iV (askV w n (rg w n (S 61)) (S 61) kp root).1) ∧ mKp S' (askV w n (rg w n (S 61)) (S 61) kp root).2.1 ∧ S' 54 0 = S 54 0 + (askV w n (rg w n (S 61)) (S 61) kp root).2.2) := by
  have hn := hg.n15
  have hO := hg.2.2
  have hkb := kindF_bd (r := rg w n (S 61)) (B := S 61) (n := n) (root := root)
  have hcl := cod_lt30 (x := alnB (rg w n (S 61)) (S 61) root) hn (alnB_bd hB)
  have hcc := alnB_c3 (r := rg w n (S 61)) (root := (root : Int)) hB hc
  refine Ct.intro LAY_ok (by decide +kernel) (Nat.le_of_ble_eq_true rfl) rfl ?_
  intro Z hZ
  refine g_aload_n hZ dX9_valueOf_0 rfl ?_
  refine g_iload_n hZ dX9_valueOf_1 rfl ?_
  refine g_callV hZ (t_X9_kind E S w h n hg hB hr root (by omega)) kX9_131 ⟨by decide, by decide⟩ rfl rfl rfl rfl (Nat.le_of_ble_eq_true rfl) dX9_valueOf_2 ?_
  rintro _ _ ⟨rfl, rfl⟩
  generalize hK : kindF (rg w n (S 61)) (S 61) n (root : Int) = K at *
  refine g_istore_n hZ dX9_valueOf_5 (by decide) ?_
  refine g_iload_n hZ dX9_valueOf_6 rfl ?_
  refine g_if_ne hZ 12 dX9_valueOf_7 rfl (by omega) (fun c1 => ?_) (fun c1 => ?_)
  · refine g_aload_n hZ dX9_valueOf_12 rfl ?_
    refine g_iload_n hZ dX9_valueOf_13 rfl ?_
    refine g_callV hZ (t_X9_coded E S w h n hg hB root (by omega) (fun _ => hr)) kX9_150 ⟨by decide, by decide⟩ rfl rfl rfl rfl (Nat.le_of_ble_eq_true rfl) dX9_valueOf_14 ?_
    rintro _ _ ⟨rfl, rfl⟩
    generalize hC : cod (alnB (rg w n (S 61)) (S 61) (root : Int)) n = C at *
    have eK : K = ((K.toNat : Nat) : Int) := by omega
    have hp0 := vP_start hn hcl hcc (show K.toNat = 1 ∨ K.toNat = 2 by omega)
    obtain ⟨g1, g2, g3, g4⟩ := id hk
    have loop : ∀ (m i : Nat), i + m = kp.length → (∀ (j : Nat) (x : Nat × Nat), j < i → kp[j]? = some x → x.1 ≠ C) → Z S [(0, .ref (gad E 27)), (1, iV (root : Int)), (2, iV K), (3, iV (C : Int)), (4, iV (i : Int))] 21 [] := by
      intro m
      induction m with
      | zero =>
        intro i hi hno
        have hf : kfind kp C = none := kfind_no (fun j x hj => hno j x (by have := (List.getElem?_eq_some_iff.mp hj).1; omega) hj)
        refine g_iload hZ dX9_valueOf_21 rfl ?_
        refine g_aload_n hZ dX9_valueOf_23 rfl ?_
        refine g_geti hZ fX9_74 rfl rfl dX9_valueOf_24 g1 ?_
        refine g_icmp_ge hZ 65 dX9_valueOf_27 rfl (by omega) (fun _ => ?_) (fun cX => absurd (by omega) cX)
        refine g_aload_n hZ dX9_valueOf_65 rfl ?_
        refine g_iload_n hZ dX9_valueOf_66 rfl ?_
        refine g_iload_n hZ dX9_valueOf_67 rfl ?_
        refine g_iconst hZ dX9_valueOf_68 ?_
        refine g_callV hZ (As := [iV (C : Int), iV K, iV (cond false 1 0)]) (by rw [eK]; exact t_X9_isReached E S w h n hg C hcl hcc K.toNat (by omega) false) kX9_156 ⟨by decide, by decide⟩ rfl rfl rfl rfl (Nat.le_of_ble_eq_true rfl) dX9_valueOf_69 ?_
        rintro _ S₁ ⟨he₁, z, rfl, hz⟩
        rcases hz with ⟨rfl, hz⟩ | ⟨rfl, L, hz, hRS⟩
        · refine g_if_ne hZ 79 dX9_valueOf_72 rfl (by omega) (fun cX => absurd (by omega) cX) (fun _ => ?_)
          have ea : askV w n (rg w n (S 61)) (S 61) kp (root : Int) = (-1004, kp, 0) := by
            unfold askV
            rw [hK, hC, if_neg c1, hf, hz]
          refine g_sipush hZ (z := (-1004)) dX9_valueOf_75 rfl ?_
          refine g_iret hZ dX9_valueOf_78 rfl ⟨he₁.mono rfl, by rw [ea], by rw [ea]; exact hk.x he₁ rfl rfl rfl, by rw [ea, he₁ 54 0 rfl]; simp⟩
        · refine g_if_ne hZ 79 dX9_valueOf_72 rfl (by omega) (fun _ => ?_) (fun cX => absurd cX (by omega))
          obtain ⟨hOK, h0⟩ := bfs_ok0 hO hp0 hz
          refine g_aload_n hZ dX9_valueOf_79 rfl ?_
          refine g_iconst hZ dX9_valueOf_80 ?_
          refine g_callV hZ (t_X9_weighs E S₁ w h n (hg.x he₁ rfl rfl) false L hRS hOK) kX9_160 ⟨by decide, by decide⟩ rfl rfl rfl rfl (Nat.le_of_ble_eq_true rfl) dX9_valueOf_81 ?_
          rintro _ S₂ ⟨rfl, he₂, hW⟩
          obtain ⟨w1, w2⟩ := hW 0 _ h0
          have hb16 := GV_b (w := w) (n := n) (alt := false) (p := C + 1073741824 * (K.toNat - 1))
          have ea : askV w n (rg w n (S 61)) (S 61) kp (root : Int) = (((GV w n false (C + 1073741824 * (K.toNat - 1))).2 : Int), kpush kp (C, (GV w n false (C + 1073741824 * (K.toNat - 1))).2), 0) := by
            unfold askV
            rw [hK, hC, if_neg c1, hf, hz]
          have he₁₂ : Eqx [53, 54, 55, 56, 62, 64, 65, 66, 67, 68, 69, 70] S S₂ := (he₁.mono rfl).tr (he₂.mono rfl)
          have hk₂ : mKp S₂ kp := (hk.x he₁ rfl rfl rfl).x he₂ rfl rfl rfl
          have h54 : S₂ 54 0 = S 54 0 := (he₂ 54 0 rfl).trans (he₁ 54 0 rfl)
          rw [ea] at hZ
          generalize hV : (GV w n false (C + 1073741824 * (K.toNat - 1))).2 = V at *
          have store : ∀ (gs : List (Nat × Nat)) (S₃ : gS) (L9 : List (Nat × Value)), gs ++ [(C, V)] = kpush kp (C, V) → gs.length ≤ 39 → mKp S₃ gs → Eqx [53] S₂ S₃ → lkeep L9 [0, 1, 2, 3] = [(0, .ref (gad E 27)), (1, iV (root : Int)), (2, iV K), (3, iV (C : Int))] → Z S₃ L9 105 [] := by
            intro gs S₃ L9 hgs hlen hk₃ he₃ hL9
            obtain ⟨q1, q2, q3, q4⟩ := hk₃
            refine g_keep hZ [0, 1, 2, 3] hL9 ?_
            refine g_aload_n hZ dX9_valueOf_105 rfl ?_
            refine g_getr hZ fX9_26 rfl rfl dX9_valueOf_106 ?_
            refine g_aload_n hZ dX9_valueOf_109 rfl ?_
            refine g_geti hZ fX9_74 rfl rfl dX9_valueOf_110 q1 ?_
            refine g_iload_n hZ dX9_valueOf_113 rfl ?_
            refine g_iast hZ (gs.length) rfl dX9_valueOf_114 (rfl) (by omega) (by decide) ?_
            refine g_aload_n hZ dX9_valueOf_115 rfl ?_
            refine g_getr hZ fX9_29 rfl rfl dX9_valueOf_116 ?_
            refine g_aload_n hZ dX9_valueOf_119 rfl ?_
            refine g_geti hZ fX9_74 rfl rfl dX9_valueOf_120 q1 ?_
            refine g_aload_n hZ dX9_valueOf_123 rfl ?_
            refine g_getr hZ fX9_45 rfl rfl dX9_valueOf_124 ?_
            refine g_iconst hZ dX9_valueOf_127 ?_
            refine g_iald hZ (0) rfl dX9_valueOf_128 (rfl) (by omega) (by decide) (((he₃ 70 0 rfl).trans w2)) ?_
            refine g_iast hZ (gs.length) rfl dX9_valueOf_129 (rfl) (by omega) (by decide) ?_
            refine g_aload_n hZ dX9_valueOf_130 rfl ?_
            refine g_dup hZ dX9_valueOf_131 rfl ?_
            refine g_geti hZ fX9_74 rfl rfl dX9_valueOf_132 q1 ?_
            refine g_iconst hZ dX9_valueOf_135 ?_
            refine g_iadd hZ dX9_valueOf_136 ?_
            refine g_puti hZ fX9_74 rfl rfl dX9_valueOf_137 ?_
            refine g_aload_n hZ dX9_valueOf_140 rfl ?_
            refine g_getr hZ fX9_45 rfl rfl dX9_valueOf_141 ?_
            refine g_iconst hZ dX9_valueOf_144 ?_
            refine g_iald hZ (0) rfl dX9_valueOf_145 (rfl) (by omega) (by decide) (((he₃ 70 0 rfl).trans w2)) ?_
            refine g_iret hZ dX9_valueOf_146 rfl ⟨he₁₂.tr ((((he₃.mono rfl).up rfl).up rfl).up rfl), rfl, ?_, ?_⟩
            · show mKp _ (kpush kp (C, V))
              rw [← hgs]
              have hl1 : (gs ++ [(C, V)]).length = gs.length + 1 := by simp
              refine ⟨?_, by omega, fun i e hi => ?_, fun e he => ?_⟩
              · rw [upS_eq, hl1]; rfl
              · have hil := (List.getElem?_eq_some_iff.mp hi).1
                by_cases q : i < gs.length
                · rw [List.getElem?_append_left q] at hi
                  obtain ⟨a1, a2⟩ := q3 i e hi
                  constructor
                  · rw [upS_v _ _ (by decide), upS_v _ _ (by decide), upS_j _ _ (by omega)]; exact a1
                  · rw [upS_v _ _ (by decide), upS_j _ _ (by omega), upS_v _ _ (by decide)]; exact a2
                · have : i = gs.length := by omega
                  subst this
                  rw [List.getElem?_append_right (Nat.le_refl _)] at hi
                  simp at hi
                  subst hi
                  constructor
                  · rw [upS_v _ _ (by decide), upS_v _ _ (by decide), upS_eq]
                  · rw [upS_v _ _ (by decide), upS_eq]
              · rcases List.mem_append.mp he with z | z
                · exact q4 e z
                · rw [List.mem_singleton] at z
                  subst z
                  exact ⟨hcl, by show V ≤ 16; omega⟩
            · show S₃ 54 0 = S 54 0 + 0
              rw [he₃ 54 0 rfl, h54]; simp
          obtain ⟨p1, p2, p3, p4⟩ := id hk₂
          refine g_aload_n hZ dX9_valueOf_84 rfl ?_
          refine g_aload_n hZ dX9_valueOf_85 rfl ?_
          refine g_geti hZ fX9_74 rfl rfl dX9_valueOf_86 p1 ?_
          refine g_bipush hZ (z := 40) dX9_valueOf_89 rfl ?_
          refine g_icmp_ne hZ 98 dX9_valueOf_91 rfl (by omega) (fun c2 => ?_) (fun c2 => ?_)
          · refine g_aload_n hZ dX9_valueOf_98 rfl ?_
            refine g_geti hZ fX9_74 rfl rfl dX9_valueOf_99 p1 ?_
            refine g_puti hZ fX9_74 rfl rfl dX9_valueOf_102 ?_
            refine store kp _ _ ?_ (by omega) ⟨upS_eq _ _ _ _, p2, p3, p4⟩ (Eqx.rf.up rfl) rfl
            unfold kpush
            rw [if_neg (by omega)]
          · refine g_iconst hZ dX9_valueOf_94 ?_
            refine g_goto hZ 102 dX9_valueOf_95 rfl ?_
            refine g_puti hZ fX9_74 rfl rfl dX9_valueOf_102 ?_
            refine store [] _ _ ?_ (by simp) ⟨upS_eq _ _ _ _, by simp, fun i e hi => by simp at hi, fun e he => by simp at he⟩ (Eqx.rf.up rfl) rfl
            unfold kpush
            rw [if_pos (by omega)]
      | succ m ih =>
        intro i hi hno
        obtain ⟨e, he⟩ : ∃ e, kp[i]? = some e := ⟨_, List.getElem?_eq_getElem (by omega)⟩
        obtain ⟨e1, e2⟩ := g3 i e he
        obtain ⟨b1, b2⟩ := g4 e (List.mem_of_getElem? he)
        refine g_iload hZ dX9_valueOf_21 rfl ?_
        refine g_aload_n hZ dX9_valueOf_23 rfl ?_
        refine g_geti hZ fX9_74 rfl rfl dX9_valueOf_24 g1 ?_
        refine g_icmp_ge hZ 65 dX9_valueOf_27 rfl (by omega) (fun cX => absurd cX (by omega)) (fun _ => ?_)
        refine g_aload_n hZ dX9_valueOf_30 rfl ?_
        refine g_getr hZ fX9_26 rfl rfl dX9_valueOf_31 ?_
        refine g_iload hZ dX9_valueOf_34 rfl ?_
        refine g_iald hZ (i) rfl dX9_valueOf_36 (rfl) (by omega) (by decide) (e1) ?_
        refine g_iload_n hZ dX9_valueOf_37 rfl ?_
        refine g_icmp_ne hZ 59 dX9_valueOf_38 rfl (by omega) (fun c2 => ?_) (fun c2 => ?_)
        · refine g_iinc hZ dX9_valueOf_59 rfl (by decide) ?_
          refine g_goto hZ 21 dX9_valueOf_62 rfl ?_
          refine ih (i + 1) (by omega) (fun j x hj hx => ?_)
          by_cases q : j = i
          · subst q; rw [he] at hx; cases hx; omega
          · exact hno j x (by omega) hx
        · have hf : kfind kp C = some e.2 := kfind_drop hno he (by omega)
          have ea : askV w n (rg w n (S 61)) (S 61) kp (root : Int) = ((e.2 : Int), kp, 1) := by
            unfold askV
            rw [hK, hC, if_neg c1, hf]
          refine g_aload_n hZ dX9_valueOf_41 rfl ?_
          refine g_dup hZ dX9_valueOf_42 rfl ?_
          refine g_geti hZ fX9_153 rfl rfl dX9_valueOf_43 rfl ?_
          refine g_iconst hZ dX9_valueOf_46 ?_
          refine g_iadd hZ dX9_valueOf_47 ?_
          refine g_puti hZ fX9_153 rfl rfl dX9_valueOf_48 ?_
          refine g_aload_n hZ dX9_valueOf_51 rfl ?_
          refine g_getr hZ fX9_29 rfl rfl dX9_valueOf_52 ?_
          refine g_iload hZ dX9_valueOf_55 rfl ?_
          refine g_iald hZ (i) rfl dX9_valueOf_57 (rfl) (by omega) (by decide) (e2) ?_
          refine g_iret hZ dX9_valueOf_58 rfl ⟨Eqx.rf.up rfl, by rw [ea], by rw [ea]; exact hk.x (Eqx.rf.up (vs := [54]) rfl) rfl rfl rfl, by rw [ea, upS_eq]⟩
    refine g_istore_n hZ dX9_valueOf_17 (by decide) ?_
    refine g_iconst hZ dX9_valueOf_18 ?_
    refine g_istore hZ dX9_valueOf_19 (by decide) ?_
    exact loop kp.length 0 (by omega) (fun j x hj => absurd hj (Nat.not_lt_zero j))
  · have ea : askV w n (rg w n (S 61)) (S 61) kp (root : Int) = (0, kp, 0) := by
      unfold askV
      rw [hK, if_pos c1]
    refine g_iconst hZ dX9_valueOf_10 ?_
    refine g_iret hZ dX9_valueOf_11 rfl ⟨Eqx.rf, by rw [ea], by rw [ea]; exact hk, by rw [ea]; simp⟩
theorem askV_bd {w n : Nat} {r B : Nat → Int} {kp : List (Nat × Nat)} {root : Int} (hn : n ≤ 15) (hk : ∀ e ∈ kp, e.1 < 1073741824 ∧ e.2 ≤ 16) : ((askV w n r B kp root).1 = -1004 ∨ (0 ≤ (askV w n r B kp root).1 ∧ (askV w n r B kp root).1 ≤ 16)) := by
  unfold askV
  split
  · right; simp
  · split
    · rename_i v hv
      right
      have : ∀ (kp : List (Nat × Nat)), (∀ e ∈ kp, e.1 < 1073741824 ∧ e.2 ≤ 16) → kfind kp (cod (alnB r B root) n) = some v → v ≤ 16 := by
        intro kp
        induction kp with
        | nil => intro _ h; cases h
        | cons e kp ih =>
          intro h1 h2
          rw [kfind] at h2
          split at h2
          · cases h2; exact (h1 e List.mem_cons_self).2
          · exact ih (fun x hx => h1 x (List.mem_cons_of_mem _ hx)) h2
      have := this kp hk hv
      show 0 ≤ (v : Int) ∧ (v : Int) ≤ 16
      omega
    · split
      · left; rfl
      · right
        have := GV_b (w := w) (n := n) (alt := false) (p := cod (alnB r B root) n + 1073741824 * ((kindF r B n root).toNat - 1))
        constructor
        · exact Int.natCast_nonneg _
        · show ((GV w n false (cod (alnB r B root) n + 1073741824 * ((kindF r B n root).toNat - 1))).2 : Int) ≤ 16
          omega
/-- value(i): answer, table, hits -/
def aValue (w n : Nat) (r B : Nat → Int) (kp : List (Nat × Nat)) (i : Int) : Int × List (Nat × Nat) × Int := if aLow r n i < 0 then (-1001, kp, 0) else if kindF r B n (aLow r n i) = 3 then (-1002, kp, 0) else askV w n r B kp (aLow r n i)
theorem t_X9_value (E : gE) (S : gS) (w h n : Nat) (hg : mG S w h n) (hB : mBd (S 61) n) (hc : mC3 (S 61) n) (kp : List (Nat × Nat)) (hk : mKp S kp) (i : Int) (ri : R32 i) : Ct E LAY mX9_value [.ref (gad E 27), iV i] S (fun r S' => Eqx [53, 54, 55, 56, 62, 64, 65, 66, 67, 68, 69, 70, 72] S S' ∧ r = some (iV (aValue w n (rg w n (S 61)) (S 61) kp i).1) ∧ mKp S' (aValue w n (rg w n (S 61)) (S 61) kp i).2.1 ∧ S' 54 0 = S 54 0 + (aValue w n (rg w n (S 61)) (S 61) kp i).2.2) := by
  have hn := hg.n15
  refine Ct.intro LAY_ok (by decide +kernel) (Nat.le_of_ble_eq_true rfl) rfl ?_
  intro Z hZ
  refine g_aload_n hZ dX9_value_0 rfl ?_
  refine g_iload_n hZ dX9_value_1 rfl ?_
  refine g_callV hZ (t_X9_lowest E S w h n hg hB i ri) kX9_128 ⟨by decide, by decide⟩ rfl rfl rfl rfl (Nat.le_of_ble_eq_true rfl) dX9_value_2 ?_
  rintro _ S₁ ⟨he₁, hr₁, rfl⟩
  have hg₁ := hg.x he₁ rfl rfl
  have e61 : S₁ 61 = S 61 := funext fun j => he₁ 61 j rfl
  have hB₁ : mBd (S₁ 61) n := by rw [e61]; exact hB
  have hc₁ : mC3 (S₁ 61) n := by rw [e61]; exact hc
  have hk₁ := hk.x he₁ rfl rfl rfl
  have h54 : S₁ 54 0 = S 54 0 := he₁ 54 0 rfl
  have hlow := aLow_bd (r := rg w n (S 61)) (n := n) (i := i)
  generalize hA : aLow (rg w n (S 61)) n i = A at *
  have rA : R32 A := by
    rcases hlow with ⟨q, -⟩ | ⟨k, q, q2, -⟩ <;> omega
  refine g_istore_n hZ dX9_value_5 (by decide) ?_
  refine g_iload_n hZ dX9_value_6 rfl ?_
  refine g_if_ge hZ 14 dX9_value_7 rfl (by omega) (fun c => ?_) (fun c => ?_)
  · obtain ⟨k, rfl, k2, -⟩ := hlow.resolve_left (fun q => by omega)
    refine g_aload_n hZ dX9_value_14 rfl ?_
    refine g_iload_n hZ dX9_value_15 rfl ?_
    refine g_callV hZ (t_X9_kind E S₁ w h n hg₁ hB₁ hr₁ k rA) kX9_131 ⟨by decide, by decide⟩ rfl rfl rfl rfl (Nat.le_of_ble_eq_true rfl) dX9_value_16 ?_
    rintro _ _ ⟨rfl, rfl⟩
    rw [e61]
    have hkb := kindF_bd (r := rg w n (S 61)) (B := S 61) (n := n) (root := (k : Int))
    refine g_iconst hZ dX9_value_19 ?_
    refine g_icmp_ne hZ 29 dX9_value_20 rfl (by omega) (fun c2 => ?_) (fun c2 => ?_)
    · refine g_aload_n hZ dX9_value_29 rfl ?_
      refine g_iload_n hZ dX9_value_30 rfl ?_
      refine g_callV hZ (t_X9_valueOf E S₁ w h n hg₁ hB₁ hc₁ hr₁ kp hk₁ k k2 (by rw [e61]; exact c2)) kX9_164 ⟨by decide, by decide⟩ rfl rfl rfl rfl (Nat.le_of_ble_eq_true rfl) dX9_value_31 ?_
      rintro _ S₂ ⟨he₂, rfl, hk₂, h54₂⟩
      rw [e61] at hk₂ h54₂ ⊢
      have ea : aValue w n (rg w n (S 61)) (S 61) kp i = askV w n (rg w n (S 61)) (S 61) kp k := by unfold aValue; rw [hA, if_neg (by omega), if_neg c2]
      refine g_iret hZ dX9_value_34 rfl ⟨(he₁.mono rfl).tr (he₂.mono rfl), by rw [ea], by rw [ea]; exact hk₂, by rw [ea, h54₂, h54]⟩
    · have ea : aValue w n (rg w n (S 61)) (S 61) kp i = (-1002, kp, 0) := by unfold aValue; rw [hA, if_neg (by omega), if_pos c2]
      refine g_sipush hZ (z := (-1002)) dX9_value_23 rfl ?_
      refine g_goto hZ 34 dX9_value_26 rfl ?_
      refine g_iret hZ dX9_value_34 rfl ⟨he₁.mono rfl, by rw [ea], by rw [ea]; exact hk₁, by rw [ea, h54]; simp⟩
  · have ea : aValue w n (rg w n (S 61)) (S 61) kp i = (-1001, kp, 0) := by unfold aValue; rw [hA, if_pos (by omega)]
    refine g_sipush hZ (z := (-1001)) dX9_value_10 rfl ?_
    refine g_iret hZ dX9_value_13 rfl ⟨he₁.mono rfl, by rw [ea], by rw [ea]; exact hk₁, by rw [ea, h54]; simp⟩
def leadL (w n : Nat) (r B : Nat → Int) : List Nat → Int → List (Nat × Nat) → Int → Int × List (Nat × Nat) × Int
  | [], sum, kp, hh => (sum, kp, hh)
  | k :: rs, sum, kp, hh => if (askV w n r B kp k).1 < 0 then (-1004, (askV w n r B kp k).2.1, hh + (askV w n r B kp k).2.2) else leadL w n r B rs (sum + (if kindF r B n k = 1 then (askV w n r B kp k).1 else -(askV w n r B kp k).1)) (askV w n r B kp k).2.1 (hh + (askV w n r B kp k).2.2)
def aLead (w n : Nat) (r B : Nat → Int) (kp : List (Nat × Nat)) : Int × List (Nat × Nat) × Int := if (rts r n).any (fun k => decide (kindF r B n k = 3)) = true then (-1002, kp, 0) else leadL w n r B (rts r n) 0 kp 0
theorem t_X9_lead (E : gE) (S : gS) (w h n : Nat) (hg : mG S w h n) (hB : mBd (S 61) n) (hc : mC3 (S 61) n) (kp : List (Nat × Nat)) (hk : mKp S kp) : Ct E LAY mX9_lead [.ref (gad E 27)] S (fun r S' => Eqx [53, 54, 55, 56, 62, 64, 65, 66, 67, 68, 69, 70, 72] S S' ∧ r = some (iV (aLead w n (rg w n (S 61)) (S 61) kp).1) ∧ mKp S' (aLead w n (rg w n (S 61)) (S 61) kp).2.1 ∧ S' 54 0 = S 54 0 + (aLead w n (rg w n (S 61)) (S 61) kp).2.2) := by
  have hn := hg.n15
  refine Ct.intro LAY_ok (by decide +kernel) (Nat.le_of_ble_eq_true rfl) rfl ?_
  intro Z hZ
  refine g_aload_n hZ dX9_lead_0 rfl ?_
  refine g_callV hZ (t_X9_parts E S w h n hg hB) kX9_122 ⟨by decide, by decide⟩ rfl rfl rfl rfl (Nat.le_of_ble_eq_true rfl) dX9_lead_1 ?_
  rintro _ S₁ ⟨rfl, he₁, hrr⟩
  have hg₁ := hg.x he₁ rfl rfl
  have e61 : S₁ 61 = S 61 := funext fun j => he₁ 61 j rfl
  have hr₁ : mRg S₁ w n := fun f hf => by rw [e61]; exact hrr f hf
  have hB₁ : mBd (S₁ 61) n := by rw [e61]; exact hB
  have hk₁ := hk.x he₁ rfl rfl rfl
  have h54 : S₁ 54 0 = S 54 0 := he₁ 54 0 rfl
  generalize hRR : rg w n (S 61) = RR at *
  have second : (∀ k ∈ rts RR n, kindF RR (S 61) n k ≠ 3) → aLead w n RR (S 61) kp = leadL w n RR (S 61) (rts RR n) 0 kp 0 → ∀ (m k : Nat) (sum : Int) (kq : List (Nat × Nat)) (hh : Int) (S₂ : gS) (L9 : List (Nat × Value)), k + m = n → Eqx [53, 54, 55, 56, 62, 64, 65, 66, 67, 68, 69, 70, 72] S S₂ → mRg S₂ w n → mKp S₂ kq → S₂ 54 0 = S 54 0 + hh → leadL w n RR (S 61) ((List.range' k m).filter (rootB RR)) sum kq hh = leadL w n RR (S 61) (rts RR n) 0 kp 0 → lkeep L9 [0, 1, 2] = [(0, .ref (gad E 27)), (1, iV sum), (2, iV (k : Int))] → Z S₂ L9 47 [] := by
    intro hno3 hA m
    rw [hA] at hZ
    induction m with
    | zero =>
      intro k sum kq hh S₂ L9 hkm he₂ hr₂ hk₂ h54₂ hres hL9
      have hg₂ := hg.x he₂ rfl rfl
      refine g_keep hZ [0, 1, 2] hL9 ?_
      refine g_iload_n hZ dX9_lead_47 rfl ?_
      refine g_aload_n hZ dX9_lead_48 rfl ?_
      refine g_callV hZ (t_X9_size E S₂ w h n hg₂) kX9_60 ⟨by decide, by decide⟩ rfl rfl rfl rfl (Nat.le_of_ble_eq_true rfl) dX9_lead_49 ?_
      rintro _ _ ⟨rfl, rfl⟩
      refine g_icmp_ge hZ 111 dX9_lead_52 rfl (by omega) (fun _ => ?_) (fun cX => absurd (by omega) cX)
      have hres2 : (sum, kq, hh) = leadL w n RR (S 61) (rts RR n) 0 kp 0 := hres
      rw [← hres2] at hZ
      refine g_iload_n hZ dX9_lead_111 rfl ?_
      refine g_iret hZ dX9_lead_112 rfl ⟨he₂, rfl, hk₂, h54₂⟩
    | succ m ih =>
      intro k sum kq hh S₂ L9 hkm he₂ hr₂ hk₂ h54₂ hres hL9
      have hg₂ := hg.x he₂ rfl rfl
      have e61₂ : S₂ 61 = S 61 := funext fun j => he₂ 61 j rfl
      have hB₂ : mBd (S₂ 61) n := by rw [e61₂]; exact hB
      have hc₂ : mC3 (S₂ 61) n := by rw [e61₂]; exact hc
      have hrk : S₂ 72 k = RR k := by rw [hr₂ k (by omega), e61₂, hRR]
      have rb := rg_bd (w := w) (B := S 61) (show k < n by omega)
      rw [hRR] at rb
      rw [List.range'_succ] at hres
      refine g_keep hZ [0, 1, 2] hL9 ?_
      refine g_iload_n hZ dX9_lead_47 rfl ?_
      refine g_aload_n hZ dX9_lead_48 rfl ?_
      refine g_callV hZ (t_X9_size E S₂ w h n hg₂) kX9_60 ⟨by decide, by decide⟩ rfl rfl rfl rfl (Nat.le_of_ble_eq_true rfl) dX9_lead_49 ?_
      rintro _ _ ⟨rfl, rfl⟩
      refine g_icmp_ge hZ 111 dX9_lead_52 rfl (by omega) (fun cX => absurd cX (by omega)) (fun _ => ?_)
      have step : ∀ (sum2 : Int) (kq2 : List (Nat × Nat)) (hh2 : Int) (S₃ : gS) (L9 : List (Nat × Value)), Eqx [53, 54, 55, 56, 62, 64, 65, 66, 67, 68, 69, 70, 72] S S₃ → mRg S₃ w n → mKp S₃ kq2 → S₃ 54 0 = S 54 0 + hh2 → leadL w n RR (S 61) ((List.range' (k + 1) m).filter (rootB RR)) sum2 kq2 hh2 = leadL w n RR (S 61) (rts RR n) 0 kp 0 → lkeep L9 [0, 1, 2] = [(0, .ref (gad E 27)), (1, iV sum2), (2, iV (k : Int))] → Z S₃ L9 105 [] := by
        intro sum2 kq2 hh2 S₃ L9 he₃ hr₃ hk₃ h54₃ hres3 hL9
        refine g_keep hZ [0, 1, 2] hL9 ?_
        refine g_iinc hZ dX9_lead_105 rfl (by decide) ?_
        refine g_goto hZ 47 dX9_lead_108 rfl ?_
        exact ih (k + 1) sum2 kq2 hh2 S₃ _ (by omega) he₃ hr₃ hk₃ h54₃ hres3 rfl
      refine g_aload_n hZ dX9_lead_55 rfl ?_
      refine g_getr hZ fX9_51 rfl rfl dX9_lead_56 ?_
      refine g_iload_n hZ dX9_lead_59 rfl ?_
      refine g_iald hZ (k) rfl dX9_lead_60 (rfl) (by omega) (by decide) (hrk) ?_
      refine g_iload_n hZ dX9_lead_61 rfl ?_
      refine g_icmp_ne hZ 105 dX9_lead_62 rfl (by omega) (fun c1 => ?_) (fun c1 => ?_)
      · have hnr : rootB RR k = false := by simpa [rootB] using c1
        rw [List.filter_cons_of_neg (by rw [hnr]; simp)] at hres
        exact step sum kq hh S₂ _ he₂ hr₂ hk₂ h54₂ hres rfl
      · have hyr : rootB RR k = true := by simpa [rootB] using c1
        rw [List.filter_cons_of_pos hyr, leadL] at hres
        have hkb := kindF_bd (r := RR) (B := S 61) (n := n) (root := (k : Int))
        have hk3 : kindF RR (S 61) n k ≠ 3 := hno3 k (List.mem_filter.mpr ⟨List.mem_range.mpr (by omega), hyr⟩)
        refine g_aload_n hZ dX9_lead_65 rfl ?_
        refine g_iload_n hZ dX9_lead_66 rfl ?_
        refine g_callV hZ (t_X9_kind E S₂ w h n hg₂ hB₂ hr₂ k (by omega)) kX9_131 ⟨by decide, by decide⟩ rfl rfl rfl rfl (Nat.le_of_ble_eq_true rfl) dX9_lead_67 ?_
        rintro _ _ ⟨rfl, rfl⟩
        rw [e61₂, hRR]
        refine g_if_le hZ 105 dX9_lead_70 rfl (by omega) (fun c2 => ?_) (fun c2 => ?_)
        · have h0 : kindF RR (S 61) n k = 0 := by omega
          have ea : askV w n RR (S 61) kq k = (0, kq, 0) := by unfold askV; rw [if_pos h0]
          rw [ea, if_neg (show ¬ ((0 : Int), kq, (0 : Int)).1 < 0 by simp), if_neg (by omega)] at hres
          refine step sum kq hh S₂ _ he₂ hr₂ hk₂ h54₂ ?_ rfl
          rw [← hres]
          simp
        · refine g_aload_n hZ dX9_lead_73 rfl ?_
          refine g_iload_n hZ dX9_lead_74 rfl ?_
          refine g_callV hZ (t_X9_valueOf E S₂ w h n hg₂ hB₂ hc₂ hr₂ kq hk₂ k (by omega) (by rw [e61₂, hRR]; exact hk3)) kX9_164 ⟨by decide, by decide⟩ rfl rfl rfl rfl (Nat.le_of_ble_eq_true rfl) dX9_lead_75 ?_
          rintro _ S₃ ⟨he₃, rfl, hk₃, h54₃⟩
          rw [e61₂, hRR] at hk₃ h54₃ ⊢
          have hb := askV_bd (w := w) (n := n) (r := RR) (B := S 61) (kp := kq) (root := (k : Int)) hn hk₂.2.2.2
          have he₂₃ : Eqx [53, 54, 55, 56, 62, 64, 65, 66, 67, 68, 69, 70, 72] S S₃ := he₂.tr (he₃.mono rfl)
          have hr₃ := hr₂.x he₃ rfl rfl
          generalize askV w n RR (S 61) kq k = av at *
          obtain ⟨v, kq2, hv⟩ := av
          dsimp only at hb hk₃ h54₃ hres ⊢
          refine g_istore_n hZ dX9_lead_78 (by decide) ?_
          refine g_iload_n hZ dX9_lead_79 rfl ?_
          refine g_if_ge hZ 87 dX9_lead_80 rfl (by omega) (fun c3 => ?_) (fun c3 => ?_)
          · rw [if_neg (by omega)] at hres
            have hg₃ := hg.x he₂₃ rfl rfl
            have e61₃ : S₃ 61 = S 61 := funext fun j => he₂₃ 61 j rfl
            refine g_iload_n hZ dX9_lead_87 rfl ?_
            refine g_aload_n hZ dX9_lead_88 rfl ?_
            refine g_iload_n hZ dX9_lead_89 rfl ?_
            refine g_callV hZ (t_X9_kind E S₃ w h n hg₃ (by rw [e61₃]; exact hB) hr₃ k (by omega)) kX9_131 ⟨by decide, by decide⟩ rfl rfl rfl rfl (Nat.le_of_ble_eq_true rfl) dX9_lead_90 ?_
            rintro _ _ ⟨rfl, rfl⟩
            rw [e61₃, hRR]
            refine g_iconst hZ dX9_lead_93 ?_
            refine g_icmp_ne hZ 101 dX9_lead_94 rfl (by omega) (fun c4 => ?_) (fun c4 => ?_)
            · rw [if_neg c4] at hres
              refine g_iload_n hZ dX9_lead_101 rfl ?_
              refine g_ineg hZ dX9_lead_102 ?_
              refine g_iadd hZ dX9_lead_103 ?_
              refine g_istore_n hZ dX9_lead_104 (by decide) ?_
              exact step _ kq2 (hh + hv) S₃ _ he₂₃ hr₃ hk₃ (by rw [h54₃, h54₂]; omega) hres rfl
            · rw [if_pos c4] at hres
              refine g_iload_n hZ dX9_lead_97 rfl ?_
              refine g_goto hZ 103 dX9_lead_98 rfl ?_
              refine g_iadd hZ dX9_lead_103 ?_
              refine g_istore_n hZ dX9_lead_104 (by decide) ?_
              exact step _ kq2 (hh + hv) S₃ _ he₂₃ hr₃ hk₃ (by rw [h54₃, h54₂]; omega) hres rfl
          · rw [if_pos (by omega)] at hres
            rw [← hres] at hZ
            refine g_sipush hZ (z := (-1004)) dX9_lead_83 rfl ?_
            refine g_iret hZ dX9_lead_86 rfl ⟨he₂₃, rfl, hk₃, by rw [h54₃, h54₂]; show _ = S 54 0 + (hh + hv); omega⟩
  have first : ∀ (m k : Nat), k + m = n → (∀ j, j < k → rootB RR j = true → kindF RR (S 61) n j ≠ 3) → Z S₁ [(0, .ref (gad E 27)), (1, iV (k : Int))] 6 [] := by
    intro m
    induction m with
    | zero =>
      intro k hkm hno
      have hno3 : ∀ k ∈ rts RR n, kindF RR (S 61) n k ≠ 3 := fun k hk => by
        obtain ⟨a1, a2⟩ := List.mem_filter.mp hk
        exact hno k (by have := List.mem_range.mp a1; omega) a2
      have hA : aLead w n RR (S 61) kp = leadL w n RR (S 61) (rts RR n) 0 kp 0 := by
        unfold aLead
        rw [if_neg]
        intro q
        obtain ⟨k, h1, h2⟩ := List.any_eq_true.mp q
        exact hno3 k h1 (by simpa using h2)
      refine g_iload_n hZ dX9_lead_6 rfl ?_
      refine g_aload_n hZ dX9_lead_7 rfl ?_
      refine g_callV hZ (t_X9_size E S₁ w h n hg₁) kX9_60 ⟨by decide, by decide⟩ rfl rfl rfl rfl (Nat.le_of_ble_eq_true rfl) dX9_lead_8 ?_
      rintro _ _ ⟨rfl, rfl⟩
      refine g_icmp_ge hZ 43 dX9_lead_11 rfl (by omega) (fun _ => ?_) (fun cX => absurd (by omega) cX)
      refine g_iconst hZ dX9_lead_43 ?_
      refine g_istore_n hZ dX9_lead_44 (by decide) ?_
      refine g_iconst hZ dX9_lead_45 ?_
      refine g_istore_n hZ dX9_lead_46 (by decide) ?_
      refine second hno3 hA n 0 0 kp 0 S₁ _ (by omega) (he₁.mono rfl) hr₁ hk₁ (by rw [h54]; simp) ?_ rfl
      rw [← List.range_eq_range']; rfl
    | succ m ih =>
      intro k hkm hno
      have hrk : S₁ 72 k = RR k := by rw [hrr k (by omega)]
      have rb := rg_bd (w := w) (B := S 61) (show k < n by omega)
      rw [hRR] at rb
      have next : (rootB RR k = true → kindF RR (S 61) n k ≠ 3) → Z S₁ [(0, .ref (gad E 27)), (1, iV (k : Int))] 37 [] := by
        intro hk3
        refine g_iinc hZ dX9_lead_37 rfl (by decide) ?_
        refine g_goto hZ 6 dX9_lead_40 rfl ?_
        refine ih (k + 1) (by omega) (fun j hj hr => ?_)
        by_cases q : j = k
        · subst q; exact hk3 hr
        · exact hno j (by omega) hr
      refine g_iload_n hZ dX9_lead_6 rfl ?_
      refine g_aload_n hZ dX9_lead_7 rfl ?_
      refine g_callV hZ (t_X9_size E S₁ w h n hg₁) kX9_60 ⟨by decide, by decide⟩ rfl rfl rfl rfl (Nat.le_of_ble_eq_true rfl) dX9_lead_8 ?_
      rintro _ _ ⟨rfl, rfl⟩
      refine g_icmp_ge hZ 43 dX9_lead_11 rfl (by omega) (fun cX => absurd cX (by omega)) (fun _ => ?_)
      refine g_aload_n hZ dX9_lead_14 rfl ?_
      refine g_getr hZ fX9_51 rfl rfl dX9_lead_15 ?_
      refine g_iload_n hZ dX9_lead_18 rfl ?_
      refine g_iald hZ (k) rfl dX9_lead_19 (rfl) (by omega) (by decide) (hrk) ?_
      refine g_iload_n hZ dX9_lead_20 rfl ?_
      refine g_icmp_ne hZ 37 dX9_lead_21 rfl (by omega) (fun c1 => ?_) (fun c1 => ?_)
      · exact next (fun q => absurd (by simpa [rootB] using q) c1)
      · have hkb := kindF_bd (r := RR) (B := S 61) (n := n) (root := (k : Int))
        refine g_aload_n hZ dX9_lead_24 rfl ?_
        refine g_iload_n hZ dX9_lead_25 rfl ?_
        refine g_callV hZ (t_X9_kind E S₁ w h n hg₁ hB₁ hr₁ k (by omega)) kX9_131 ⟨by decide, by decide⟩ rfl rfl rfl rfl (Nat.le_of_ble_eq_true rfl) dX9_lead_26 ?_
        rintro _ _ ⟨rfl, rfl⟩
        rw [e61, hRR]
        refine g_iconst hZ dX9_lead_29 ?_
        refine g_icmp_ne hZ 37 dX9_lead_30 rfl (by omega) (fun c2 => ?_) (fun c2 => ?_)
        · exact next (fun _ => c2)
        · have hA : aLead w n RR (S 61) kp = (-1002, kp, 0) := by
            unfold aLead
            rw [if_pos]
            exact List.any_eq_true.mpr ⟨k, List.mem_filter.mpr ⟨List.mem_range.mpr (by omega), by simpa [rootB] using c1⟩, by simpa using c2⟩
          refine g_sipush hZ (z := (-1002)) dX9_lead_33 rfl ?_
          refine g_iret hZ dX9_lead_36 rfl ⟨he₁.mono rfl, by rw [hA], by rw [hA]; exact hk₁, by rw [hA, h54]; simp⟩
  refine g_iconst hZ dX9_lead_4 ?_
  refine g_istore_n hZ dX9_lead_5 (by decide) ?_
  exact first n 0 (by omega) (fun j hj => absurd hj (Nat.not_lt_zero j))
theorem t_X9_kept (E : gE) (S : gS) (v : Int) (hv : R32 v) : Ct E LAY mX9_kept [.ref (gad E 27), iV v] S (fun r S' => S = S' ∧ r = some (iV (if 0 ≤ v ∧ v ≤ 1 then (if v = 0 then S 53 0 else S 54 0) else -1001))) := by
  refine Ct.intro LAY_ok (by decide +kernel) (Nat.le_of_ble_eq_true rfl) rfl ?_
  intro Z hZ
  refine g_iload_n hZ dX9_kept_0 rfl ?_
  refine g_iconst hZ dX9_kept_1 ?_
  refine g_iconst hZ dX9_kept_2 ?_
  refine g_callS hZ (t_X9_in E S v 0 1 hv (by omega) (by omega)) kX9_64 ⟨by decide, by decide⟩ rfl rfl (Nat.le_of_ble_eq_true rfl) dX9_kept_3 ?_
  rintro _ _ ⟨rfl, z1, rfl, hz1⟩
  rcases hz1 with ⟨rfl, hz1⟩ | ⟨rfl, hz1⟩
  · refine g_if_eq hZ 27 dX9_kept_6 rfl (by omega) (fun cX => absurd cX (by omega)) (fun _ => ?_)
    refine g_iload_n hZ dX9_kept_9 rfl ?_
    refine g_if_ne hZ 20 dX9_kept_10 rfl (by omega) (fun c => ?_) (fun c => ?_)
    · refine g_aload_n hZ dX9_kept_20 rfl ?_
      refine g_geti hZ fX9_153 rfl rfl dX9_kept_21 rfl ?_
      refine g_goto hZ 30 dX9_kept_24 rfl ?_
      refine g_iret hZ dX9_kept_30 rfl ⟨rfl, by rw [if_pos hz1, if_neg c]⟩
    · refine g_aload_n hZ dX9_kept_13 rfl ?_
      refine g_geti hZ fX9_74 rfl rfl dX9_kept_14 rfl ?_
      refine g_goto hZ 30 dX9_kept_17 rfl ?_
      refine g_iret hZ dX9_kept_30 rfl ⟨rfl, by rw [if_pos hz1, if_pos c]⟩
  · refine g_if_eq hZ 27 dX9_kept_6 rfl (by omega) (fun _ => ?_) (fun cX => absurd (by omega) cX)
    refine g_sipush hZ (z := (-1001)) dX9_kept_27 rfl ?_
    refine g_iret hZ dX9_kept_30 rfl ⟨rfl, by rw [if_neg hz1]⟩
