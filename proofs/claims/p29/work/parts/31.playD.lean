/-! the class: Play: solve, findMostMoves -/
def snF (q : Int) : Int := if q < 0 then 1000 else q
theorem sn_qk {qk : Int} {gr : Nat} (h : gr ≤ 16) : (if (gr : Int) + 1 < snF qk then (gr : Int) + 1 else snF qk) = snF (qkF true qk (false, gr)) := by
  have e : qkF true qk (false, gr) = if qk < 0 ∨ (gr : Int) + 1 < qk then (gr : Int) + 1 else qk := by
    unfold qkF
    by_cases c : qk < 0 ∨ (gr : Int) + 1 < qk
    · rw [if_pos c, if_pos ⟨rfl, rfl, c⟩]
    · rw [if_neg c, if_neg (fun h => c h.2.2)]
  rw [e]
  by_cases c : qk < 0
  · have e1 : snF qk = 1000 := if_pos c
    have e2 : snF ((gr : Int) + 1) = (gr : Int) + 1 := if_neg (by omega)
    rw [if_pos (Or.inl c), e1, e2, if_pos (by omega)]
  · have e1 : snF qk = qk := if_neg c
    have e2 : snF ((gr : Int) + 1) = (gr : Int) + 1 := if_neg (by omega)
    by_cases c2 : (gr : Int) + 1 < qk
    · rw [if_pos (show qk < 0 ∨ (gr : Int) + 1 < qk from Or.inr c2), e1, e2, if_pos c2]
    · rw [if_neg (show ¬ (qk < 0 ∨ (gr : Int) + 1 < qk) by omega), e1, if_neg c2]
theorem qk_f (vs : List (Bool × Nat)) : ∀ q, vs.foldl (qkF false) q = q := by
  induction vs with
  | nil => intro q; rfl
  | cons v vs ih =>
    intro q
    rw [List.foldl_cons, ih]
    unfold qkF
    rw [if_neg (fun h => by cases h.1)]
theorem t_X4_solveL (E : gE) (S : gS) (w h n : Nat) (hg : xG S w h n) (p0 : Nat) (L : List Nat) (hPS : PS S 12 13 16 (L.map (xP n))) (hOK : bOK (scP w n true) (qP n true p0) L) (h0 : L[0]? = some p0) (h1 : S 10 0 = (sdP p0 : Int)) (h2 : S 11 0 = ((3 - sdP p0 : Nat) : Int)) : Ct E LAY mX4_solve [.ref (gad E 5)] S (fun r S' => r = none ∧ Eqx [6, 7, 14, 15] S S' ∧ ∀ (i p : Nat), L[i]? = some p → S' 14 i = b2i (GV w n true p).1 ∧ S' 15 i = ((GV w n true p).2 : Int)) := by
  have hn := hg.n15
  have hO := hg.o
  obtain ⟨k1, k2, k3, k4⟩ := hOK
  refine Ct.intro LAY_ok (by decide +kernel) (Nat.le_of_ble_eq_true rfl) rfl ?_
  intro Z hZ
  have outer : ∀ (m : Nat) (S₁ : gS) (L9 : List (Nat × Value)), m ≤ L.length → Eqx [6, 7, 14, 15] S S₁ → (∀ (i p : Nat), m ≤ i → L[i]? = some p → S₁ 14 i = b2i (GV w n true p).1 ∧ S₁ 15 i = ((GV w n true p).2 : Int)) → lkeep L9 [0, 1] = [(0, .ref (gad E 5)), (1, iV ((m : Int) - 1))] → Z S₁ L9 7 [] := by
    intro m
    induction m with
    | zero =>
      intro S₁ L9 hm he hv hL9
      refine g_keep hZ [0, 1] hL9 ?_
      refine g_iload_n hZ dX4_solve_7 rfl ?_
      refine g_if_lt hZ 175 dX4_solve_8 rfl (by omega) (fun _ => ?_) (fun cX => absurd (by omega) cX)
      refine g_vret hZ dX4_solve_175 rfl ⟨rfl, he, fun i p hi => hv i p (Nat.zero_le i) hi⟩
    | succ k ihm =>
      intro S₁ L9 hm he hv hL9
      have hPS₁ := hPS.x he rfl rfl rfl
      have hg₁ := hg.x he rfl
      have ek : ((k + 1 : Nat) : Int) - 1 = (k : Int) := by omega
      rw [ek] at hL9
      refine g_keep hZ [0, 1] hL9 ?_
      obtain ⟨p, hp⟩ : ∃ p, L[k]? = some p := ⟨_, List.getElem?_eq_getElem (by omega)⟩
      have hq := k3 p (List.mem_of_getElem? hp)
      have hpv := hq.1
      have hsd := sdP_12 p
      have hml := scP_len hO hpv
      have hfk : S₁ 13 k = (xP n p : Int) := hPS₁.2.1 k (xP n p) (by rw [List.getElem?_map, hp]; rfl)
      have hf0 : S₁ 13 0 = (xP n p0 : Int) := hPS₁.2.1 0 (xP n p0) (by rw [List.getElem?_map, h0]; rfl)
      refine g_iload_n hZ dX4_solve_7 rfl ?_
      refine g_if_lt hZ 175 dX4_solve_8 rfl (by omega) (fun cX => absurd cX (by omega)) (fun _ => ?_)
      refine g_aload_n hZ dX4_solve_11 rfl ?_
      refine g_iload_n hZ dX4_solve_12 rfl ?_
      refine g_callV hZ (t_X4_sideAtL E S₁ n hn k (xP n p0) (xP n p) (bdP p0) (bdP p) (xP_ok n p0) (xP_ok n p) hf0 hfk (by omega) hq.2.1 (sdP p0 : Int) ((3 - sdP p0 : Nat) : Int) ((he 10 0 rfl).trans h1) ((he 11 0 rfl).trans h2)) kX4_44 ⟨by decide, by decide⟩ rfl rfl rfl rfl (Nat.le_of_ble_eq_true rfl) dX4_solve_13 ?_
      rintro _ _ ⟨rfl, rfl⟩
      have esd : (if (cntZ (bdP p) 3 n - cntZ (bdP p0) 3 n) % 2 = 0 then (sdP p0 : Int) else ((3 - sdP p0 : Nat) : Int)) = (sdP p : Int) := by
        rw [hq.2.2.1]
        unfold sdF bcP
        split <;> rfl
      rw [esd]
      refine g_istore_n hZ dX4_solve_16 (by decide) ?_
      refine g_sipush hZ (z := 1000) dX4_solve_17 rfl ?_
      refine g_istore_n hZ dX4_solve_20 (by decide) ?_
      refine g_iconst hZ dX4_solve_21 ?_
      refine g_istore hZ dX4_solve_22 (by decide) ?_
      refine g_aload_n hZ dX4_solve_24 rfl ?_
      refine g_getr hZ fX4_26 rfl rfl dX4_solve_25 ?_
      refine g_aload_n hZ dX4_solve_28 rfl ?_
      refine g_getr hZ fX4_9 rfl rfl dX4_solve_29 ?_
      refine g_iload_n hZ dX4_solve_32 rfl ?_
      refine g_lald hZ (k) rfl dX4_solve_33 (rfl) (by omega) (by decide) (hfk) ?_
      refine g_iload_n hZ dX4_solve_34 rfl ?_
      refine g_callV hZ (t_X3_fill E S₁ w h n hg₁ (xP n p) (bdP p) (xP_ok n p) (bdP_bd p n) (sdP p) (by omega) (hpv.2.s hsd)) kX4_48 ⟨by decide, by decide⟩ rfl rfl rfl rfl (Nat.le_of_ble_eq_true rfl) dX4_solve_35 ?_
      rintro _ S₂ ⟨rfl, he₂, hx₂⟩
      have he₃ : Eqx [6, 7, 14, 15] S S₂ := he.tr (he₂.mono rfl)
      have hPS₂ := hPS₁.x he₂ rfl rfl rfl
      have hfk₂ : S₂ 13 k = (xP n p : Int) := (he₂ 13 k rfl).trans hfk
      have hvv : ∀ (i x : Nat), k + 1 ≤ i → L[i]? = some x → S₂ 14 i = b2i (GV w n true x).1 ∧ S₂ 15 i = ((GV w n true x).2 : Int) := fun i x hi hx => by
        obtain ⟨a1, a2⟩ := hv i x hi hx
        exact ⟨(he₂ 14 i rfl).trans a1, (he₂ 15 i rfl).trans a2⟩
      have hvb : ∀ v ∈ (scP w n true p).map (GV w n true), v.2 ≤ n + 1 := fun v hv => by
        obtain ⟨c, -, rfl⟩ := List.mem_map.mp hv
        exact GV_b
      have hvl : ((scP w n true p).map (GV w n true)).length = (mvs w n (bdP p) (sdP p : Int)).length := by unfold scP; simp
      have heq := GV_eq hO true p
      have inner : ∀ (m2 j : Nat) (L9 : List (Nat × Value)), j + m2 = (mvs w n (bdP p) (sdP p : Int)).length → lkeep L9 [0, 1, 2, 3, 4, 5] = [(0, .ref (gad E 5)), (1, iV (k : Int)), (2, iV (sdP p : Int)), (3, iV (snF ((((scP w n true p).map (GV w n true)).take j).foldl (qkF true) (-1)))), (4, iV ((((scP w n true p).map (GV w n true)).take j).foldl frF 0 : Nat)), (5, iV (j : Int))] → Z S₂ L9 41 [] := by
        intro m2
        induction m2 with
        | zero =>
          intro j L9 hj hL9
          rw [List.take_of_length_le (by omega)] at hL9
          have bq := qk_b (alt := true) _ (-1) hvb (by omega) (by omega)
          have bf := fr_b _ 0 hvb (by omega)
          refine g_keep hZ [0, 1, 2, 3, 4, 5] hL9 ?_
          have gofin : ∀ (S₄ : gS) (L9 : List (Nat × Value)), Eqx [14, 15] S₂ S₄ → (∀ i, i ≠ k → S₄ 14 i = S₂ 14 i ∧ S₄ 15 i = S₂ 15 i) → S₄ 14 k = b2i (GV w n true p).1 → S₄ 15 k = ((GV w n true p).2 : Int) → lkeep L9 [0, 1] = [(0, .ref (gad E 5)), (1, iV (k : Int))] → Z S₄ L9 169 [] := by
            intro S₄ L9 he₆ hne hw1 hf1 hL9
            refine g_keep hZ [0, 1] hL9 ?_
            refine g_iinc hZ dX4_solve_169 rfl (by decide) ?_
            refine g_goto hZ 7 dX4_solve_172 rfl ?_
            refine ihm S₄ _ (by omega) (he₃.tr (he₆.mono rfl)) (fun i x hi hx => ?_) rfl
            by_cases e : i = k
            · subst e
              rw [hp] at hx
              cases hx
              exact ⟨hw1, hf1⟩
            · rw [(hne i e).1, (hne i e).2]
              exact hvv i x (by omega) hx
          generalize hq : ((scP w n true p).map (GV w n true)).foldl (qkF true) (-1) = qk at *
          generalize hf : ((scP w n true p).map (GV w n true)).foldl frF 0 = fr at *
          have hgv : GV w n true p = if 0 ≤ qk then (true, qk.toNat) else (false, fr) := by rw [heq]; unfold gvl; rw [hq, hf]
          refine g_iload hZ dX4_solve_41 rfl ?_
          refine g_aload_n hZ dX4_solve_43 rfl ?_
          refine g_getr hZ fX4_26 rfl rfl dX4_solve_44 ?_
          refine g_geti hZ fX4_54 rfl rfl dX4_solve_47 hx₂.1 ?_
          refine g_icmp_ge hZ 130 dX4_solve_50 rfl (by omega) (fun _ => ?_) (fun cX => absurd (by omega) cX)
          refine g_aload_n hZ dX4_solve_130 rfl ?_
          refine g_getr hZ fX4_15 rfl rfl dX4_solve_131 ?_
          refine g_iload_n hZ dX4_solve_134 rfl ?_
          refine g_iload_n hZ dX4_solve_135 rfl ?_
          refine g_sipush hZ (z := 1000) dX4_solve_136 rfl ?_
          by_cases c : 0 ≤ qk
          · rw [if_pos c] at hgv
            have es : snF qk = qk := by unfold snF; rw [if_neg (by omega)]
            rw [es]
            refine g_icmp_eq hZ 146 dX4_solve_139 rfl (by omega) (fun cX => absurd cX (by omega)) (fun _ => ?_)
            refine g_iconst hZ dX4_solve_142 ?_
            refine g_goto hZ 147 dX4_solve_143 rfl ?_
            refine g_zast hZ (k) rfl dX4_solve_147 (rfl) (by omega) (by decide) (rfl) ?_
            refine g_aload_n hZ dX4_solve_148 rfl ?_
            refine g_getr hZ fX4_19 rfl rfl dX4_solve_149 ?_
            refine g_iload_n hZ dX4_solve_152 rfl ?_
            refine g_aload_n hZ dX4_solve_153 rfl ?_
            refine g_getr hZ fX4_15 rfl rfl dX4_solve_154 ?_
            refine g_iload_n hZ dX4_solve_157 rfl ?_
            refine g_zald hZ (k) rfl dX4_solve_158 (rfl) (by omega) (by decide) ((upS_eq _ _ _ _)) ?_
            refine g_if_eq hZ 166 dX4_solve_159 rfl (by omega) (fun cX => absurd cX (by omega)) (fun _ => ?_)
            refine g_iload_n hZ dX4_solve_162 rfl ?_
            refine g_goto hZ 168 dX4_solve_163 rfl ?_
            refine g_iast hZ (k) rfl dX4_solve_168 (rfl) (by omega) (by decide) ?_
            refine gofin _ _ ((Eqx.rf.up rfl).up rfl) (fun i hi => ⟨?_, ?_⟩) ?_ ?_ rfl
            · rw [upS_v _ _ (by decide), upS_j _ _ hi]
            · rw [upS_j _ _ hi, upS_v _ _ (by decide)]
            · rw [upS_v _ _ (by decide), upS_eq, hgv]; rfl
            · rw [upS_eq, hgv]; show qk = (qk.toNat : Int); omega
          · rw [if_neg c] at hgv
            have es : snF qk = 1000 := by unfold snF; rw [if_pos (by omega)]
            rw [es]
            refine g_icmp_eq hZ 146 dX4_solve_139 rfl (by omega) (fun _ => ?_) (fun cX => absurd (by omega) cX)
            refine g_iconst hZ dX4_solve_146 ?_
            refine g_zast hZ (k) rfl dX4_solve_147 (rfl) (by omega) (by decide) (rfl) ?_
            refine g_aload_n hZ dX4_solve_148 rfl ?_
            refine g_getr hZ fX4_19 rfl rfl dX4_solve_149 ?_
            refine g_iload_n hZ dX4_solve_152 rfl ?_
            refine g_aload_n hZ dX4_solve_153 rfl ?_
            refine g_getr hZ fX4_15 rfl rfl dX4_solve_154 ?_
            refine g_iload_n hZ dX4_solve_157 rfl ?_
            refine g_zald hZ (k) rfl dX4_solve_158 (rfl) (by omega) (by decide) ((upS_eq _ _ _ _)) ?_
            refine g_if_eq hZ 166 dX4_solve_159 rfl (by omega) (fun _ => ?_) (fun cX => absurd (by omega) cX)
            refine g_iload hZ dX4_solve_166 rfl ?_
            refine g_iast hZ (k) rfl dX4_solve_168 (rfl) (by omega) (by decide) ?_
            refine gofin _ _ ((Eqx.rf.up rfl).up rfl) (fun i hi => ⟨?_, ?_⟩) ?_ ?_ rfl
            · rw [upS_v _ _ (by decide), upS_j _ _ hi]
            · rw [upS_j _ _ hi, upS_v _ _ (by decide)]
            · rw [upS_v _ _ (by decide), upS_eq, hgv]; rfl
            · rw [upS_eq, hgv]
        | succ m2 ih =>
          intro j L9 hj hL9
          obtain ⟨q, hqj⟩ : ∃ q, (mvs w n (bdP p) (sdP p : Int))[j]? = some q := ⟨_, List.getElem?_eq_getElem (by omega)⟩
          have hqm := List.mem_of_getElem? hqj
          have hnf := nxP_facts (alt := true) hO hqm
          have hcm : nxP n true p q ∈ scP w n true p := List.mem_map.mpr ⟨q, hqm, rfl⟩
          obtain ⟨a, hka, ha⟩ := k4 k p _ hp hcm
          have hal := (List.getElem?_eq_some_iff.mp ha).1
          obtain ⟨va1, va2⟩ := hvv a _ (by omega) ha
          have hgb := GV_b (w := w) (n := n) (alt := true) (p := nxP n true p q)
          have htk : ((scP w n true p).map (GV w n true)).take (j + 1) = ((scP w n true p).map (GV w n true)).take j ++ [GV w n true (nxP n true p q)] := by
            rw [List.take_add_one]
            congr 1
            unfold scP
            rw [List.map_map, List.getElem?_map, hqj]; rfl
          have htb : ∀ v ∈ ((scP w n true p).map (GV w n true)).take j, v.2 ≤ n + 1 := fun v hv => hvb v (List.mem_of_mem_take hv)
          have bq := qk_b (alt := true) _ (-1) htb (by omega) (by omega)
          have bf := fr_b _ 0 htb (by omega)
          have hq2 : (((scP w n true p).map (GV w n true)).take (j + 1)).foldl (qkF true) (-1) = qkF true ((((scP w n true p).map (GV w n true)).take j).foldl (qkF true) (-1)) (GV w n true (nxP n true p q)) := by rw [htk, List.foldl_append]; rfl
          have hf2 : (((scP w n true p).map (GV w n true)).take (j + 1)).foldl frF 0 = frF ((((scP w n true p).map (GV w n true)).take j).foldl frF 0) (GV w n true (nxP n true p q)) := by rw [htk, List.foldl_append]; rfl
          have ih' := fun L9 => ih (j + 1) L9 (by omega)
          rw [hq2, hf2] at ih'
          clear ih hq2 hf2 htk heq
          generalize (((scP w n true p).map (GV w n true)).take j).foldl (qkF true) (-1) = qk at *
          generalize (((scP w n true p).map (GV w n true)).take j).foldl frF 0 = fr at *
          generalize hG : GV w n true (nxP n true p q) = gx at *
          obtain ⟨gw, gr⟩ := gx
          dsimp only at va1 va2 hgb
          refine g_keep hZ [0, 1, 2, 3, 4, 5] hL9 ?_
          refine g_iload hZ dX4_solve_41 rfl ?_
          refine g_aload_n hZ dX4_solve_43 rfl ?_
          refine g_getr hZ fX4_26 rfl rfl dX4_solve_44 ?_
          refine g_geti hZ fX4_54 rfl rfl dX4_solve_47 hx₂.1 ?_
          refine g_icmp_ge hZ 130 dX4_solve_50 rfl (by omega) (fun cX => absurd cX (by omega)) (fun _ => ?_)
          refine g_aload_n hZ dX4_solve_53 rfl ?_
          refine g_aload_n hZ dX4_solve_54 rfl ?_
          refine g_getr hZ fX4_26 rfl rfl dX4_solve_55 ?_
          refine g_aload_n hZ dX4_solve_58 rfl ?_
          refine g_getr hZ fX4_9 rfl rfl dX4_solve_59 ?_
          refine g_iload_n hZ dX4_solve_62 rfl ?_
          refine g_lald hZ (k) rfl dX4_solve_63 (rfl) (by omega) (by decide) (hfk₂) ?_
          refine g_iload_n hZ dX4_solve_64 rfl ?_
          refine g_iload hZ dX4_solve_65 rfl ?_
          refine g_callV hZ (t_X3_after E S₂ w h n hO (xP n p) (bdP p) (xP_ok n p) (sdP p) (by omega) j (by omega) q (hx₂.2 j q hqj) hqm) kX4_55 ⟨by decide, by decide⟩ rfl rfl rfl rfl (Nat.le_of_ble_eq_true rfl) dX4_solve_67 ?_
          rintro _ _ ⟨rfl, y, rfl, hy⟩
          have ey : y = xP n (nxP n true p q) := rep_eq hy (rep_cong (xP_ok n (nxP n true p q)) hnf.2.2)
          subst ey
          refine g_callV hZ (t_X4_findL E S₂ (L.map (xP n)) hPS₂ (xP n (nxP n true p q)) (xP_lt n _)) kX4_76 ⟨by decide, by decide⟩ rfl rfl rfl rfl (Nat.le_of_ble_eq_true rfl) dX4_solve_70 ?_
          rintro _ _ ⟨rfl, z, rfl, hz⟩
          have hXa : (L.map (xP n))[a]? = some (xP n (nxP n true p q)) := by rw [List.getElem?_map, ha]; rfl
          have hza : z = (a : Int) := by
            rcases hz with ⟨-, hni⟩ | ⟨i, rfl, hi⟩
            · exact absurd (List.mem_of_getElem? hXa) hni
            · have := (List.getElem?_inj (List.getElem?_eq_some_iff.mp hi).1 hPS₂.2.2.2.1).mp (hi.trans hXa.symm)
              rw [this]
          subst hza
          refine g_istore hZ dX4_solve_73 (by decide) ?_
          refine g_iload hZ dX4_solve_75 rfl ?_
          refine g_iconst hZ dX4_solve_77 ?_
          refine g_icmp_ne hZ 84 dX4_solve_78 rfl (by omega) (fun _ => ?_) (fun cX => absurd cX (by omega))
          refine g_iload hZ dX4_solve_84 rfl ?_
          refine g_aload_n hZ dX4_solve_86 rfl ?_
          refine g_getr hZ fX4_19 rfl rfl dX4_solve_87 ?_
          refine g_iload hZ dX4_solve_90 rfl ?_
          refine g_iald hZ (a) rfl dX4_solve_92 (rfl) (by omega) (by decide) (va2) ?_
          refine g_iconst hZ dX4_solve_93 ?_
          refine g_iadd hZ dX4_solve_94 ?_
          refine g_mmax hZ kX4_79 ⟨by decide, by decide⟩ (Nat.le_of_ble_eq_true rfl) (by omega) (by omega) dX4_solve_95 ?_
          have ef : (if (fr : Int) < (gr : Int) + 1 then (gr : Int) + 1 else (fr : Int)) = ((frF fr (gw, gr) : Nat) : Int) := by
            unfold frF
            dsimp only
            by_cases c : fr < gr + 1
            · rw [if_pos c, if_pos (by omega)]; rfl
            · rw [if_neg c, if_neg (by omega)]
          rw [ef]
          have bsn : 0 ≤ snF qk ∧ snF qk ≤ 1000 := by unfold snF; split <;> omega
          refine g_istore hZ dX4_solve_98 (by decide) ?_
          refine g_aload_n hZ dX4_solve_100 rfl ?_
          refine g_getr hZ fX4_15 rfl rfl dX4_solve_101 ?_
          refine g_iload hZ dX4_solve_104 rfl ?_
          refine g_zald hZ (a) rfl dX4_solve_106 (rfl) (by omega) (by decide) (va1) ?_
          cases gw with
          | true =>
            refine g_if_ne hZ 124 dX4_solve_107 rfl ⟨by decide, by decide⟩ (fun _ => ?_) (fun cX => absurd cX (by decide))
            refine g_iinc hZ dX4_solve_124 rfl (by decide) ?_
            refine g_goto hZ 41 dX4_solve_127 rfl ?_
            refine ih' _ ?_
            have : qkF true qk (true, gr) = qk := by unfold qkF; rw [if_neg (fun c => by cases c.2.1)]
            rw [this]
            rfl
          | false =>
            refine g_if_ne hZ 124 dX4_solve_107 rfl ⟨by decide, by decide⟩ (fun cX => absurd (by decide) cX) (fun _ => ?_)
            refine g_iload_n hZ dX4_solve_110 rfl ?_
            refine g_aload_n hZ dX4_solve_111 rfl ?_
            refine g_getr hZ fX4_19 rfl rfl dX4_solve_112 ?_
            refine g_iload hZ dX4_solve_115 rfl ?_
            refine g_iald hZ (a) rfl dX4_solve_117 (rfl) (by omega) (by decide) (va2) ?_
            refine g_iconst hZ dX4_solve_118 ?_
            refine g_iadd hZ dX4_solve_119 ?_
            refine g_mmin hZ kX4_85 ⟨by decide, by decide⟩ (Nat.le_of_ble_eq_true rfl) (by omega) (by omega) dX4_solve_120 ?_
            have es := sn_qk (qk := qk) (gr := gr) (by omega)
            rw [es]
            refine g_istore_n hZ dX4_solve_123 (by decide) ?_
            refine g_iinc hZ dX4_solve_124 rfl (by decide) ?_
            refine g_goto hZ 41 dX4_solve_127 rfl ?_
            exact ih' _ rfl
      refine g_iconst hZ dX4_solve_38 ?_
      refine g_istore hZ dX4_solve_39 (by decide) ?_
      exact inner _ 0 _ (Nat.zero_add _) rfl
  refine g_aload_n hZ dX4_solve_0 rfl ?_
  refine g_geti hZ fX4_30 rfl rfl dX4_solve_1 (hPS.1.trans (by rw [List.length_map])) ?_
  refine g_iconst hZ dX4_solve_4 ?_
  refine g_isub hZ dX4_solve_5 ?_
  refine g_istore_n hZ dX4_solve_6 (by decide) ?_
  exact outer L.length S _ (Nat.le_refl _) Eqx.rf (fun i p hi hp => by have := (List.getElem?_eq_some_iff.mp hp).1; omega) rfl
theorem t_X4_solveR (E : gE) (S : gS) (w h n : Nat) (hg : xG S w h n) (p0 : Nat) (L : List Nat) (hPS : PS S 22 23 26 (L.map (xP n))) (hOK : bOK (scP w n true) (qP n true p0) L) (h0 : L[0]? = some p0) (h1 : S 20 0 = (sdP p0 : Int)) (h2 : S 21 0 = ((3 - sdP p0 : Nat) : Int)) : Ct E LAY mX4_solve [.ref (gad E 10)] S (fun r S' => r = none ∧ Eqx [6, 7, 24, 25] S S' ∧ ∀ (i p : Nat), L[i]? = some p → S' 24 i = b2i (GV w n true p).1 ∧ S' 25 i = ((GV w n true p).2 : Int)) := by
  have hn := hg.n15
  have hO := hg.o
  obtain ⟨k1, k2, k3, k4⟩ := hOK
  refine Ct.intro LAY_ok (by decide +kernel) (Nat.le_of_ble_eq_true rfl) rfl ?_
  intro Z hZ
  have outer : ∀ (m : Nat) (S₁ : gS) (L9 : List (Nat × Value)), m ≤ L.length → Eqx [6, 7, 24, 25] S S₁ → (∀ (i p : Nat), m ≤ i → L[i]? = some p → S₁ 24 i = b2i (GV w n true p).1 ∧ S₁ 25 i = ((GV w n true p).2 : Int)) → lkeep L9 [0, 1] = [(0, .ref (gad E 10)), (1, iV ((m : Int) - 1))] → Z S₁ L9 7 [] := by
    intro m
    induction m with
    | zero =>
      intro S₁ L9 hm he hv hL9
      refine g_keep hZ [0, 1] hL9 ?_
      refine g_iload_n hZ dX4_solve_7 rfl ?_
      refine g_if_lt hZ 175 dX4_solve_8 rfl (by omega) (fun _ => ?_) (fun cX => absurd (by omega) cX)
      refine g_vret hZ dX4_solve_175 rfl ⟨rfl, he, fun i p hi => hv i p (Nat.zero_le i) hi⟩
    | succ k ihm =>
      intro S₁ L9 hm he hv hL9
      have hPS₁ := hPS.x he rfl rfl rfl
      have hg₁ := hg.x he rfl
      have ek : ((k + 1 : Nat) : Int) - 1 = (k : Int) := by omega
      rw [ek] at hL9
      refine g_keep hZ [0, 1] hL9 ?_
      obtain ⟨p, hp⟩ : ∃ p, L[k]? = some p := ⟨_, List.getElem?_eq_getElem (by omega)⟩
      have hq := k3 p (List.mem_of_getElem? hp)
      have hpv := hq.1
      have hsd := sdP_12 p
      have hml := scP_len hO hpv
      have hfk : S₁ 23 k = (xP n p : Int) := hPS₁.2.1 k (xP n p) (by rw [List.getElem?_map, hp]; rfl)
      have hf0 : S₁ 23 0 = (xP n p0 : Int) := hPS₁.2.1 0 (xP n p0) (by rw [List.getElem?_map, h0]; rfl)
      refine g_iload_n hZ dX4_solve_7 rfl ?_
      refine g_if_lt hZ 175 dX4_solve_8 rfl (by omega) (fun cX => absurd cX (by omega)) (fun _ => ?_)
      refine g_aload_n hZ dX4_solve_11 rfl ?_
      refine g_iload_n hZ dX4_solve_12 rfl ?_
      refine g_callV hZ (t_X4_sideAtR E S₁ n hn k (xP n p0) (xP n p) (bdP p0) (bdP p) (xP_ok n p0) (xP_ok n p) hf0 hfk (by omega) hq.2.1 (sdP p0 : Int) ((3 - sdP p0 : Nat) : Int) ((he 20 0 rfl).trans h1) ((he 21 0 rfl).trans h2)) kX4_44 ⟨by decide, by decide⟩ rfl rfl rfl rfl (Nat.le_of_ble_eq_true rfl) dX4_solve_13 ?_
      rintro _ _ ⟨rfl, rfl⟩
      have esd : (if (cntZ (bdP p) 3 n - cntZ (bdP p0) 3 n) % 2 = 0 then (sdP p0 : Int) else ((3 - sdP p0 : Nat) : Int)) = (sdP p : Int) := by
        rw [hq.2.2.1]
        unfold sdF bcP
        split <;> rfl
      rw [esd]
      refine g_istore_n hZ dX4_solve_16 (by decide) ?_
      refine g_sipush hZ (z := 1000) dX4_solve_17 rfl ?_
      refine g_istore_n hZ dX4_solve_20 (by decide) ?_
      refine g_iconst hZ dX4_solve_21 ?_
      refine g_istore hZ dX4_solve_22 (by decide) ?_
      refine g_aload_n hZ dX4_solve_24 rfl ?_
      refine g_getr hZ fX4_26 rfl rfl dX4_solve_25 ?_
      refine g_aload_n hZ dX4_solve_28 rfl ?_
      refine g_getr hZ fX4_9 rfl rfl dX4_solve_29 ?_
      refine g_iload_n hZ dX4_solve_32 rfl ?_
      refine g_lald hZ (k) rfl dX4_solve_33 (rfl) (by omega) (by decide) (hfk) ?_
      refine g_iload_n hZ dX4_solve_34 rfl ?_
      refine g_callV hZ (t_X3_fill E S₁ w h n hg₁ (xP n p) (bdP p) (xP_ok n p) (bdP_bd p n) (sdP p) (by omega) (hpv.2.s hsd)) kX4_48 ⟨by decide, by decide⟩ rfl rfl rfl rfl (Nat.le_of_ble_eq_true rfl) dX4_solve_35 ?_
      rintro _ S₂ ⟨rfl, he₂, hx₂⟩
      have he₃ : Eqx [6, 7, 24, 25] S S₂ := he.tr (he₂.mono rfl)
      have hPS₂ := hPS₁.x he₂ rfl rfl rfl
      have hfk₂ : S₂ 23 k = (xP n p : Int) := (he₂ 23 k rfl).trans hfk
      have hvv : ∀ (i x : Nat), k + 1 ≤ i → L[i]? = some x → S₂ 24 i = b2i (GV w n true x).1 ∧ S₂ 25 i = ((GV w n true x).2 : Int) := fun i x hi hx => by
        obtain ⟨a1, a2⟩ := hv i x hi hx
        exact ⟨(he₂ 24 i rfl).trans a1, (he₂ 25 i rfl).trans a2⟩
      have hvb : ∀ v ∈ (scP w n true p).map (GV w n true), v.2 ≤ n + 1 := fun v hv => by
        obtain ⟨c, -, rfl⟩ := List.mem_map.mp hv
        exact GV_b
      have hvl : ((scP w n true p).map (GV w n true)).length = (mvs w n (bdP p) (sdP p : Int)).length := by unfold scP; simp
      have heq := GV_eq hO true p
      have inner : ∀ (m2 j : Nat) (L9 : List (Nat × Value)), j + m2 = (mvs w n (bdP p) (sdP p : Int)).length → lkeep L9 [0, 1, 2, 3, 4, 5] = [(0, .ref (gad E 10)), (1, iV (k : Int)), (2, iV (sdP p : Int)), (3, iV (snF ((((scP w n true p).map (GV w n true)).take j).foldl (qkF true) (-1)))), (4, iV ((((scP w n true p).map (GV w n true)).take j).foldl frF 0 : Nat)), (5, iV (j : Int))] → Z S₂ L9 41 [] := by
        intro m2
        induction m2 with
        | zero =>
          intro j L9 hj hL9
          rw [List.take_of_length_le (by omega)] at hL9
          have bq := qk_b (alt := true) _ (-1) hvb (by omega) (by omega)
          have bf := fr_b _ 0 hvb (by omega)
          refine g_keep hZ [0, 1, 2, 3, 4, 5] hL9 ?_
          have gofin : ∀ (S₄ : gS) (L9 : List (Nat × Value)), Eqx [24, 25] S₂ S₄ → (∀ i, i ≠ k → S₄ 24 i = S₂ 24 i ∧ S₄ 25 i = S₂ 25 i) → S₄ 24 k = b2i (GV w n true p).1 → S₄ 25 k = ((GV w n true p).2 : Int) → lkeep L9 [0, 1] = [(0, .ref (gad E 10)), (1, iV (k : Int))] → Z S₄ L9 169 [] := by
            intro S₄ L9 he₆ hne hw1 hf1 hL9
            refine g_keep hZ [0, 1] hL9 ?_
            refine g_iinc hZ dX4_solve_169 rfl (by decide) ?_
            refine g_goto hZ 7 dX4_solve_172 rfl ?_
            refine ihm S₄ _ (by omega) (he₃.tr (he₆.mono rfl)) (fun i x hi hx => ?_) rfl
            by_cases e : i = k
            · subst e
              rw [hp] at hx
              cases hx
              exact ⟨hw1, hf1⟩
            · rw [(hne i e).1, (hne i e).2]
              exact hvv i x (by omega) hx
          generalize hq : ((scP w n true p).map (GV w n true)).foldl (qkF true) (-1) = qk at *
          generalize hf : ((scP w n true p).map (GV w n true)).foldl frF 0 = fr at *
          have hgv : GV w n true p = if 0 ≤ qk then (true, qk.toNat) else (false, fr) := by rw [heq]; unfold gvl; rw [hq, hf]
          refine g_iload hZ dX4_solve_41 rfl ?_
          refine g_aload_n hZ dX4_solve_43 rfl ?_
          refine g_getr hZ fX4_26 rfl rfl dX4_solve_44 ?_
          refine g_geti hZ fX4_54 rfl rfl dX4_solve_47 hx₂.1 ?_
          refine g_icmp_ge hZ 130 dX4_solve_50 rfl (by omega) (fun _ => ?_) (fun cX => absurd (by omega) cX)
          refine g_aload_n hZ dX4_solve_130 rfl ?_
          refine g_getr hZ fX4_15 rfl rfl dX4_solve_131 ?_
          refine g_iload_n hZ dX4_solve_134 rfl ?_
          refine g_iload_n hZ dX4_solve_135 rfl ?_
          refine g_sipush hZ (z := 1000) dX4_solve_136 rfl ?_
          by_cases c : 0 ≤ qk
          · rw [if_pos c] at hgv
            have es : snF qk = qk := by unfold snF; rw [if_neg (by omega)]
            rw [es]
            refine g_icmp_eq hZ 146 dX4_solve_139 rfl (by omega) (fun cX => absurd cX (by omega)) (fun _ => ?_)
            refine g_iconst hZ dX4_solve_142 ?_
            refine g_goto hZ 147 dX4_solve_143 rfl ?_
            refine g_zast hZ (k) rfl dX4_solve_147 (rfl) (by omega) (by decide) (rfl) ?_
            refine g_aload_n hZ dX4_solve_148 rfl ?_
            refine g_getr hZ fX4_19 rfl rfl dX4_solve_149 ?_
            refine g_iload_n hZ dX4_solve_152 rfl ?_
            refine g_aload_n hZ dX4_solve_153 rfl ?_
            refine g_getr hZ fX4_15 rfl rfl dX4_solve_154 ?_
            refine g_iload_n hZ dX4_solve_157 rfl ?_
            refine g_zald hZ (k) rfl dX4_solve_158 (rfl) (by omega) (by decide) ((upS_eq _ _ _ _)) ?_
            refine g_if_eq hZ 166 dX4_solve_159 rfl (by omega) (fun cX => absurd cX (by omega)) (fun _ => ?_)
            refine g_iload_n hZ dX4_solve_162 rfl ?_
            refine g_goto hZ 168 dX4_solve_163 rfl ?_
            refine g_iast hZ (k) rfl dX4_solve_168 (rfl) (by omega) (by decide) ?_
            refine gofin _ _ ((Eqx.rf.up rfl).up rfl) (fun i hi => ⟨?_, ?_⟩) ?_ ?_ rfl
            · rw [upS_v _ _ (by decide), upS_j _ _ hi]
            · rw [upS_j _ _ hi, upS_v _ _ (by decide)]
            · rw [upS_v _ _ (by decide), upS_eq, hgv]; rfl
            · rw [upS_eq, hgv]; show qk = (qk.toNat : Int); omega
          · rw [if_neg c] at hgv
            have es : snF qk = 1000 := by unfold snF; rw [if_pos (by omega)]
            rw [es]
            refine g_icmp_eq hZ 146 dX4_solve_139 rfl (by omega) (fun _ => ?_) (fun cX => absurd (by omega) cX)
            refine g_iconst hZ dX4_solve_146 ?_
            refine g_zast hZ (k) rfl dX4_solve_147 (rfl) (by omega) (by decide) (rfl) ?_
            refine g_aload_n hZ dX4_solve_148 rfl ?_
            refine g_getr hZ fX4_19 rfl rfl dX4_solve_149 ?_
            refine g_iload_n hZ dX4_solve_152 rfl ?_
            refine g_aload_n hZ dX4_solve_153 rfl ?_
            refine g_getr hZ fX4_15 rfl rfl dX4_solve_154 ?_
            refine g_iload_n hZ dX4_solve_157 rfl ?_
            refine g_zald hZ (k) rfl dX4_solve_158 (rfl) (by omega) (by decide) ((upS_eq _ _ _ _)) ?_
            refine g_if_eq hZ 166 dX4_solve_159 rfl (by omega) (fun _ => ?_) (fun cX => absurd (by omega) cX)
            refine g_iload hZ dX4_solve_166 rfl ?_
            refine g_iast hZ (k) rfl dX4_solve_168 (rfl) (by omega) (by decide) ?_
            refine gofin _ _ ((Eqx.rf.up rfl).up rfl) (fun i hi => ⟨?_, ?_⟩) ?_ ?_ rfl
            · rw [upS_v _ _ (by decide), upS_j _ _ hi]
            · rw [upS_j _ _ hi, upS_v _ _ (by decide)]
            · rw [upS_v _ _ (by decide), upS_eq, hgv]; rfl
            · rw [upS_eq, hgv]
        | succ m2 ih =>
          intro j L9 hj hL9
          obtain ⟨q, hqj⟩ : ∃ q, (mvs w n (bdP p) (sdP p : Int))[j]? = some q := ⟨_, List.getElem?_eq_getElem (by omega)⟩
          have hqm := List.mem_of_getElem? hqj
          have hnf := nxP_facts (alt := true) hO hqm
          have hcm : nxP n true p q ∈ scP w n true p := List.mem_map.mpr ⟨q, hqm, rfl⟩
          obtain ⟨a, hka, ha⟩ := k4 k p _ hp hcm
          have hal := (List.getElem?_eq_some_iff.mp ha).1
          obtain ⟨va1, va2⟩ := hvv a _ (by omega) ha
          have hgb := GV_b (w := w) (n := n) (alt := true) (p := nxP n true p q)
          have htk : ((scP w n true p).map (GV w n true)).take (j + 1) = ((scP w n true p).map (GV w n true)).take j ++ [GV w n true (nxP n true p q)] := by
            rw [List.take_add_one]
            congr 1
            unfold scP
            rw [List.map_map, List.getElem?_map, hqj]; rfl
          have htb : ∀ v ∈ ((scP w n true p).map (GV w n true)).take j, v.2 ≤ n + 1 := fun v hv => hvb v (List.mem_of_mem_take hv)
          have bq := qk_b (alt := true) _ (-1) htb (by omega) (by omega)
          have bf := fr_b _ 0 htb (by omega)
          have hq2 : (((scP w n true p).map (GV w n true)).take (j + 1)).foldl (qkF true) (-1) = qkF true ((((scP w n true p).map (GV w n true)).take j).foldl (qkF true) (-1)) (GV w n true (nxP n true p q)) := by rw [htk, List.foldl_append]; rfl
          have hf2 : (((scP w n true p).map (GV w n true)).take (j + 1)).foldl frF 0 = frF ((((scP w n true p).map (GV w n true)).take j).foldl frF 0) (GV w n true (nxP n true p q)) := by rw [htk, List.foldl_append]; rfl
          have ih' := fun L9 => ih (j + 1) L9 (by omega)
          rw [hq2, hf2] at ih'
          clear ih hq2 hf2 htk heq
          generalize (((scP w n true p).map (GV w n true)).take j).foldl (qkF true) (-1) = qk at *
          generalize (((scP w n true p).map (GV w n true)).take j).foldl frF 0 = fr at *
          generalize hG : GV w n true (nxP n true p q) = gx at *
          obtain ⟨gw, gr⟩ := gx
          dsimp only at va1 va2 hgb
          refine g_keep hZ [0, 1, 2, 3, 4, 5] hL9 ?_
          refine g_iload hZ dX4_solve_41 rfl ?_
          refine g_aload_n hZ dX4_solve_43 rfl ?_
          refine g_getr hZ fX4_26 rfl rfl dX4_solve_44 ?_
          refine g_geti hZ fX4_54 rfl rfl dX4_solve_47 hx₂.1 ?_
          refine g_icmp_ge hZ 130 dX4_solve_50 rfl (by omega) (fun cX => absurd cX (by omega)) (fun _ => ?_)
          refine g_aload_n hZ dX4_solve_53 rfl ?_
          refine g_aload_n hZ dX4_solve_54 rfl ?_
          refine g_getr hZ fX4_26 rfl rfl dX4_solve_55 ?_
          refine g_aload_n hZ dX4_solve_58 rfl ?_
          refine g_getr hZ fX4_9 rfl rfl dX4_solve_59 ?_
          refine g_iload_n hZ dX4_solve_62 rfl ?_
          refine g_lald hZ (k) rfl dX4_solve_63 (rfl) (by omega) (by decide) (hfk₂) ?_
          refine g_iload_n hZ dX4_solve_64 rfl ?_
          refine g_iload hZ dX4_solve_65 rfl ?_
          refine g_callV hZ (t_X3_after E S₂ w h n hO (xP n p) (bdP p) (xP_ok n p) (sdP p) (by omega) j (by omega) q (hx₂.2 j q hqj) hqm) kX4_55 ⟨by decide, by decide⟩ rfl rfl rfl rfl (Nat.le_of_ble_eq_true rfl) dX4_solve_67 ?_
          rintro _ _ ⟨rfl, y, rfl, hy⟩
          have ey : y = xP n (nxP n true p q) := rep_eq hy (rep_cong (xP_ok n (nxP n true p q)) hnf.2.2)
          subst ey
          refine g_callV hZ (t_X4_findR E S₂ (L.map (xP n)) hPS₂ (xP n (nxP n true p q)) (xP_lt n _)) kX4_76 ⟨by decide, by decide⟩ rfl rfl rfl rfl (Nat.le_of_ble_eq_true rfl) dX4_solve_70 ?_
          rintro _ _ ⟨rfl, z, rfl, hz⟩
          have hXa : (L.map (xP n))[a]? = some (xP n (nxP n true p q)) := by rw [List.getElem?_map, ha]; rfl
          have hza : z = (a : Int) := by
            rcases hz with ⟨-, hni⟩ | ⟨i, rfl, hi⟩
            · exact absurd (List.mem_of_getElem? hXa) hni
            · have := (List.getElem?_inj (List.getElem?_eq_some_iff.mp hi).1 hPS₂.2.2.2.1).mp (hi.trans hXa.symm)
              rw [this]
          subst hza
          refine g_istore hZ dX4_solve_73 (by decide) ?_
          refine g_iload hZ dX4_solve_75 rfl ?_
          refine g_iconst hZ dX4_solve_77 ?_
          refine g_icmp_ne hZ 84 dX4_solve_78 rfl (by omega) (fun _ => ?_) (fun cX => absurd cX (by omega))
          refine g_iload hZ dX4_solve_84 rfl ?_
          refine g_aload_n hZ dX4_solve_86 rfl ?_
          refine g_getr hZ fX4_19 rfl rfl dX4_solve_87 ?_
          refine g_iload hZ dX4_solve_90 rfl ?_
          refine g_iald hZ (a) rfl dX4_solve_92 (rfl) (by omega) (by decide) (va2) ?_
          refine g_iconst hZ dX4_solve_93 ?_
          refine g_iadd hZ dX4_solve_94 ?_
          refine g_mmax hZ kX4_79 ⟨by decide, by decide⟩ (Nat.le_of_ble_eq_true rfl) (by omega) (by omega) dX4_solve_95 ?_
          have ef : (if (fr : Int) < (gr : Int) + 1 then (gr : Int) + 1 else (fr : Int)) = ((frF fr (gw, gr) : Nat) : Int) := by
            unfold frF
            dsimp only
            by_cases c : fr < gr + 1
            · rw [if_pos c, if_pos (by omega)]; rfl
            · rw [if_neg c, if_neg (by omega)]
          rw [ef]
          have bsn : 0 ≤ snF qk ∧ snF qk ≤ 1000 := by unfold snF; split <;> omega
          refine g_istore hZ dX4_solve_98 (by decide) ?_
          refine g_aload_n hZ dX4_solve_100 rfl ?_
          refine g_getr hZ fX4_15 rfl rfl dX4_solve_101 ?_
          refine g_iload hZ dX4_solve_104 rfl ?_
          refine g_zald hZ (a) rfl dX4_solve_106 (rfl) (by omega) (by decide) (va1) ?_
          cases gw with
          | true =>
            refine g_if_ne hZ 124 dX4_solve_107 rfl ⟨by decide, by decide⟩ (fun _ => ?_) (fun cX => absurd cX (by decide))
            refine g_iinc hZ dX4_solve_124 rfl (by decide) ?_
            refine g_goto hZ 41 dX4_solve_127 rfl ?_
            refine ih' _ ?_
            have : qkF true qk (true, gr) = qk := by unfold qkF; rw [if_neg (fun c => by cases c.2.1)]
            rw [this]
            rfl
          | false =>
            refine g_if_ne hZ 124 dX4_solve_107 rfl ⟨by decide, by decide⟩ (fun cX => absurd (by decide) cX) (fun _ => ?_)
            refine g_iload_n hZ dX4_solve_110 rfl ?_
            refine g_aload_n hZ dX4_solve_111 rfl ?_
            refine g_getr hZ fX4_19 rfl rfl dX4_solve_112 ?_
            refine g_iload hZ dX4_solve_115 rfl ?_
            refine g_iald hZ (a) rfl dX4_solve_117 (rfl) (by omega) (by decide) (va2) ?_
            refine g_iconst hZ dX4_solve_118 ?_
            refine g_iadd hZ dX4_solve_119 ?_
            refine g_mmin hZ kX4_85 ⟨by decide, by decide⟩ (Nat.le_of_ble_eq_true rfl) (by omega) (by omega) dX4_solve_120 ?_
            have es := sn_qk (qk := qk) (gr := gr) (by omega)
            rw [es]
            refine g_istore_n hZ dX4_solve_123 (by decide) ?_
            refine g_iinc hZ dX4_solve_124 rfl (by decide) ?_
            refine g_goto hZ 41 dX4_solve_127 rfl ?_
            exact ih' _ rfl
      refine g_iconst hZ dX4_solve_38 ?_
      refine g_istore hZ dX4_solve_39 (by decide) ?_
      exact inner _ 0 _ (Nat.zero_add _) rfl
  refine g_aload_n hZ dX4_solve_0 rfl ?_
  refine g_geti hZ fX4_30 rfl rfl dX4_solve_1 (hPS.1.trans (by rw [List.length_map])) ?_
  refine g_iconst hZ dX4_solve_4 ?_
  refine g_isub hZ dX4_solve_5 ?_
  refine g_istore_n hZ dX4_solve_6 (by decide) ?_
  exact outer L.length S _ (Nat.le_refl _) Eqx.rf (fun i p hi hp => by have := (List.getElem?_eq_some_iff.mp hp).1; omega) rfl
