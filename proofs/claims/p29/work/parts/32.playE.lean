/-! the class: Play: findMostMoves -/
theorem sdF_f (s d : Nat) : sdF false s d = s := by
  unfold sdF
  split <;> rfl
theorem GV_f {w h n : Nat} (hg : gOK w h n) (p : Nat) : GV w n false p = (false, ((scP w n false p).map (GV w n false)).foldl frF 0) := by
  rw [GV_eq hg false p]
  unfold gvl
  rw [qk_f, if_neg (by omega)]
theorem t_X4_findMostMovesL (E : gE) (S : gS) (w h n : Nat) (hg : xG S w h n) (p0 : Nat) (L : List Nat) (hPS : PS S 12 13 16 (L.map (xP n))) (hOK : bOK (scP w n false) (qP n false p0) L) (h0 : L[0]? = some p0) (h1 : S 10 0 = (sdP p0 : Int)) : Ct E LAY mX4_findMostMoves [.ref (gad E 5)] S (fun r S' => r = some (iV ((GV w n false p0).2 : Int)) ∧ Eqx [6, 7, 15] S S') := by
  have hn := hg.n15
  have hO := hg.o
  obtain ⟨k1, k2, k3, k4⟩ := hOK
  refine Ct.intro LAY_ok (by decide +kernel) (Nat.le_of_ble_eq_true rfl) rfl ?_
  intro Z hZ
  have outer : ∀ (m : Nat) (S₁ : gS) (L9 : List (Nat × Value)), m ≤ L.length → Eqx [6, 7, 15] S S₁ → (∀ (i p : Nat), m ≤ i → L[i]? = some p → S₁ 15 i = ((GV w n false p).2 : Int)) → lkeep L9 [0, 1] = [(0, .ref (gad E 5)), (1, iV ((m : Int) - 1))] → Z S₁ L9 7 [] := by
    intro m
    induction m with
    | zero =>
      intro S₁ L9 hm he hv hL9
      refine g_keep hZ [0, 1] hL9 ?_
      refine g_iload_n hZ dX4_findMostMoves_7 rfl ?_
      refine g_if_lt hZ 106 dX4_findMostMoves_8 rfl (by omega) (fun _ => ?_) (fun cX => absurd (by omega) cX)
      refine g_aload_n hZ dX4_findMostMoves_106 rfl ?_
      refine g_getr hZ fX4_19 rfl rfl dX4_findMostMoves_107 ?_
      refine g_iconst hZ dX4_findMostMoves_110 ?_
      refine g_iald hZ (0) rfl dX4_findMostMoves_111 (rfl) (by omega) (by decide) ((hv 0 p0 (Nat.zero_le 0) h0)) ?_
      refine g_iret hZ dX4_findMostMoves_112 rfl ⟨rfl, he⟩
    | succ k ihm =>
      intro S₁ L9 hm he hv hL9
      have hPS₁ := hPS.x he rfl rfl rfl
      have hg₁ := hg.x he rfl
      have ek : ((k + 1 : Nat) : Int) - 1 = (k : Int) := by omega
      rw [ek] at hL9
      refine g_keep hZ [0, 1] hL9 ?_
      obtain ⟨p, hp⟩ : ∃ p, L[k]? = some p := ⟨_, List.getElem?_eq_getElem (by omega)⟩
      have hq := k3 p (List.mem_of_getElem? hp)
      have hpv := hq.1
      have hsd := sdP_12 p
      have esd : sdP p0 = sdP p := by rw [hq.2.2.1, sdF_f]
      have hml := scP_len hO hpv
      have hfk : S₁ 13 k = (xP n p : Int) := hPS₁.2.1 k (xP n p) (by rw [List.getElem?_map, hp]; rfl)
      have h1₁ : S₁ 10 0 = (sdP p : Int) := by rw [he 10 0 rfl, h1, esd]
      refine g_iload_n hZ dX4_findMostMoves_7 rfl ?_
      refine g_if_lt hZ 106 dX4_findMostMoves_8 rfl (by omega) (fun cX => absurd cX (by omega)) (fun _ => ?_)
      refine g_iconst hZ dX4_findMostMoves_11 ?_
      refine g_istore_n hZ dX4_findMostMoves_12 (by decide) ?_
      refine g_aload_n hZ dX4_findMostMoves_13 rfl ?_
      refine g_getr hZ fX4_26 rfl rfl dX4_findMostMoves_14 ?_
      refine g_aload_n hZ dX4_findMostMoves_17 rfl ?_
      refine g_getr hZ fX4_9 rfl rfl dX4_findMostMoves_18 ?_
      refine g_iload_n hZ dX4_findMostMoves_21 rfl ?_
      refine g_lald hZ (k) rfl dX4_findMostMoves_22 (rfl) (by omega) (by decide) (hfk) ?_
      refine g_aload_n hZ dX4_findMostMoves_23 rfl ?_
      refine g_geti hZ fX4_34 rfl rfl dX4_findMostMoves_24 h1₁ ?_
      refine g_callV hZ (t_X3_fill E S₁ w h n hg₁ (xP n p) (bdP p) (xP_ok n p) (bdP_bd p n) (sdP p) (by omega) (hpv.2.s hsd)) kX4_48 ⟨by decide, by decide⟩ rfl rfl rfl rfl (Nat.le_of_ble_eq_true rfl) dX4_findMostMoves_27 ?_
      rintro _ S₂ ⟨rfl, he₂, hx₂⟩
      have he₃ : Eqx [6, 7, 15] S S₂ := he.tr (he₂.mono rfl)
      have hPS₂ := hPS₁.x he₂ rfl rfl rfl
      have hfk₂ : S₂ 13 k = (xP n p : Int) := (he₂ 13 k rfl).trans hfk
      have h1₂ : S₂ 10 0 = (sdP p : Int) := (he₂ 10 0 rfl).trans h1₁
      have hvv : ∀ (i x : Nat), k + 1 ≤ i → L[i]? = some x → S₂ 15 i = ((GV w n false x).2 : Int) := fun i x hi hx => (he₂ 15 i rfl).trans (hv i x hi hx)
      have hvb : ∀ v ∈ (scP w n false p).map (GV w n false), v.2 ≤ n + 1 := fun v hv => by
        obtain ⟨c, -, rfl⟩ := List.mem_map.mp hv
        exact GV_b
      have hvl : ((scP w n false p).map (GV w n false)).length = (mvs w n (bdP p) (sdP p : Int)).length := by unfold scP; simp
      have heq := GV_f hO p
      have inner : ∀ (m2 j : Nat) (L9 : List (Nat × Value)), j + m2 = (mvs w n (bdP p) (sdP p : Int)).length → lkeep L9 [0, 1, 2, 3] = [(0, .ref (gad E 5)), (1, iV (k : Int)), (2, iV ((((scP w n false p).map (GV w n false)).take j).foldl frF 0 : Nat)), (3, iV (j : Int))] → Z S₂ L9 32 [] := by
        intro m2
        induction m2 with
        | zero =>
          intro j L9 hj hL9
          rw [List.take_of_length_le (by omega)] at hL9
          refine g_keep hZ [0, 1, 2, 3] hL9 ?_
          refine g_iload_n hZ dX4_findMostMoves_32 rfl ?_
          refine g_aload_n hZ dX4_findMostMoves_33 rfl ?_
          refine g_getr hZ fX4_26 rfl rfl dX4_findMostMoves_34 ?_
          refine g_geti hZ fX4_54 rfl rfl dX4_findMostMoves_37 hx₂.1 ?_
          refine g_icmp_ge hZ 93 dX4_findMostMoves_40 rfl (by omega) (fun _ => ?_) (fun cX => absurd (by omega) cX)
          refine g_aload_n hZ dX4_findMostMoves_93 rfl ?_
          refine g_getr hZ fX4_19 rfl rfl dX4_findMostMoves_94 ?_
          refine g_iload_n hZ dX4_findMostMoves_97 rfl ?_
          refine g_iload_n hZ dX4_findMostMoves_98 rfl ?_
          refine g_iast hZ (k) rfl dX4_findMostMoves_99 (rfl) (by omega) (by decide) ?_
          refine g_iinc hZ dX4_findMostMoves_100 rfl (by decide) ?_
          refine g_goto hZ 7 dX4_findMostMoves_103 rfl ?_
          refine ihm _ _ (by omega) (he₃.up rfl) (fun i x hi hx => ?_) rfl
          by_cases e : i = k
          · subst e
            rw [hp] at hx
            cases hx
            rw [upS_eq, heq]
          · rw [upS_j _ _ e]
            exact hvv i x (by omega) hx
        | succ m2 ih =>
          intro j L9 hj hL9
          obtain ⟨q, hqj⟩ : ∃ q, (mvs w n (bdP p) (sdP p : Int))[j]? = some q := ⟨_, List.getElem?_eq_getElem (by omega)⟩
          have hqm := List.mem_of_getElem? hqj
          have hnf := nxP_facts (alt := false) hO hqm
          have hcm : nxP n false p q ∈ scP w n false p := List.mem_map.mpr ⟨q, hqm, rfl⟩
          obtain ⟨a, hka, ha⟩ := k4 k p _ hp hcm
          have hal := (List.getElem?_eq_some_iff.mp ha).1
          have va2 := hvv a _ (by omega) ha
          have hgb := GV_b (w := w) (n := n) (alt := false) (p := nxP n false p q)
          have htk : ((scP w n false p).map (GV w n false)).take (j + 1) = ((scP w n false p).map (GV w n false)).take j ++ [GV w n false (nxP n false p q)] := by
            rw [List.take_add_one]
            congr 1
            unfold scP
            rw [List.map_map, List.getElem?_map, hqj]; rfl
          have htb : ∀ v ∈ ((scP w n false p).map (GV w n false)).take j, v.2 ≤ n + 1 := fun v hv => hvb v (List.mem_of_mem_take hv)
          have bf := fr_b _ 0 htb (by omega)
          have hf2 : (((scP w n false p).map (GV w n false)).take (j + 1)).foldl frF 0 = frF ((((scP w n false p).map (GV w n false)).take j).foldl frF 0) (GV w n false (nxP n false p q)) := by rw [htk, List.foldl_append]; rfl
          have ih' := fun L9 => ih (j + 1) L9 (by omega)
          rw [hf2] at ih'
          clear ih hf2 htk heq
          generalize (((scP w n false p).map (GV w n false)).take j).foldl frF 0 = fr at *
          generalize hG : GV w n false (nxP n false p q) = gx at *
          obtain ⟨gw, gr⟩ := gx
          dsimp only at va2 hgb
          refine g_keep hZ [0, 1, 2, 3] hL9 ?_
          refine g_iload_n hZ dX4_findMostMoves_32 rfl ?_
          refine g_aload_n hZ dX4_findMostMoves_33 rfl ?_
          refine g_getr hZ fX4_26 rfl rfl dX4_findMostMoves_34 ?_
          refine g_geti hZ fX4_54 rfl rfl dX4_findMostMoves_37 hx₂.1 ?_
          refine g_icmp_ge hZ 93 dX4_findMostMoves_40 rfl (by omega) (fun cX => absurd cX (by omega)) (fun _ => ?_)
          refine g_aload_n hZ dX4_findMostMoves_43 rfl ?_
          refine g_aload_n hZ dX4_findMostMoves_44 rfl ?_
          refine g_getr hZ fX4_26 rfl rfl dX4_findMostMoves_45 ?_
          refine g_aload_n hZ dX4_findMostMoves_48 rfl ?_
          refine g_getr hZ fX4_9 rfl rfl dX4_findMostMoves_49 ?_
          refine g_iload_n hZ dX4_findMostMoves_52 rfl ?_
          refine g_lald hZ (k) rfl dX4_findMostMoves_53 (rfl) (by omega) (by decide) (hfk₂) ?_
          refine g_aload_n hZ dX4_findMostMoves_54 rfl ?_
          refine g_geti hZ fX4_34 rfl rfl dX4_findMostMoves_55 h1₂ ?_
          refine g_iload_n hZ dX4_findMostMoves_58 rfl ?_
          refine g_callV hZ (t_X3_after E S₂ w h n hO (xP n p) (bdP p) (xP_ok n p) (sdP p) (by omega) j (by omega) q (hx₂.2 j q hqj) hqm) kX4_55 ⟨by decide, by decide⟩ rfl rfl rfl rfl (Nat.le_of_ble_eq_true rfl) dX4_findMostMoves_59 ?_
          rintro _ _ ⟨rfl, y, rfl, hy⟩
          have ey : y = xP n (nxP n false p q) := rep_eq hy (rep_cong (xP_ok n (nxP n false p q)) hnf.2.2)
          subst ey
          refine g_callV hZ (t_X4_findL E S₂ (L.map (xP n)) hPS₂ (xP n (nxP n false p q)) (xP_lt n _)) kX4_76 ⟨by decide, by decide⟩ rfl rfl rfl rfl (Nat.le_of_ble_eq_true rfl) dX4_findMostMoves_62 ?_
          rintro _ _ ⟨rfl, z, rfl, hz⟩
          have hXa : (L.map (xP n))[a]? = some (xP n (nxP n false p q)) := by rw [List.getElem?_map, ha]; rfl
          have hza : z = (a : Int) := by
            rcases hz with ⟨-, hni⟩ | ⟨i, rfl, hi⟩
            · exact absurd (List.mem_of_getElem? hXa) hni
            · have := (List.getElem?_inj (List.getElem?_eq_some_iff.mp hi).1 hPS₂.2.2.2.1).mp (hi.trans hXa.symm)
              rw [this]
          subst hza
          refine g_istore hZ dX4_findMostMoves_65 (by decide) ?_
          refine g_iload hZ dX4_findMostMoves_67 rfl ?_
          refine g_iconst hZ dX4_findMostMoves_69 ?_
          refine g_icmp_eq hZ 87 dX4_findMostMoves_70 rfl (by omega) (fun cX => absurd cX (by omega)) (fun _ => ?_)
          refine g_iload_n hZ dX4_findMostMoves_73 rfl ?_
          refine g_aload_n hZ dX4_findMostMoves_74 rfl ?_
          refine g_getr hZ fX4_19 rfl rfl dX4_findMostMoves_75 ?_
          refine g_iload hZ dX4_findMostMoves_78 rfl ?_
          refine g_iald hZ (a) rfl dX4_findMostMoves_80 (rfl) (by omega) (by decide) (va2) ?_
          refine g_iconst hZ dX4_findMostMoves_81 ?_
          refine g_iadd hZ dX4_findMostMoves_82 ?_
          refine g_mmax hZ kX4_79 ⟨by decide, by decide⟩ (Nat.le_of_ble_eq_true rfl) (by omega) (by omega) dX4_findMostMoves_83 ?_
          have ef : (if (fr : Int) < (gr : Int) + 1 then (gr : Int) + 1 else (fr : Int)) = ((frF fr (gw, gr) : Nat) : Int) := by
            unfold frF
            dsimp only
            by_cases c : fr < gr + 1
            · rw [if_pos c, if_pos (by omega)]; rfl
            · rw [if_neg c, if_neg (by omega)]
          rw [ef]
          refine g_istore_n hZ dX4_findMostMoves_86 (by decide) ?_
          refine g_iinc hZ dX4_findMostMoves_87 rfl (by decide) ?_
          refine g_goto hZ 32 dX4_findMostMoves_90 rfl ?_
          exact ih' _ rfl
      refine g_iconst hZ dX4_findMostMoves_30 ?_
      refine g_istore_n hZ dX4_findMostMoves_31 (by decide) ?_
      exact inner _ 0 _ (Nat.zero_add _) rfl
  refine g_aload_n hZ dX4_findMostMoves_0 rfl ?_
  refine g_geti hZ fX4_30 rfl rfl dX4_findMostMoves_1 (hPS.1.trans (by rw [List.length_map])) ?_
  refine g_iconst hZ dX4_findMostMoves_4 ?_
  refine g_isub hZ dX4_findMostMoves_5 ?_
  refine g_istore_n hZ dX4_findMostMoves_6 (by decide) ?_
  exact outer L.length S _ (Nat.le_refl _) Eqx.rf (fun i p hi hp => by have := (List.getElem?_eq_some_iff.mp hp).1; omega) rfl
theorem t_X4_findMostMovesR (E : gE) (S : gS) (w h n : Nat) (hg : xG S w h n) (p0 : Nat) (L : List Nat) (hPS : PS S 22 23 26 (L.map (xP n))) (hOK : bOK (scP w n false) (qP n false p0) L) (h0 : L[0]? = some p0) (h1 : S 20 0 = (sdP p0 : Int)) : Ct E LAY mX4_findMostMoves [.ref (gad E 10)] S (fun r S' => r = some (iV ((GV w n false p0).2 : Int)) ∧ Eqx [6, 7, 25] S S') := by
  have hn := hg.n15
  have hO := hg.o
  obtain ⟨k1, k2, k3, k4⟩ := hOK
  refine Ct.intro LAY_ok (by decide +kernel) (Nat.le_of_ble_eq_true rfl) rfl ?_
  intro Z hZ
  have outer : ∀ (m : Nat) (S₁ : gS) (L9 : List (Nat × Value)), m ≤ L.length → Eqx [6, 7, 25] S S₁ → (∀ (i p : Nat), m ≤ i → L[i]? = some p → S₁ 25 i = ((GV w n false p).2 : Int)) → lkeep L9 [0, 1] = [(0, .ref (gad E 10)), (1, iV ((m : Int) - 1))] → Z S₁ L9 7 [] := by
    intro m
    induction m with
    | zero =>
      intro S₁ L9 hm he hv hL9
      refine g_keep hZ [0, 1] hL9 ?_
      refine g_iload_n hZ dX4_findMostMoves_7 rfl ?_
      refine g_if_lt hZ 106 dX4_findMostMoves_8 rfl (by omega) (fun _ => ?_) (fun cX => absurd (by omega) cX)
      refine g_aload_n hZ dX4_findMostMoves_106 rfl ?_
      refine g_getr hZ fX4_19 rfl rfl dX4_findMostMoves_107 ?_
      refine g_iconst hZ dX4_findMostMoves_110 ?_
      refine g_iald hZ (0) rfl dX4_findMostMoves_111 (rfl) (by omega) (by decide) ((hv 0 p0 (Nat.zero_le 0) h0)) ?_
      refine g_iret hZ dX4_findMostMoves_112 rfl ⟨rfl, he⟩
    | succ k ihm =>
      intro S₁ L9 hm he hv hL9
      have hPS₁ := hPS.x he rfl rfl rfl
      have hg₁ := hg.x he rfl
      have ek : ((k + 1 : Nat) : Int) - 1 = (k : Int) := by omega
      rw [ek] at hL9
      refine g_keep hZ [0, 1] hL9 ?_
      obtain ⟨p, hp⟩ : ∃ p, L[k]? = some p := ⟨_, List.getElem?_eq_getElem (by omega)⟩
      have hq := k3 p (List.mem_of_getElem? hp)
      have hpv := hq.1
      have hsd := sdP_12 p
      have esd : sdP p0 = sdP p := by rw [hq.2.2.1, sdF_f]
      have hml := scP_len hO hpv
      have hfk : S₁ 23 k = (xP n p : Int) := hPS₁.2.1 k (xP n p) (by rw [List.getElem?_map, hp]; rfl)
      have h1₁ : S₁ 20 0 = (sdP p : Int) := by rw [he 20 0 rfl, h1, esd]
      refine g_iload_n hZ dX4_findMostMoves_7 rfl ?_
      refine g_if_lt hZ 106 dX4_findMostMoves_8 rfl (by omega) (fun cX => absurd cX (by omega)) (fun _ => ?_)
      refine g_iconst hZ dX4_findMostMoves_11 ?_
      refine g_istore_n hZ dX4_findMostMoves_12 (by decide) ?_
      refine g_aload_n hZ dX4_findMostMoves_13 rfl ?_
      refine g_getr hZ fX4_26 rfl rfl dX4_findMostMoves_14 ?_
      refine g_aload_n hZ dX4_findMostMoves_17 rfl ?_
      refine g_getr hZ fX4_9 rfl rfl dX4_findMostMoves_18 ?_
      refine g_iload_n hZ dX4_findMostMoves_21 rfl ?_
      refine g_lald hZ (k) rfl dX4_findMostMoves_22 (rfl) (by omega) (by decide) (hfk) ?_
      refine g_aload_n hZ dX4_findMostMoves_23 rfl ?_
      refine g_geti hZ fX4_34 rfl rfl dX4_findMostMoves_24 h1₁ ?_
      refine g_callV hZ (t_X3_fill E S₁ w h n hg₁ (xP n p) (bdP p) (xP_ok n p) (bdP_bd p n) (sdP p) (by omega) (hpv.2.s hsd)) kX4_48 ⟨by decide, by decide⟩ rfl rfl rfl rfl (Nat.le_of_ble_eq_true rfl) dX4_findMostMoves_27 ?_
      rintro _ S₂ ⟨rfl, he₂, hx₂⟩
      have he₃ : Eqx [6, 7, 25] S S₂ := he.tr (he₂.mono rfl)
      have hPS₂ := hPS₁.x he₂ rfl rfl rfl
      have hfk₂ : S₂ 23 k = (xP n p : Int) := (he₂ 23 k rfl).trans hfk
      have h1₂ : S₂ 20 0 = (sdP p : Int) := (he₂ 20 0 rfl).trans h1₁
      have hvv : ∀ (i x : Nat), k + 1 ≤ i → L[i]? = some x → S₂ 25 i = ((GV w n false x).2 : Int) := fun i x hi hx => (he₂ 25 i rfl).trans (hv i x hi hx)
      have hvb : ∀ v ∈ (scP w n false p).map (GV w n false), v.2 ≤ n + 1 := fun v hv => by
        obtain ⟨c, -, rfl⟩ := List.mem_map.mp hv
        exact GV_b
      have hvl : ((scP w n false p).map (GV w n false)).length = (mvs w n (bdP p) (sdP p : Int)).length := by unfold scP; simp
      have heq := GV_f hO p
      have inner : ∀ (m2 j : Nat) (L9 : List (Nat × Value)), j + m2 = (mvs w n (bdP p) (sdP p : Int)).length → lkeep L9 [0, 1, 2, 3] = [(0, .ref (gad E 10)), (1, iV (k : Int)), (2, iV ((((scP w n false p).map (GV w n false)).take j).foldl frF 0 : Nat)), (3, iV (j : Int))] → Z S₂ L9 32 [] := by
        intro m2
        induction m2 with
        | zero =>
          intro j L9 hj hL9
          rw [List.take_of_length_le (by omega)] at hL9
          refine g_keep hZ [0, 1, 2, 3] hL9 ?_
          refine g_iload_n hZ dX4_findMostMoves_32 rfl ?_
          refine g_aload_n hZ dX4_findMostMoves_33 rfl ?_
          refine g_getr hZ fX4_26 rfl rfl dX4_findMostMoves_34 ?_
          refine g_geti hZ fX4_54 rfl rfl dX4_findMostMoves_37 hx₂.1 ?_
          refine g_icmp_ge hZ 93 dX4_findMostMoves_40 rfl (by omega) (fun _ => ?_) (fun cX => absurd (by omega) cX)
          refine g_aload_n hZ dX4_findMostMoves_93 rfl ?_
          refine g_getr hZ fX4_19 rfl rfl dX4_findMostMoves_94 ?_
          refine g_iload_n hZ dX4_findMostMoves_97 rfl ?_
          refine g_iload_n hZ dX4_findMostMoves_98 rfl ?_
          refine g_iast hZ (k) rfl dX4_findMostMoves_99 (rfl) (by omega) (by decide) ?_
          refine g_iinc hZ dX4_findMostMoves_100 rfl (by decide) ?_
          refine g_goto hZ 7 dX4_findMostMoves_103 rfl ?_
          refine ihm _ _ (by omega) (he₃.up rfl) (fun i x hi hx => ?_) rfl
          by_cases e : i = k
          · subst e
            rw [hp] at hx
            cases hx
            rw [upS_eq, heq]
          · rw [upS_j _ _ e]
            exact hvv i x (by omega) hx
        | succ m2 ih =>
          intro j L9 hj hL9
          obtain ⟨q, hqj⟩ : ∃ q, (mvs w n (bdP p) (sdP p : Int))[j]? = some q := ⟨_, List.getElem?_eq_getElem (by omega)⟩
          have hqm := List.mem_of_getElem? hqj
          have hnf := nxP_facts (alt := false) hO hqm
          have hcm : nxP n false p q ∈ scP w n false p := List.mem_map.mpr ⟨q, hqm, rfl⟩
          obtain ⟨a, hka, ha⟩ := k4 k p _ hp hcm
          have hal := (List.getElem?_eq_some_iff.mp ha).1
          have va2 := hvv a _ (by omega) ha
          have hgb := GV_b (w := w) (n := n) (alt := false) (p := nxP n false p q)
          have htk : ((scP w n false p).map (GV w n false)).take (j + 1) = ((scP w n false p).map (GV w n false)).take j ++ [GV w n false (nxP n false p q)] := by
            rw [List.take_add_one]
            congr 1
            unfold scP
            rw [List.map_map, List.getElem?_map, hqj]; rfl
          have htb : ∀ v ∈ ((scP w n false p).map (GV w n false)).take j, v.2 ≤ n + 1 := fun v hv => hvb v (List.mem_of_mem_take hv)
          have bf := fr_b _ 0 htb (by omega)
          have hf2 : (((scP w n false p).map (GV w n false)).take (j + 1)).foldl frF 0 = frF ((((scP w n false p).map (GV w n false)).take j).foldl frF 0) (GV w n false (nxP n false p q)) := by rw [htk, List.foldl_append]; rfl
          have ih' := fun L9 => ih (j + 1) L9 (by omega)
          rw [hf2] at ih'
          clear ih hf2 htk heq
          generalize (((scP w n false p).map (GV w n false)).take j).foldl frF 0 = fr at *
          generalize hG : GV w n false (nxP n false p q) = gx at *
          obtain ⟨gw, gr⟩ := gx
          dsimp only at va2 hgb
          refine g_keep hZ [0, 1, 2, 3] hL9 ?_
          refine g_iload_n hZ dX4_findMostMoves_32 rfl ?_
          refine g_aload_n hZ dX4_findMostMoves_33 rfl ?_
          refine g_getr hZ fX4_26 rfl rfl dX4_findMostMoves_34 ?_
          refine g_geti hZ fX4_54 rfl rfl dX4_findMostMoves_37 hx₂.1 ?_
          refine g_icmp_ge hZ 93 dX4_findMostMoves_40 rfl (by omega) (fun cX => absurd cX (by omega)) (fun _ => ?_)
          refine g_aload_n hZ dX4_findMostMoves_43 rfl ?_
          refine g_aload_n hZ dX4_findMostMoves_44 rfl ?_
          refine g_getr hZ fX4_26 rfl rfl dX4_findMostMoves_45 ?_
          refine g_aload_n hZ dX4_findMostMoves_48 rfl ?_
          refine g_getr hZ fX4_9 rfl rfl dX4_findMostMoves_49 ?_
          refine g_iload_n hZ dX4_findMostMoves_52 rfl ?_
          refine g_lald hZ (k) rfl dX4_findMostMoves_53 (rfl) (by omega) (by decide) (hfk₂) ?_
          refine g_aload_n hZ dX4_findMostMoves_54 rfl ?_
          refine g_geti hZ fX4_34 rfl rfl dX4_findMostMoves_55 h1₂ ?_
          refine g_iload_n hZ dX4_findMostMoves_58 rfl ?_
          refine g_callV hZ (t_X3_after E S₂ w h n hO (xP n p) (bdP p) (xP_ok n p) (sdP p) (by omega) j (by omega) q (hx₂.2 j q hqj) hqm) kX4_55 ⟨by decide, by decide⟩ rfl rfl rfl rfl (Nat.le_of_ble_eq_true rfl) dX4_findMostMoves_59 ?_
          rintro _ _ ⟨rfl, y, rfl, hy⟩
          have ey : y = xP n (nxP n false p q) := rep_eq hy (rep_cong (xP_ok n (nxP n false p q)) hnf.2.2)
          subst ey
          refine g_callV hZ (t_X4_findR E S₂ (L.map (xP n)) hPS₂ (xP n (nxP n false p q)) (xP_lt n _)) kX4_76 ⟨by decide, by decide⟩ rfl rfl rfl rfl (Nat.le_of_ble_eq_true rfl) dX4_findMostMoves_62 ?_
          rintro _ _ ⟨rfl, z, rfl, hz⟩
          have hXa : (L.map (xP n))[a]? = some (xP n (nxP n false p q)) := by rw [List.getElem?_map, ha]; rfl
          have hza : z = (a : Int) := by
            rcases hz with ⟨-, hni⟩ | ⟨i, rfl, hi⟩
            · exact absurd (List.mem_of_getElem? hXa) hni
            · have := (List.getElem?_inj (List.getElem?_eq_some_iff.mp hi).1 hPS₂.2.2.2.1).mp (hi.trans hXa.symm)
              rw [this]
          subst hza
          refine g_istore hZ dX4_findMostMoves_65 (by decide) ?_
          refine g_iload hZ dX4_findMostMoves_67 rfl ?_
          refine g_iconst hZ dX4_findMostMoves_69 ?_
          refine g_icmp_eq hZ 87 dX4_findMostMoves_70 rfl (by omega) (fun cX => absurd cX (by omega)) (fun _ => ?_)
          refine g_iload_n hZ dX4_findMostMoves_73 rfl ?_
          refine g_aload_n hZ dX4_findMostMoves_74 rfl ?_
          refine g_getr hZ fX4_19 rfl rfl dX4_findMostMoves_75 ?_
          refine g_iload hZ dX4_findMostMoves_78 rfl ?_
          refine g_iald hZ (a) rfl dX4_findMostMoves_80 (rfl) (by omega) (by decide) (va2) ?_
          refine g_iconst hZ dX4_findMostMoves_81 ?_
          refine g_iadd hZ dX4_findMostMoves_82 ?_
          refine g_mmax hZ kX4_79 ⟨by decide, by decide⟩ (Nat.le_of_ble_eq_true rfl) (by omega) (by omega) dX4_findMostMoves_83 ?_
          have ef : (if (fr : Int) < (gr : Int) + 1 then (gr : Int) + 1 else (fr : Int)) = ((frF fr (gw, gr) : Nat) : Int) := by
            unfold frF
            dsimp only
            by_cases c : fr < gr + 1
            · rw [if_pos c, if_pos (by omega)]; rfl
            · rw [if_neg c, if_neg (by omega)]
          rw [ef]
          refine g_istore_n hZ dX4_findMostMoves_86 (by decide) ?_
          refine g_iinc hZ dX4_findMostMoves_87 rfl (by decide) ?_
          refine g_goto hZ 32 dX4_findMostMoves_90 rfl ?_
          exact ih' _ rfl
      refine g_iconst hZ dX4_findMostMoves_30 ?_
      refine g_istore_n hZ dX4_findMostMoves_31 (by decide) ?_
      exact inner _ 0 _ (Nat.zero_add _) rfl
  refine g_aload_n hZ dX4_findMostMoves_0 rfl ?_
  refine g_geti hZ fX4_30 rfl rfl dX4_findMostMoves_1 (hPS.1.trans (by rw [List.length_map])) ?_
  refine g_iconst hZ dX4_findMostMoves_4 ?_
  refine g_isub hZ dX4_findMostMoves_5 ?_
  refine g_istore_n hZ dX4_findMostMoves_6 (by decide) ?_
  exact outer L.length S _ (Nat.le_refl _) Eqx.rf (fun i p hi hp => by have := (List.getElem?_eq_some_iff.mp hp).1; omega) rfl
