/-! the reference: zugzwangs -/
def colS (w n : Nat) (acc : List Nat) (p : Nat) : List Nat := if (GV w n true p).1 = false ∧ p ∉ acc then acc ++ [p] else acc
def mLo (S : gS) (Lo : List Nat) : Prop := S 57 0 = (Lo.length : Int) ∧ HL (fun p : Nat => (p : Int)) (S 71) Lo
theorem colS_in {w n : Nat} {acc : List Nat} {p x : Nat} (h : x ∈ colS w n acc p) : x ∈ acc ∨ x = p := by
  unfold colS at h
  split at h
  · rcases List.mem_append.mp h with z | z
    · exact Or.inl z
    · exact Or.inr (List.mem_singleton.mp z)
  · exact Or.inl h
theorem col_in {w n : Nat} : ∀ (L acc : List Nat) (x : Nat), x ∈ L.foldl (colS w n) acc → x ∈ acc ∨ x ∈ L
  | [], acc, x, h => Or.inl h
  | p :: L, acc, x, h => by
    rw [List.foldl_cons] at h
    rcases col_in L _ x h with z | z
    · rcases colS_in z with z | z
      · exact Or.inl z
      · exact Or.inr (by rw [z]; exact List.mem_cons_self)
    · exact Or.inr (List.mem_cons_of_mem _ z)
theorem colS_len (w n : Nat) (acc : List Nat) (p : Nat) : (colS w n acc p).length ≤ acc.length + 1 := by
  unfold colS; split
  · simp
  · omega
theorem col_len (w n : Nat) : ∀ (L acc : List Nat), (L.foldl (colS w n) acc).length ≤ acc.length + L.length
  | [], acc => Nat.le_refl _
  | p :: L, acc => by
    have h1 := col_len w n L (colS w n acc p)
    have h2 := colS_len w n acc p
    rw [List.foldl_cons, List.length_cons]
    omega
theorem t_X9_collects (E : gE) (S : gS) (w n : Nat) (L Lo : List Nat) (hRS : RS S L) (hW : WR w n S L) (hv : ∀ p ∈ L, p < 2147483648) (hLS : mLo S Lo) (hvo : ∀ p ∈ Lo, p < 2147483648) (hl : Lo.length + L.length ≤ 3000) : Ct E LAY mX9_collects [.ref (gad E 27)] S (fun r S' => r = none ∧ Eqx [57, 71] S S' ∧ mLo S' (L.foldl (colS w n) Lo)) := by
  obtain ⟨r1, r2, r3, r4, r5⟩ := id hRS
  refine Ct.intro LAY_ok (by decide +kernel) (Nat.le_of_ble_eq_true rfl) rfl ?_
  intro Z hZ
  have outer : ∀ (m k : Nat) (S₁ : gS) (L9 : List (Nat × Value)), k + m = L.length → Eqx [57, 71] S S₁ → mLo S₁ ((L.take k).foldl (colS w n) Lo) → lkeep L9 [0, 1] = [(0, .ref (gad E 27)), (1, iV (k : Int))] → Z S₁ L9 2 [] := by
    intro m
    induction m with
    | zero =>
      intro k S₁ L9 hk he hS hL9
      refine g_keep hZ [0, 1] hL9 ?_
      refine g_iload_n hZ dX9_collects_2 rfl ?_
      refine g_aload_n hZ dX9_collects_3 rfl ?_
      refine g_geti hZ fX9_135 rfl rfl dX9_collects_4 ((he 56 0 rfl).trans r1) ?_
      refine g_icmp_ge hZ 101 dX9_collects_7 rfl (by omega) (fun _ => ?_) (fun cX => absurd (by omega) cX)
      rw [List.take_of_length_le (by omega)] at hS
      refine g_vret hZ dX9_collects_101 rfl ⟨rfl, he, hS⟩
    | succ m ih =>
      intro k S₁ L9 hk he hS hL9
      obtain ⟨p, hp⟩ : ∃ p, L[k]? = some p := ⟨_, List.getElem?_eq_getElem (by omega)⟩
      have hpv := hv p (List.mem_of_getElem? hp)
      have hcp : S₁ 67 k = (p : Int) := (he 67 k rfl).trans (r2 k p hp)
      have hwp : S₁ 69 k = b2i (GV w n true p).1 := (he 69 k rfl).trans (hW k p hp).1
      have htk : (L.take (k + 1)).foldl (colS w n) Lo = colS w n ((L.take k).foldl (colS w n) Lo) p := by
        rw [List.take_add_one, hp, List.foldl_append]; rfl
      have hlen := col_len w n (L.take k) Lo
      have hlt : (L.take k).length = k := by rw [List.length_take]; omega
      have hin : ∀ x ∈ (L.take k).foldl (colS w n) Lo, x < 2147483648 := fun x hx => by
        rcases col_in _ _ x hx with z | z
        · exact hvo x z
        · exact hv x (List.mem_of_mem_take z)
      have ih' := ih (k + 1)
      rw [htk] at ih'
      generalize (L.take k).foldl (colS w n) Lo = A at *
      obtain ⟨s1, s2⟩ := hS
      have skip : colS w n A p = A → ∀ L9 : List (Nat × Value), lkeep L9 [0, 1] = [(0, .ref (gad E 27)), (1, iV (k : Int))] → Z S₁ L9 95 [] := by
        intro hq L9 hL9
        refine g_keep hZ [0, 1] hL9 ?_
        refine g_iinc hZ dX9_collects_95 rfl (by decide) ?_
        refine g_goto hZ 2 dX9_collects_98 rfl ?_
        exact ih' S₁ _ (by omega) he (by rw [hq]; exact ⟨s1, s2⟩) rfl
      have out0 : colS w n A p = A → ∀ (l : Nat) (L9 : List (Nat × Value)), l ≤ A.length → lkeep L9 [0, 1, 2, 3] = [(0, .ref (gad E 27)), (1, iV (k : Int)), (2, iV 0), (3, iV (l : Int))] → Z S₁ L9 27 [] := by
        intro hq l L9 hl9 hL9
        refine g_keep hZ [0, 1, 2, 3] hL9 ?_
        refine g_iload_n hZ dX9_collects_27 rfl ?_
        refine g_aload_n hZ dX9_collects_28 rfl ?_
        refine g_geti hZ fX9_173 rfl rfl dX9_collects_29 s1 ?_
        refine g_icmp_ge hZ 66 dX9_collects_32 rfl (by omega) (fun c => ?_) (fun c => ?_)
        · refine g_iload_n hZ dX9_collects_66 rfl ?_
          refine g_if_eq hZ 95 dX9_collects_67 rfl (by omega) (fun _ => ?_) (fun cX => absurd (by omega) cX)
          exact skip hq _ rfl
        · refine g_iload_n hZ dX9_collects_35 rfl ?_
          refine g_if_eq hZ 66 dX9_collects_36 rfl (by omega) (fun _ => ?_) (fun cX => absurd (by omega) cX)
          refine g_iload_n hZ dX9_collects_66 rfl ?_
          refine g_if_eq hZ 95 dX9_collects_67 rfl (by omega) (fun _ => ?_) (fun cX => absurd (by omega) cX)
          exact skip hq _ rfl
      refine g_keep hZ [0, 1] hL9 ?_
      refine g_iload_n hZ dX9_collects_2 rfl ?_
      refine g_aload_n hZ dX9_collects_3 rfl ?_
      refine g_geti hZ fX9_135 rfl rfl dX9_collects_4 ((he 56 0 rfl).trans r1) ?_
      refine g_icmp_ge hZ 101 dX9_collects_7 rfl (by omega) (fun cX => absurd cX (by omega)) (fun _ => ?_)
      refine g_aload_n hZ dX9_collects_10 rfl ?_
      refine g_getr hZ fX9_41 rfl rfl dX9_collects_11 ?_
      refine g_iload_n hZ dX9_collects_14 rfl ?_
      refine g_zald hZ (k) rfl dX9_collects_15 (rfl) (by omega) (by decide) (hwp) ?_
      cases hgw : (GV w n true p).1 with
      | true =>
        refine g_if_ne hZ 23 dX9_collects_16 rfl ⟨by decide, by decide⟩ (fun _ => ?_) (fun cX => absurd cX (by decide))
        refine g_iconst hZ dX9_collects_23 ?_
        refine g_istore_n hZ dX9_collects_24 (by decide) ?_
        refine g_iconst hZ dX9_collects_25 ?_
        refine g_istore_n hZ dX9_collects_26 (by decide) ?_
        exact out0 (by unfold colS; rw [if_neg (fun q => by rw [hgw] at q; cases q.1)]) 0 _ (Nat.zero_le _) rfl
      | false =>
        refine g_if_ne hZ 23 dX9_collects_16 rfl ⟨by decide, by decide⟩ (fun cX => absurd (by decide) cX) (fun _ => ?_)
        have inner : ∀ (m2 l : Nat) (L9 : List (Nat × Value)), l + m2 = A.length → (∀ j, j < l → A[j]? ≠ some p) → lkeep L9 [0, 1, 2, 3] = [(0, .ref (gad E 27)), (1, iV (k : Int)), (2, iV 1), (3, iV (l : Int))] → Z S₁ L9 27 [] := by
          intro m2
          induction m2 with
          | zero =>
            intro l L9 hl9 hno hL9
            have hni : p ∉ A := fun hpA => by
              obtain ⟨j, hj⟩ := List.getElem?_of_mem hpA
              exact hno j (by have := (List.getElem?_eq_some_iff.mp hj).1; omega) hj
            have hq : colS w n A p = A ++ [p] := by unfold colS; rw [if_pos ⟨hgw, hni⟩]
            refine g_keep hZ [0, 1, 2, 3] hL9 ?_
            refine g_iload_n hZ dX9_collects_27 rfl ?_
            refine g_aload_n hZ dX9_collects_28 rfl ?_
            refine g_geti hZ fX9_173 rfl rfl dX9_collects_29 s1 ?_
            refine g_icmp_ge hZ 66 dX9_collects_32 rfl (by omega) (fun _ => ?_) (fun cX => absurd (by omega) cX)
            refine g_iload_n hZ dX9_collects_66 rfl ?_
            refine g_if_eq hZ 95 dX9_collects_67 rfl (by omega) (fun cX => absurd cX (by omega)) (fun _ => ?_)
            refine g_aload_n hZ dX9_collects_70 rfl ?_
            refine g_getr hZ fX9_48 rfl rfl dX9_collects_71 ?_
            refine g_aload_n hZ dX9_collects_74 rfl ?_
            refine g_geti hZ fX9_173 rfl rfl dX9_collects_75 s1 ?_
            refine g_aload_n hZ dX9_collects_78 rfl ?_
            refine g_getr hZ fX9_35 rfl rfl dX9_collects_79 ?_
            refine g_iload_n hZ dX9_collects_82 rfl ?_
            refine g_iald hZ (k) rfl dX9_collects_83 (rfl) (by omega) (by decide) (hcp) ?_
            refine g_iast hZ (A.length) rfl dX9_collects_84 (rfl) (by omega) (by decide) ?_
            refine g_aload_n hZ dX9_collects_85 rfl ?_
            refine g_dup hZ dX9_collects_86 rfl ?_
            refine g_geti hZ fX9_173 rfl rfl dX9_collects_87 s1 ?_
            refine g_iconst hZ dX9_collects_90 ?_
            refine g_iadd hZ dX9_collects_91 ?_
            refine g_puti hZ fX9_173 rfl rfl dX9_collects_92 ?_
            refine g_iinc hZ dX9_collects_95 rfl (by decide) ?_
            refine g_goto hZ 2 dX9_collects_98 rfl ?_
            refine ih' _ _ (by omega) ((he.up rfl).up rfl) ?_ rfl
            rw [hq]
            refine ⟨by rw [upS_eq, List.length_append]; simp, ?_⟩
            refine HL_add s2 (fun j hj => ?_) ?_
            · rw [upS_v _ _ (by decide), upS_j _ _ (by omega)]
            · rw [upS_v _ _ (by decide), upS_eq]
          | succ m2 ih2 =>
            intro l L9 hl9 hno hL9
            obtain ⟨x, hx⟩ : ∃ x, A[l]? = some x := ⟨_, List.getElem?_eq_getElem (by omega)⟩
            have hxl := hin x (List.mem_of_getElem? hx)
            have hsx : S₁ 71 l = (x : Int) := s2 l x hx
            refine g_keep hZ [0, 1, 2, 3] hL9 ?_
            refine g_iload_n hZ dX9_collects_27 rfl ?_
            refine g_aload_n hZ dX9_collects_28 rfl ?_
            refine g_geti hZ fX9_173 rfl rfl dX9_collects_29 s1 ?_
            refine g_icmp_ge hZ 66 dX9_collects_32 rfl (by omega) (fun cX => absurd cX (by omega)) (fun _ => ?_)
            refine g_iload_n hZ dX9_collects_35 rfl ?_
            refine g_if_eq hZ 66 dX9_collects_36 rfl (by omega) (fun cX => absurd cX (by omega)) (fun _ => ?_)
            refine g_aload_n hZ dX9_collects_39 rfl ?_
            refine g_getr hZ fX9_48 rfl rfl dX9_collects_40 ?_
            refine g_iload_n hZ dX9_collects_43 rfl ?_
            refine g_iald hZ (l) rfl dX9_collects_44 (rfl) (by omega) (by decide) (hsx) ?_
            refine g_aload_n hZ dX9_collects_45 rfl ?_
            refine g_getr hZ fX9_35 rfl rfl dX9_collects_46 ?_
            refine g_iload_n hZ dX9_collects_49 rfl ?_
            refine g_iald hZ (k) rfl dX9_collects_50 (rfl) (by omega) (by decide) (hcp) ?_
            refine g_icmp_eq hZ 58 dX9_collects_51 rfl (by omega) (fun c => ?_) (fun c => ?_)
            · have hq : colS w n A p = A := by unfold colS; rw [if_neg (fun q => q.2 (by rw [show p = x by omega]; exact List.mem_of_getElem? hx))]
              refine g_iconst hZ dX9_collects_58 ?_
              refine g_istore_n hZ dX9_collects_59 (by decide) ?_
              refine g_iinc hZ dX9_collects_60 rfl (by decide) ?_
              refine g_goto hZ 27 dX9_collects_63 rfl ?_
              exact out0 hq (l + 1) _ (by omega) rfl
            · refine g_iconst hZ dX9_collects_54 ?_
              refine g_goto hZ 59 dX9_collects_55 rfl ?_
              refine g_istore_n hZ dX9_collects_59 (by decide) ?_
              refine g_iinc hZ dX9_collects_60 rfl (by decide) ?_
              refine g_goto hZ 27 dX9_collects_63 rfl ?_
              refine ih2 (l + 1) _ (by omega) (fun j hj hj2 => ?_) rfl
              by_cases q : j = l
              · subst q; rw [hx] at hj2; cases hj2; omega
              · exact hno j (by omega) hj2
        refine g_iconst hZ dX9_collects_19 ?_
        refine g_goto hZ 24 dX9_collects_20 rfl ?_
        refine g_istore_n hZ dX9_collects_24 (by decide) ?_
        refine g_iconst hZ dX9_collects_25 ?_
        refine g_istore_n hZ dX9_collects_26 (by decide) ?_
        exact inner A.length 0 _ (by omega) (fun j hj => absurd hj (Nat.not_lt_zero j)) rfl
  refine g_iconst hZ dX9_collects_0 ?_
  refine g_istore_n hZ dX9_collects_1 (by decide) ?_
  exact outer L.length 0 S _ (by omega) Eqx.rf (by simpa using hLS) rfl
def zc (Lo : List Nat) (y : Nat) : Nat := Lo.countP (fun z => decide (z = y))
def zS (Lo : List Nat) (a x : Nat) : Nat := a + (if sdP x = 1 then zc Lo (x + 1073741824) else 0)
def zN (Lo : List Nat) : Nat := Lo.foldl (zS Lo) 0
def aZug (w n : Nat) (B : Nat → Int) : Int := match bfs (scP w n true) 1501 0 [stP n B 1] with
  | none => -1004
  | some L1 => match bfs (scP w n true) 1501 0 [stP n B 2] with
    | none => -1004
    | some L2 => (zN (L2.foldl (colS w n) (L1.foldl (colS w n) [])) : Int)
theorem gi_or30 {x : Nat} (h : x < 1073741824) : Int32.ofInt (x : Int) ||| Int32.ofInt 1073741824 = Int32.ofInt ((x + 1073741824 : Nat) : Int) := by
  have := gi_ors (a := x) (b := 1) (k := 30) (by omega)
  exact this
theorem t_X9_zugzwangs (E : gE) (S : gS) (w h n : Nat) (hg : mG S w h n) (hB : mBd (S 61) n) (hc : mC3 (S 61) n) : Ct E LAY mX9_zugzwangs [.ref (gad E 27)] S (fun r S' => Eqx [55, 56, 57, 62, 66, 67, 68, 69, 70, 71] S S' ∧ r = some (iV (aZug w n (S 61)))) := by
  have hn := hg.n15
  have hO := hg.2.2
  have hcl := cod_lt30 hn hB
  have hcc := cod_c3 hB hc
  refine Ct.intro LAY_ok (by decide +kernel) (Nat.le_of_ble_eq_true rfl) rfl ?_
  intro Z hZ
  have count : ∀ (S₁ : gS) (Lo : List Nat) (L9 : List (Nat × Value)), Eqx [55, 56, 57, 62, 66, 67, 68, 69, 70, 71] S S₁ → mLo S₁ Lo → (∀ p ∈ Lo, p < 2147483648) → Lo.length ≤ 3000 → aZug w n (S 61) = (zN Lo : Int) → lkeep L9 [0] = [(0, .ref (gad E 27))] → Z S₁ L9 39 [] := by
    intro S₁ Lo L9 he hLS hv hlen hA hL9
    obtain ⟨s1, s2⟩ := hLS
    refine g_keep hZ [0] hL9 ?_
    have outer : ∀ (m k : Nat) (L9 : List (Nat × Value)), k + m = Lo.length → lkeep L9 [0, 1, 2] = [(0, .ref (gad E 27)), (1, iV (((Lo.take k).foldl (zS Lo) 0 : Nat) : Int)), (2, iV (k : Int))] → Z S₁ L9 43 [] := by
      intro m
      induction m with
      | zero =>
        intro k L9 hk hL9
        rw [List.take_of_length_le (by omega)] at hL9
        refine g_keep hZ [0, 1, 2] hL9 ?_
        refine g_iload_n hZ dX9_zugzwangs_43 rfl ?_
        refine g_aload_n hZ dX9_zugzwangs_44 rfl ?_
        refine g_geti hZ fX9_173 rfl rfl dX9_zugzwangs_45 s1 ?_
        refine g_icmp_ge hZ 112 dX9_zugzwangs_48 rfl (by omega) (fun _ => ?_) (fun cX => absurd (by omega) cX)
        refine g_iload_n hZ dX9_zugzwangs_112 rfl ?_
        refine g_iret hZ dX9_zugzwangs_113 rfl ⟨he, by rw [hA]; rfl⟩
      | succ m ih =>
        intro k L9 hk hL9
        obtain ⟨x, hx⟩ : ∃ x, Lo[k]? = some x := ⟨_, List.getElem?_eq_getElem (by omega)⟩
        have hxl := hv x (List.mem_of_getElem? hx)
        have hsx : S₁ 71 k = (x : Int) := s2 k x hx
        have htk : (Lo.take (k + 1)).foldl (zS Lo) 0 = zS Lo ((Lo.take k).foldl (zS Lo) 0) x := by
          rw [List.take_add_one, hx, List.foldl_append]; rfl
        have ih' := ih (k + 1)
        rw [htk] at ih'
        generalize (Lo.take k).foldl (zS Lo) 0 = A at *
        have hsd := sdP_12 x
        have next : ∀ (a : Nat) (L9 : List (Nat × Value)), a = zS Lo A x → lkeep L9 [0, 1, 2] = [(0, .ref (gad E 27)), (1, iV (a : Int)), (2, iV (k : Int))] → Z S₁ L9 106 [] := by
          intro a L9 ha hL9
          refine g_keep hZ [0, 1, 2] hL9 ?_
          refine g_iinc hZ dX9_zugzwangs_106 rfl (by decide) ?_
          refine g_goto hZ 43 dX9_zugzwangs_109 rfl ?_
          exact ih' _ (by omega) (by rw [← ha]; rfl)
        refine g_keep hZ [0, 1, 2] hL9 ?_
        refine g_iload_n hZ dX9_zugzwangs_43 rfl ?_
        refine g_aload_n hZ dX9_zugzwangs_44 rfl ?_
        refine g_geti hZ fX9_173 rfl rfl dX9_zugzwangs_45 s1 ?_
        refine g_icmp_ge hZ 112 dX9_zugzwangs_48 rfl (by omega) (fun cX => absurd cX (by omega)) (fun _ => ?_)
        have inner : sdP x = 1 → ∀ (m2 l : Nat) (L9 : List (Nat × Value)), l + m2 = Lo.length → lkeep L9 [0, 1, 2, 3] = [(0, .ref (gad E 27)), (1, iV ((A + zc (Lo.take l) (x + 1073741824) : Nat) : Int)), (2, iV (k : Int)), (3, iV (l : Int))] → Z S₁ L9 53 [] := by
          intro hs1
          have hx30 : x < 1073741824 := by unfold sdP at hs1; omega
          intro m2
          induction m2 with
          | zero =>
            intro l L9 hl hL9
            rw [List.take_of_length_le (by omega)] at hL9
            refine g_keep hZ [0, 1, 2, 3] hL9 ?_
            refine g_iload_n hZ dX9_zugzwangs_53 rfl ?_
            refine g_aload_n hZ dX9_zugzwangs_54 rfl ?_
            refine g_geti hZ fX9_173 rfl rfl dX9_zugzwangs_55 s1 ?_
            refine g_icmp_ge hZ 106 dX9_zugzwangs_58 rfl (by omega) (fun _ => ?_) (fun cX => absurd (by omega) cX)
            exact next (A + zc Lo (x + 1073741824)) _ (by unfold zS; rw [if_pos hs1]) rfl
          | succ m2 ih2 =>
            intro l L9 hl hL9
            obtain ⟨y, hy⟩ : ∃ y, Lo[l]? = some y := ⟨_, List.getElem?_eq_getElem (by omega)⟩
            have hyl := hv y (List.mem_of_getElem? hy)
            have hsy : S₁ 71 l = (y : Int) := s2 l y hy
            have hz : zc (Lo.take (l + 1)) (x + 1073741824) = zc (Lo.take l) (x + 1073741824) + (if y = x + 1073741824 then 1 else 0) := by
              unfold zc
              rw [List.take_add_one, hy, List.countP_append]
              by_cases q : y = x + 1073741824 <;> simp [q]
            refine g_keep hZ [0, 1, 2, 3] hL9 ?_
            refine g_iload_n hZ dX9_zugzwangs_53 rfl ?_
            refine g_aload_n hZ dX9_zugzwangs_54 rfl ?_
            refine g_geti hZ fX9_173 rfl rfl dX9_zugzwangs_55 s1 ?_
            refine g_icmp_ge hZ 106 dX9_zugzwangs_58 rfl (by omega) (fun cX => absurd cX (by omega)) (fun _ => ?_)
            refine g_aload_n hZ dX9_zugzwangs_61 rfl ?_
            refine g_getr hZ fX9_48 rfl rfl dX9_zugzwangs_62 ?_
            refine g_iload_n hZ dX9_zugzwangs_65 rfl ?_
            refine g_iald hZ (k) rfl dX9_zugzwangs_66 (rfl) (by omega) (by decide) (hsx) ?_
            refine g_callS hZ (t_X9_sideOf E S₁ x hxl) kX9_141 ⟨by decide, by decide⟩ rfl rfl (Nat.le_of_ble_eq_true rfl) dX9_zugzwangs_67 ?_
            rintro _ _ ⟨rfl, rfl⟩
            refine g_iconst hZ dX9_zugzwangs_70 ?_
            refine g_icmp_ne hZ 106 dX9_zugzwangs_71 rfl (by omega) (fun cX => absurd (by omega) cX) (fun _ => ?_)
            refine g_iload_n hZ dX9_zugzwangs_74 rfl ?_
            refine g_aload_n hZ dX9_zugzwangs_75 rfl ?_
            refine g_getr hZ fX9_48 rfl rfl dX9_zugzwangs_76 ?_
            refine g_iload_n hZ dX9_zugzwangs_79 rfl ?_
            refine g_iald hZ (l) rfl dX9_zugzwangs_80 (rfl) (by omega) (by decide) (hsy) ?_
            refine g_aload_n hZ dX9_zugzwangs_81 rfl ?_
            refine g_getr hZ fX9_48 rfl rfl dX9_zugzwangs_82 ?_
            refine g_iload_n hZ dX9_zugzwangs_85 rfl ?_
            refine g_iald hZ (k) rfl dX9_zugzwangs_86 (rfl) (by omega) (by decide) (hsx) ?_
            refine g_ldc hZ (z := 1073741824) dX9_zugzwangs_87 (TS_m (by decide +kernel) rfl) ?_
            refine g_ior hZ dX9_zugzwangs_89 (gi_or30 hx30) ?_
            refine g_icmp_ne hZ 97 dX9_zugzwangs_90 rfl (by omega) (fun c => ?_) (fun c => ?_)
            · rw [if_neg (by omega)] at hz
              refine g_iconst hZ dX9_zugzwangs_97 ?_
              refine g_iadd hZ dX9_zugzwangs_98 ?_
              refine g_istore_n hZ dX9_zugzwangs_99 (by decide) ?_
              refine g_iinc hZ dX9_zugzwangs_100 rfl (by decide) ?_
              refine g_goto hZ 53 dX9_zugzwangs_103 rfl ?_
              refine ih2 (l + 1) _ (by omega) ?_
              rw [hz]
              show [_, (1, iV (((A + zc (Lo.take l) (x + 1073741824) : Nat) : Int) + 0)), _, _] = _
              rw [Int.add_zero]; rfl
            · rw [if_pos (by omega)] at hz
              refine g_iconst hZ dX9_zugzwangs_93 ?_
              refine g_goto hZ 98 dX9_zugzwangs_94 rfl ?_
              refine g_iadd hZ dX9_zugzwangs_98 ?_
              refine g_istore_n hZ dX9_zugzwangs_99 (by decide) ?_
              refine g_iinc hZ dX9_zugzwangs_100 rfl (by decide) ?_
              refine g_goto hZ 53 dX9_zugzwangs_103 rfl ?_
              refine ih2 (l + 1) _ (by omega) ?_
              rw [hz]
              rfl
        refine g_iconst hZ dX9_zugzwangs_51 ?_
        refine g_istore_n hZ dX9_zugzwangs_52 (by decide) ?_
        by_cases hs1 : sdP x = 1
        · exact inner hs1 Lo.length 0 _ (by omega) (by unfold zc; simp; rfl)
        · refine g_iload_n hZ dX9_zugzwangs_53 rfl ?_
          refine g_aload_n hZ dX9_zugzwangs_54 rfl ?_
          refine g_geti hZ fX9_173 rfl rfl dX9_zugzwangs_55 s1 ?_
          refine g_icmp_ge hZ 106 dX9_zugzwangs_58 rfl (by omega) (fun cX => absurd cX (by omega)) (fun _ => ?_)
          refine g_aload_n hZ dX9_zugzwangs_61 rfl ?_
          refine g_getr hZ fX9_48 rfl rfl dX9_zugzwangs_62 ?_
          refine g_iload_n hZ dX9_zugzwangs_65 rfl ?_
          refine g_iald hZ (k) rfl dX9_zugzwangs_66 (rfl) (by omega) (by decide) (hsx) ?_
          refine g_callS hZ (t_X9_sideOf E S₁ x hxl) kX9_141 ⟨by decide, by decide⟩ rfl rfl (Nat.le_of_ble_eq_true rfl) dX9_zugzwangs_67 ?_
          rintro _ _ ⟨rfl, rfl⟩
          refine g_iconst hZ dX9_zugzwangs_70 ?_
          refine g_icmp_ne hZ 106 dX9_zugzwangs_71 rfl (by omega) (fun _ => ?_) (fun cX => absurd cX (by omega))
          exact next A _ (by unfold zS; rw [if_neg hs1]; simp) rfl
    refine g_iconst hZ dX9_zugzwangs_39 ?_
    refine g_istore_n hZ dX9_zugzwangs_40 (by decide) ?_
    refine g_iconst hZ dX9_zugzwangs_41 ?_
    refine g_istore_n hZ dX9_zugzwangs_42 (by decide) ?_
    exact outer Lo.length 0 _ (by omega) (by simp; rfl)
  have one : ∀ (s : Nat), (s = 1 ∨ s = 2) → ∀ (S₁ : gS) (Lo : List Nat) (L9 : List (Nat × Value)), Eqx [55, 56, 57, 62, 66, 67, 68, 69, 70, 71] S S₁ → mLo S₁ Lo → (∀ p ∈ Lo, p < 2147483648) → Lo.length ≤ 1500 → (bfs (scP w n true) 1501 0 [stP n (S 61) s] = none → aZug w n (S 61) = -1004) → (∀ (S₂ : gS) (L L9 : List (Nat)), True → True) → (∀ (S₂ : gS) (L : List Nat) (L9 : List (Nat × Value)), bfs (scP w n true) 1501 0 [stP n (S 61) s] = some L → L.length ≤ 1500 → (∀ p ∈ L, p < 2147483648) → Eqx [55, 56, 57, 62, 66, 67, 68, 69, 70, 71] S S₂ → mLo S₂ (L.foldl (colS w n) Lo) → lkeep L9 [0, 1] = [(0, .ref (gad E 27)), (1, iV ((s + 1 : Nat) : Int))] → Z S₂ L9 7 []) → lkeep L9 [0, 1] = [(0, .ref (gad E 27)), (1, iV (s : Int))] → Z S₁ L9 7 [] := by
    intro s hs S₁ Lo L9 he hLS hv hlen hno _ cont hL9
    have hg₁ := hg.x he rfl rfl
    have e61 : S₁ 61 = S 61 := funext fun j => he 61 j rfl
    have hp0 : vP n (stP n (S 61) s) := vP_start hn hcl hcc hs
    refine g_keep hZ [0, 1] hL9 ?_
    refine g_iload_n hZ dX9_zugzwangs_7 rfl ?_
    refine g_iconst hZ dX9_zugzwangs_8 ?_
    refine g_icmp_ge hZ 39 dX9_zugzwangs_9 rfl (by omega) (fun cX => absurd cX (by omega)) (fun _ => ?_)
    refine g_aload_n hZ dX9_zugzwangs_12 rfl ?_
    refine g_aload_n hZ dX9_zugzwangs_13 rfl ?_
    refine g_iconst hZ dX9_zugzwangs_14 ?_
    refine g_callV hZ (t_X9_coded E S₁ w h n hg₁ (by rw [e61]; exact hB) (-1) (by omega) (fun q => by omega)) kX9_150 ⟨by decide, by decide⟩ rfl rfl rfl rfl (Nat.le_of_ble_eq_true rfl) dX9_zugzwangs_15 ?_
    rintro _ _ ⟨rfl, rfl⟩
    rw [alnB_m1, e61]
    refine g_iload_n hZ dX9_zugzwangs_18 rfl ?_
    have hwb := winF_bd (w := w) (n := n) (c := cod (S 61) n) (s := s)
    refine g_callV hZ (t_X9_winsFrom E S₁ w h n hg₁ (cod (S 61) n) hcl hcc s hs) kX9_167 ⟨by decide, by decide⟩ rfl rfl rfl rfl (Nat.le_of_ble_eq_true rfl) dX9_zugzwangs_19 ?_
    rintro _ S₂ ⟨he₂, rfl, hRW⟩
    have he₁₂ : Eqx [55, 56, 57, 62, 66, 67, 68, 69, 70, 71] S S₂ := he.tr (he₂.mono rfl)
    cases q : bfs (scP w n true) 1501 0 [stP n (S 61) s] with
    | none =>
      have ew : winF w n (cod (S 61) n) s = -1004 := by unfold winF; unfold stP at q; rw [q]
      refine g_if_ge hZ 29 dX9_zugzwangs_22 rfl (by omega) (fun cX => absurd cX (by omega)) (fun _ => ?_)
      refine g_sipush hZ (z := (-1004)) dX9_zugzwangs_25 rfl ?_
      refine g_iret hZ dX9_zugzwangs_28 rfl ⟨he₁₂, by rw [hno q]⟩
    | some L =>
      have ew : winF w n (cod (S 61) n) s = b2i (GV w n true (stP n (S 61) s)).1 := by unfold winF stP; unfold stP at q; rw [q]
      have h01 := b2i_01 (GV w n true (stP n (S 61) s)).1
      obtain ⟨hRS, hW⟩ := hRW L q
      obtain ⟨hOK, h0⟩ := bfs_ok0 hO hp0 q
      have hLS₂ : mLo S₂ Lo := ⟨(he₂ 57 0 rfl).trans hLS.1, by rw [show S₂ 71 = S₁ 71 from funext fun j => he₂ 71 j rfl]; exact hLS.2⟩
      refine g_if_ge hZ 29 dX9_zugzwangs_22 rfl (by omega) (fun _ => ?_) (fun cX => absurd (by omega) cX)
      refine g_aload_n hZ dX9_zugzwangs_29 rfl ?_
      refine g_callV hZ (t_X9_collects E S₂ w n L Lo hRS hW (fun p hp => (hOK.2.2.1 p hp).1) hLS₂ hv (by have := hOK.2.1; omega)) kX9_176 ⟨by decide, by decide⟩ rfl rfl rfl rfl (Nat.le_of_ble_eq_true rfl) dX9_zugzwangs_30 ?_
      rintro _ S₃ ⟨rfl, he₃, hLS₃⟩
      refine g_iinc hZ dX9_zugzwangs_33 rfl (by decide) ?_
      refine g_goto hZ 7 dX9_zugzwangs_36 rfl ?_
      exact cont S₃ L _ q hOK.2.1 (fun p hp => (hOK.2.2.1 p hp).1) (he₁₂.tr (he₃.mono rfl)) hLS₃ rfl
  refine g_aload_n hZ dX9_zugzwangs_0 rfl ?_
  refine g_iconst hZ dX9_zugzwangs_1 ?_
  refine g_puti hZ fX9_173 rfl rfl dX9_zugzwangs_2 ?_
  refine g_iconst hZ dX9_zugzwangs_5 ?_
  refine g_istore_n hZ dX9_zugzwangs_6 (by decide) ?_
  refine one 1 (Or.inl rfl) _ [] _ (Eqx.rf.up rfl) ⟨upS_eq _ _ _ _, HL_nil _ _⟩ (by simp) (by simp) (fun q => by unfold aZug; rw [q]) (fun _ _ _ _ => trivial) ?_ rfl
  intro S₂ L₁ L9 hb₁ hl₁ hv₁ he₂ hLS₂ hL9
  have hcl1 := col_len w n L₁ []
  have hvc1 : ∀ p ∈ L₁.foldl (colS w n) [], p < 2147483648 := fun p hp => by
    rcases col_in _ _ p hp with z | z
    · simp at z
    · exact hv₁ p z
  refine one 2 (Or.inr rfl) S₂ _ L9 he₂ hLS₂ hvc1 (by simp at hcl1; omega) (fun q => by unfold aZug; rw [hb₁]; simp only [q]) (fun _ _ _ _ => trivial) ?_ hL9
  intro S₃ L₂ L9 hb₂ hl₂ hv₂ he₃ hLS₃ hL9
  have hcl2 := col_len w n L₂ (L₁.foldl (colS w n) [])
  refine g_keep hZ [0, 1] hL9 ?_
  refine g_iload_n hZ dX9_zugzwangs_7 rfl ?_
  refine g_iconst hZ dX9_zugzwangs_8 ?_
  refine g_icmp_ge hZ 39 dX9_zugzwangs_9 rfl (by omega) (fun _ => ?_) (fun cX => absurd (by omega) cX)
  refine count S₃ _ _ he₃ hLS₃ (fun p hp => ?_) (by simp at hcl1; omega) ?_ rfl
  · rcases col_in _ _ p hp with z | z
    · exact hvc1 p z
    · exact hv₂ p z
  · unfold aZug
    rw [hb₁]
    simp only [hb₂]
