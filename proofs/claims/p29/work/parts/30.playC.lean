/-! the class: Play: explore -/
def bfsK (sc : Nat → List Nat) (f k : Nat) : Option (List Nat) → Option (List Nat)
  | none => none
  | some L2 => bfs sc f (k + 1) L2
theorem bfs_st {sc : Nat → List Nat} {f k p : Nat} {L : List Nat} (h : L[k]? = some p) : bfs sc (f + 1) k L = bfsK sc f k (addL L (sc p)) := by
  rw [bfs, h]
  cases h2 : addL L (sc p) with
  | none => simp [bfsK, h2]
  | some l => simp [bfsK, h2]
theorem addL_one {L : List Nat} {c : Nat} {r : List Nat} : addL L (c :: r) = match addL L [c] with | none => none | some l => addL l r := by
  rw [addL, addL]
  by_cases h : c ∈ L
  · rw [if_pos h, if_pos h]; rfl
  · rw [if_neg h, if_neg h]
    by_cases h2 : L.length = 1500
    · rw [if_pos h2, if_pos h2]
    · rw [if_neg h2, if_neg h2]; rfl
theorem t_X4_exploreL (E : gE) (S : gS) (w h n : Nat) (hg : xG S w h n) (alt : Bool) (p0 : Nat) (hp0 : qP n alt p0 p0) : Ct E LAY mX4_explore [.ref (gad E 5), jV (xP n p0 : Int), iV (sdP p0 : Int), iV ((cond alt (3 - sdP p0) (sdP p0) : Nat) : Int)] S (fun r S' => Eqx [6, 7, 10, 11, 12, 13, 16] S S' ∧ S' 10 0 = (sdP p0 : Int) ∧ S' 11 0 = ((cond alt (3 - sdP p0) (sdP p0) : Nat) : Int) ∧ ∃ z, r = some (iV z) ∧ ((z = 0 ∧ bfs (scP w n alt) 1501 0 [p0] = none) ∨ (z = 1 ∧ ∃ L, bfs (scP w n alt) 1501 0 [p0] = some L ∧ PS S' 12 13 16 (L.map (xP n))))) := by
  have hn := hg.n15
  have hO := hg.o
  generalize hs2 : (cond alt (3 - sdP p0) (sdP p0) : Nat) = s2
  refine Ct.intro LAY_ok (by decide +kernel) (Nat.le_of_ble_eq_true rfl) rfl ?_
  intro Z hZ
  generalize hR0 : bfs (scP w n alt) 1501 0 [p0] = R0 at hZ
  have outer : ∀ (f k : Nat) (L : List Nat) (S₁ : gS) (L9 : List (Nat × Value)), f + k = 1501 → k ≤ L.length → Eqx [6, 7, 10, 11, 12, 13, 16] S S₁ → S₁ 10 0 = (sdP p0 : Int) → S₁ 11 0 = (s2 : Int) → PS S₁ 12 13 16 (L.map (xP n)) → (∀ p ∈ L, qP n alt p0 p) → L[0]? = some p0 → L.Nodup → L.length ≤ 1500 → bfs (scP w n alt) f k L = R0 → lkeep L9 [0, 5] = [(0, .ref (gad E 5)), (5, iV (k : Int))] → Z S₁ L9 50 [] := by
    intro f
    induction f with
    | zero =>
      intro k L S₁ L9 hf hk he h1 h2 hPS hv h0 hnd hle hb hL9
      omega
    | succ f ihf =>
      intro k L S₁ L9 hf hk he h1 h2 hPS hv h0 hnd hle hb hL9
      have hsz : S₁ 12 0 = (L.length : Int) := by rw [hPS.1, List.length_map]
      have hg₁ := hg.x he rfl
      refine g_keep hZ [0, 5] hL9 ?_
      by_cases hkl : k < L.length
      · obtain ⟨p, hp⟩ : ∃ p, L[k]? = some p := ⟨_, List.getElem?_eq_getElem hkl⟩
        rw [bfs_st hp] at hb
        have hq := hv p (List.mem_of_getElem? hp)
        have hpv := hq.1
        have hsd := sdP_12 p
        have hml := scP_len hO hpv
        have hfk : S₁ 13 k = (xP n p : Int) := hPS.2.1 k (xP n p) (by rw [List.getElem?_map, hp]; rfl)
        have hf0 : S₁ 13 0 = (xP n p0 : Int) := hPS.2.1 0 (xP n p0) (by rw [List.getElem?_map, h0]; rfl)
        refine g_iload hZ dX4_explore_50 rfl ?_
        refine g_aload_n hZ dX4_explore_52 rfl ?_
        refine g_geti hZ fX4_30 rfl rfl dX4_explore_53 hsz ?_
        refine g_icmp_ge hZ 145 dX4_explore_56 rfl (by omega) (fun cX => absurd cX (by omega)) (fun _ => ?_)
        refine g_iload hZ dX4_explore_59 rfl ?_
        refine g_sipush hZ (z := 1500) dX4_explore_61 rfl ?_
        refine g_icmp_ge hZ 145 dX4_explore_64 rfl (by omega) (fun cX => absurd cX (by omega)) (fun _ => ?_)
        refine g_aload_n hZ dX4_explore_67 rfl ?_
        refine g_iload hZ dX4_explore_68 rfl ?_
        refine g_callV hZ (t_X4_sideAtL E S₁ n hn k (xP n p0) (xP n p) (bdP p0) (bdP p) (xP_ok n p0) (xP_ok n p) hf0 hfk (by omega) hq.2.1 (sdP p0 : Int) (s2 : Int) h1 h2) kX4_44 ⟨by decide, by decide⟩ rfl rfl rfl rfl (Nat.le_of_ble_eq_true rfl) dX4_explore_70 ?_
        rintro _ _ ⟨rfl, rfl⟩
        have esd : (if (cntZ (bdP p) 3 n - cntZ (bdP p0) 3 n) % 2 = 0 then (sdP p0 : Int) else (s2 : Int)) = (sdP p : Int) := by
          rw [hq.2.2.1]
          unfold sdF bcP
          rw [hs2]
          split <;> rfl
        rw [esd]
        refine g_istore hZ dX4_explore_73 (by decide) ?_
        refine g_aload_n hZ dX4_explore_75 rfl ?_
        refine g_getr hZ fX4_26 rfl rfl dX4_explore_76 ?_
        refine g_aload_n hZ dX4_explore_79 rfl ?_
        refine g_getr hZ fX4_9 rfl rfl dX4_explore_80 ?_
        refine g_iload hZ dX4_explore_83 rfl ?_
        refine g_lald hZ (k) rfl dX4_explore_85 (rfl) (by omega) (by decide) (hfk) ?_
        refine g_iload hZ dX4_explore_86 rfl ?_
        refine g_callV hZ (t_X3_fill E S₁ w h n hg₁ (xP n p) (bdP p) (xP_ok n p) (bdP_bd p n) (sdP p) (by omega) (hpv.2.s hsd)) kX4_48 ⟨by decide, by decide⟩ rfl rfl rfl rfl (Nat.le_of_ble_eq_true rfl) dX4_explore_88 ?_
        rintro _ S₂ ⟨rfl, he₂, hx₂⟩
        have he₃ : Eqx [6, 7, 10, 11, 12, 13, 16] S S₂ := he.tr (he₂.mono rfl)
        have hPS₂ := hPS.x he₂ rfl rfl rfl
        have inner : ∀ (m j : Nat) (L : List Nat) (S₃ : gS) (L9 : List (Nat × Value)), j + m = (mvs w n (bdP p) (sdP p : Int)).length → Eqx [12, 13, 16] S₂ S₃ → PS S₃ 12 13 16 (L.map (xP n)) → (∀ p ∈ L, qP n alt p0 p) → L[0]? = some p0 → L[k]? = some p → L.Nodup → L.length ≤ 1500 → bfsK (scP w n alt) f k (addL L ((scP w n alt p).drop j)) = R0 → lkeep L9 [0, 5, 6, 7] = [(0, .ref (gad E 5)), (5, iV (k : Int)), (6, iV (sdP p : Int)), (7, iV (j : Int))] → Z S₃ L9 94 [] := by
          intro m
          induction m with
          | zero =>
            intro j L S₃ L9 hj he₄ hPS₃ hv₃ h0₃ hk₃ hnd₃ hle₃ hb₃ hL9
            rw [List.drop_eq_nil_of_le (by unfold scP; rw [List.length_map]; omega)] at hb₃
            have hx₃ := hx₂.x he₄ rfl rfl
            refine g_keep hZ [0, 5, 6, 7] hL9 ?_
            refine g_iload hZ dX4_explore_94 rfl ?_
            refine g_aload_n hZ dX4_explore_96 rfl ?_
            refine g_getr hZ fX4_26 rfl rfl dX4_explore_97 ?_
            refine g_geti hZ fX4_54 rfl rfl dX4_explore_100 hx₃.1 ?_
            refine g_icmp_ge hZ 139 dX4_explore_103 rfl (by omega) (fun _ => ?_) (fun cX => absurd (by omega) cX)
            refine g_iinc hZ dX4_explore_139 rfl (by decide) ?_
            refine g_goto hZ 50 dX4_explore_142 rfl ?_
            exact ihf (k + 1) L S₃ _ (by omega) (List.getElem?_eq_some_iff.mp hk₃).1 (he₃.tr (he₄.mono rfl)) ((he₄ 10 0 rfl).trans ((he₂ 10 0 rfl).trans h1)) ((he₄ 11 0 rfl).trans ((he₂ 11 0 rfl).trans h2)) hPS₃ hv₃ h0₃ hnd₃ hle₃ hb₃ rfl
          | succ m ih =>
            intro j L S₃ L9 hj he₄ hPS₃ hv₃ h0₃ hk₃ hnd₃ hle₃ hb₃ hL9
            have hx₃ := hx₂.x he₄ rfl rfl
            obtain ⟨q, hqj⟩ : ∃ q, (mvs w n (bdP p) (sdP p : Int))[j]? = some q := ⟨_, List.getElem?_eq_getElem (by omega)⟩
            have hqm := List.mem_of_getElem? hqj
            have hnf := nxP_facts (alt := alt) hO hqm
            have hsc : (scP w n alt p)[j]? = some (nxP n alt p q) := by unfold scP; rw [List.getElem?_map, hqj]; rfl
            have hdr : (scP w n alt p).drop j = nxP n alt p q :: (scP w n alt p).drop (j + 1) := by
              have hjl := (List.getElem?_eq_some_iff.mp hsc)
              rw [List.drop_eq_getElem_cons hjl.1, hjl.2]
            have hqc : qP n alt p0 (nxP n alt p q) := qP_nx hO hq _ (List.mem_map.mpr ⟨q, hqm, rfl⟩)
            have hfk₃ : S₃ 13 k = (xP n p : Int) := hPS₃.2.1 k (xP n p) (by rw [List.getElem?_map, hk₃]; rfl)
            rw [hdr, addL_one] at hb₃
            refine g_keep hZ [0, 5, 6, 7] hL9 ?_
            refine g_iload hZ dX4_explore_94 rfl ?_
            refine g_aload_n hZ dX4_explore_96 rfl ?_
            refine g_getr hZ fX4_26 rfl rfl dX4_explore_97 ?_
            refine g_geti hZ fX4_54 rfl rfl dX4_explore_100 hx₃.1 ?_
            refine g_icmp_ge hZ 139 dX4_explore_103 rfl (by omega) (fun cX => absurd cX (by omega)) (fun _ => ?_)
            refine g_aload_n hZ dX4_explore_106 rfl ?_
            refine g_aload_n hZ dX4_explore_107 rfl ?_
            refine g_getr hZ fX4_26 rfl rfl dX4_explore_108 ?_
            refine g_aload_n hZ dX4_explore_111 rfl ?_
            refine g_getr hZ fX4_9 rfl rfl dX4_explore_112 ?_
            refine g_iload hZ dX4_explore_115 rfl ?_
            refine g_lald hZ (k) rfl dX4_explore_117 (rfl) (by omega) (by decide) (hfk₃) ?_
            refine g_iload hZ dX4_explore_118 rfl ?_
            refine g_iload hZ dX4_explore_120 rfl ?_
            refine g_callV hZ (t_X3_after E S₃ w h n hO (xP n p) (bdP p) (xP_ok n p) (sdP p) (by omega) j (by omega) q (hx₃.2 j q hqj) hqm) kX4_55 ⟨by decide, by decide⟩ rfl rfl rfl rfl (Nat.le_of_ble_eq_true rfl) dX4_explore_122 ?_
            rintro _ _ ⟨rfl, y, rfl, hy⟩
            have ey : y = xP n (nxP n alt p q) := rep_eq hy (rep_cong (xP_ok n (nxP n alt p q)) hnf.2.2)
            subst ey
            refine g_callV hZ (t_X4_addL E S₃ (L.map (xP n)) hPS₃ (xP n (nxP n alt p q)) (xP_lt n _)) kX4_40 ⟨by decide, by decide⟩ rfl rfl rfl rfl (Nat.le_of_ble_eq_true rfl) dX4_explore_125 ?_
            rintro _ S₄ ⟨z, rfl, he₅, hz⟩
            have eax := addL_x hn [nxP n alt p q] L hv₃ (fun x hx => by rw [List.mem_singleton] at hx; subst hx; exact hqc)
            rw [show ([nxP n alt p q] : List Nat).map (xP n) = [xP n (nxP n alt p q)] from rfl] at eax
            have he₆ : Eqx [12, 13, 16] S₂ S₄ := he₄.tr he₅
            rcases hz with ⟨rfl, hz⟩ | ⟨L2, rfl, hz, hPS₄⟩
            · rw [hz] at eax
              cases ha : addL L [nxP n alt p q] with
              | some l => rw [ha] at eax; cases eax
              | none =>
                rw [ha] at hb₃
                refine g_if_ne hZ 133 dX4_explore_128 rfl (by omega) (fun cX => absurd (by omega) cX) (fun _ => ?_)
                refine g_iconst hZ dX4_explore_131 ?_
                refine g_zret hZ dX4_explore_132 rfl (Or.inl rfl) ⟨he₃.tr (he₆.mono rfl), (he₆ 10 0 rfl).trans ((he₂ 10 0 rfl).trans h1), (he₆ 11 0 rfl).trans ((he₂ 11 0 rfl).trans h2), 0, rfl, Or.inl ⟨rfl, hb₃.symm⟩⟩
            · rw [hz] at eax
              cases ha : addL L [nxP n alt p q] with
              | none => rw [ha] at eax; cases eax
              | some l =>
                rw [ha] at eax hb₃
                cases eax
                obtain ⟨⟨N, hN, hN2⟩, hnd₄, hle₄, -⟩ := addL_ok ha hnd₃ hle₃
                refine g_if_ne hZ 133 dX4_explore_128 rfl (by omega) (fun _ => ?_) (fun cX => absurd cX (by omega))
                refine g_iinc hZ dX4_explore_133 rfl (by decide) ?_
                refine g_goto hZ 94 dX4_explore_136 rfl ?_
                refine ih (j + 1) l S₄ _ (by omega) he₆ hPS₄ (fun x hx => ?_) ?_ ?_ hnd₄ hle₄ hb₃ rfl
                · rw [hN] at hx
                  rcases List.mem_append.mp hx with z | z
                  · exact hv₃ x z
                  · have := hN2 x z
                    rw [List.mem_singleton] at this
                    subst this
                    exact hqc
                · rw [hN, List.getElem?_append_left (by have := (List.getElem?_eq_some_iff.mp h0₃).1; omega)]; exact h0₃
                · rw [hN, List.getElem?_append_left (List.getElem?_eq_some_iff.mp hk₃).1]; exact hk₃
        refine g_iconst hZ dX4_explore_91 ?_
        refine g_istore hZ dX4_explore_92 (by decide) ?_
        exact inner _ 0 L S₂ _ (Nat.zero_add _) Eqx.rf hPS₂ hv h0 hp hnd hle hb rfl
      · have : k = L.length := by omega
        have hb2 : some L = R0 := by
          rw [bfs, List.getElem?_eq_none (by omega)] at hb
          exact hb
        refine g_iload hZ dX4_explore_50 rfl ?_
        refine g_aload_n hZ dX4_explore_52 rfl ?_
        refine g_geti hZ fX4_30 rfl rfl dX4_explore_53 hsz ?_
        refine g_icmp_ge hZ 145 dX4_explore_56 rfl (by omega) (fun _ => ?_) (fun cX => absurd (by omega) cX)
        refine g_iconst hZ dX4_explore_145 ?_
        refine g_zret hZ dX4_explore_146 rfl (Or.inr rfl) ⟨he, h1, h2, 1, rfl, Or.inr ⟨rfl, L, hb2.symm, hPS⟩⟩
  have clr : ∀ (m k : Nat), k + m = 4096 → Z (setRow S 16 k (fun _ => 0)) [(0, .ref (gad E 5)), (1, jV (xP n p0 : Int)), (3, iV (sdP p0 : Int)), (4, iV (s2 : Int)), (5, iV (k : Int))] 3 [] := by
    intro m
    induction m with
    | zero =>
      intro k hk
      have : k = 4096 := by omega
      subst this
      refine g_iload hZ dX4_explore_3 rfl ?_
      refine g_sipush hZ (z := 4096) dX4_explore_5 rfl ?_
      refine g_icmp_ge hZ 25 dX4_explore_8 rfl (by omega) (fun _ => ?_) (fun cX => absurd (by omega) cX)
      refine g_aload_n hZ dX4_explore_25 rfl ?_
      refine g_iconst hZ dX4_explore_26 ?_
      refine g_puti hZ fX4_30 rfl rfl dX4_explore_27 ?_
      refine g_aload_n hZ dX4_explore_30 rfl ?_
      refine g_iload_n hZ dX4_explore_31 rfl ?_
      refine g_puti hZ fX4_34 rfl rfl dX4_explore_32 ?_
      refine g_aload_n hZ dX4_explore_35 rfl ?_
      refine g_iload hZ dX4_explore_36 rfl ?_
      refine g_puti hZ fX4_37 rfl rfl dX4_explore_38 ?_
      refine g_aload_n hZ dX4_explore_41 rfl ?_
      refine g_lload_n hZ dX4_explore_42 rfl ?_
      have he₀ : Eqx [6, 7, 10, 11, 12, 13, 16] S (upS (upS (upS (setRow S 16 4096 (fun _ => 0)) 12 0 0) 10 0 (sdP p0 : Int)) 11 0 (s2 : Int)) := (((Eqx.rf.row rfl).up rfl).up rfl).up rfl
      have hPS₀ : PS (upS (upS (upS (setRow S 16 4096 (fun _ => 0)) 12 0 0) 10 0 (sdP p0 : Int)) 11 0 (s2 : Int)) 12 13 16 [] := by
        refine ⟨?_, fun i c hi => by simp at hi, ht_nil 4096 hC (fun s hs => ?_), List.nodup_nil, by simp, fun x hx => by simp at hx⟩
        · rw [upS_v _ _ (by decide), upS_v _ _ (by decide), upS_eq]; rfl
        · rw [upS_v _ _ (by decide), upS_v _ _ (by decide), upS_v _ _ (by decide), setRow_in _ _ hs]
      have h1₀ : (upS (upS (upS (setRow S 16 4096 (fun _ => 0)) 12 0 0) 10 0 (sdP p0 : Int)) 11 0 (s2 : Int)) 10 0 = (sdP p0 : Int) := by rw [upS_v _ _ (by decide), upS_eq]
      have h2₀ : (upS (upS (upS (setRow S 16 4096 (fun _ => 0)) 12 0 0) 10 0 (sdP p0 : Int)) 11 0 (s2 : Int)) 11 0 = (s2 : Int) := upS_eq _ _ _ _
      generalize (upS (upS (upS (setRow S 16 4096 (fun _ => 0)) 12 0 0) 10 0 (sdP p0 : Int)) 11 0 (s2 : Int)) = S₀ at *
      refine g_callV hZ (t_X4_addL E S₀ [] hPS₀ (xP n p0) (xP_lt n p0)) kX4_40 ⟨by decide, by decide⟩ rfl rfl rfl rfl (Nat.le_of_ble_eq_true rfl) dX4_explore_43 ?_
      rintro _ S₁ ⟨z, rfl, he₁, hz⟩
      rcases hz with ⟨-, hz⟩ | ⟨L2, -, hz, hPS₁⟩
      · cases hz
      · cases hz
        refine g_pop hZ dX4_explore_46 rfl ?_
        refine g_iconst hZ dX4_explore_47 ?_
        refine g_istore hZ dX4_explore_48 (by decide) ?_
        refine outer 1501 0 [p0] S₁ _ rfl (Nat.zero_le _) (he₀.tr (he₁.mono rfl)) ((he₁ 10 0 rfl).trans h1₀) ((he₁ 11 0 rfl).trans h2₀) hPS₁ (fun p hp => ?_) rfl (by simp) (by simp) hR0 rfl
        rw [List.mem_singleton] at hp
        subst hp
        exact hp0
    | succ m ih =>
      intro k hk
      refine g_iload hZ dX4_explore_3 rfl ?_
      refine g_sipush hZ (z := 4096) dX4_explore_5 rfl ?_
      refine g_icmp_ge hZ 25 dX4_explore_8 rfl (by omega) (fun cX => absurd cX (by omega)) (fun _ => ?_)
      refine g_aload_n hZ dX4_explore_11 rfl ?_
      refine g_getr hZ fX4_23 rfl rfl dX4_explore_12 ?_
      refine g_iload hZ dX4_explore_15 rfl ?_
      refine g_iconst hZ dX4_explore_17 ?_
      refine g_iast hZ (k) rfl dX4_explore_18 (rfl) (by omega) (by decide) ?_
      refine g_iinc hZ dX4_explore_19 rfl (by decide) ?_
      refine g_goto hZ 3 dX4_explore_22 rfl ?_
      have e1 := setRow_succ S 16 k (fun _ => 0)
      refine g_state hZ e1 ?_
      exact ih (k + 1) (by omega)
  refine g_iconst hZ dX4_explore_0 ?_
  refine g_istore hZ dX4_explore_1 (by decide) ?_
  have := clr 4096 0 (by omega)
  rw [setRow_0] at this
  exact this
theorem t_X4_exploreR (E : gE) (S : gS) (w h n : Nat) (hg : xG S w h n) (alt : Bool) (p0 : Nat) (hp0 : qP n alt p0 p0) : Ct E LAY mX4_explore [.ref (gad E 10), jV (xP n p0 : Int), iV (sdP p0 : Int), iV ((cond alt (3 - sdP p0) (sdP p0) : Nat) : Int)] S (fun r S' => Eqx [6, 7, 20, 21, 22, 23, 26] S S' ∧ S' 20 0 = (sdP p0 : Int) ∧ S' 21 0 = ((cond alt (3 - sdP p0) (sdP p0) : Nat) : Int) ∧ ∃ z, r = some (iV z) ∧ ((z = 0 ∧ bfs (scP w n alt) 1501 0 [p0] = none) ∨ (z = 1 ∧ ∃ L, bfs (scP w n alt) 1501 0 [p0] = some L ∧ PS S' 22 23 26 (L.map (xP n))))) := by
  have hn := hg.n15
  have hO := hg.o
  generalize hs2 : (cond alt (3 - sdP p0) (sdP p0) : Nat) = s2
  refine Ct.intro LAY_ok (by decide +kernel) (Nat.le_of_ble_eq_true rfl) rfl ?_
  intro Z hZ
  generalize hR0 : bfs (scP w n alt) 1501 0 [p0] = R0 at hZ
  have outer : ∀ (f k : Nat) (L : List Nat) (S₁ : gS) (L9 : List (Nat × Value)), f + k = 1501 → k ≤ L.length → Eqx [6, 7, 20, 21, 22, 23, 26] S S₁ → S₁ 20 0 = (sdP p0 : Int) → S₁ 21 0 = (s2 : Int) → PS S₁ 22 23 26 (L.map (xP n)) → (∀ p ∈ L, qP n alt p0 p) → L[0]? = some p0 → L.Nodup → L.length ≤ 1500 → bfs (scP w n alt) f k L = R0 → lkeep L9 [0, 5] = [(0, .ref (gad E 10)), (5, iV (k : Int))] → Z S₁ L9 50 [] := by
    intro f
    induction f with
    | zero =>
      intro k L S₁ L9 hf hk he h1 h2 hPS hv h0 hnd hle hb hL9
      omega
    | succ f ihf =>
      intro k L S₁ L9 hf hk he h1 h2 hPS hv h0 hnd hle hb hL9
      have hsz : S₁ 22 0 = (L.length : Int) := by rw [hPS.1, List.length_map]
      have hg₁ := hg.x he rfl
      refine g_keep hZ [0, 5] hL9 ?_
      by_cases hkl : k < L.length
      · obtain ⟨p, hp⟩ : ∃ p, L[k]? = some p := ⟨_, List.getElem?_eq_getElem hkl⟩
        rw [bfs_st hp] at hb
        have hq := hv p (List.mem_of_getElem? hp)
        have hpv := hq.1
        have hsd := sdP_12 p
        have hml := scP_len hO hpv
        have hfk : S₁ 23 k = (xP n p : Int) := hPS.2.1 k (xP n p) (by rw [List.getElem?_map, hp]; rfl)
        have hf0 : S₁ 23 0 = (xP n p0 : Int) := hPS.2.1 0 (xP n p0) (by rw [List.getElem?_map, h0]; rfl)
        refine g_iload hZ dX4_explore_50 rfl ?_
        refine g_aload_n hZ dX4_explore_52 rfl ?_
        refine g_geti hZ fX4_30 rfl rfl dX4_explore_53 hsz ?_
        refine g_icmp_ge hZ 145 dX4_explore_56 rfl (by omega) (fun cX => absurd cX (by omega)) (fun _ => ?_)
        refine g_iload hZ dX4_explore_59 rfl ?_
        refine g_sipush hZ (z := 1500) dX4_explore_61 rfl ?_
        refine g_icmp_ge hZ 145 dX4_explore_64 rfl (by omega) (fun cX => absurd cX (by omega)) (fun _ => ?_)
        refine g_aload_n hZ dX4_explore_67 rfl ?_
        refine g_iload hZ dX4_explore_68 rfl ?_
        refine g_callV hZ (t_X4_sideAtR E S₁ n hn k (xP n p0) (xP n p) (bdP p0) (bdP p) (xP_ok n p0) (xP_ok n p) hf0 hfk (by omega) hq.2.1 (sdP p0 : Int) (s2 : Int) h1 h2) kX4_44 ⟨by decide, by decide⟩ rfl rfl rfl rfl (Nat.le_of_ble_eq_true rfl) dX4_explore_70 ?_
        rintro _ _ ⟨rfl, rfl⟩
        have esd : (if (cntZ (bdP p) 3 n - cntZ (bdP p0) 3 n) % 2 = 0 then (sdP p0 : Int) else (s2 : Int)) = (sdP p : Int) := by
          rw [hq.2.2.1]
          unfold sdF bcP
          rw [hs2]
          split <;> rfl
        rw [esd]
        refine g_istore hZ dX4_explore_73 (by decide) ?_
        refine g_aload_n hZ dX4_explore_75 rfl ?_
        refine g_getr hZ fX4_26 rfl rfl dX4_explore_76 ?_
        refine g_aload_n hZ dX4_explore_79 rfl ?_
        refine g_getr hZ fX4_9 rfl rfl dX4_explore_80 ?_
        refine g_iload hZ dX4_explore_83 rfl ?_
        refine g_lald hZ (k) rfl dX4_explore_85 (rfl) (by omega) (by decide) (hfk) ?_
        refine g_iload hZ dX4_explore_86 rfl ?_
        refine g_callV hZ (t_X3_fill E S₁ w h n hg₁ (xP n p) (bdP p) (xP_ok n p) (bdP_bd p n) (sdP p) (by omega) (hpv.2.s hsd)) kX4_48 ⟨by decide, by decide⟩ rfl rfl rfl rfl (Nat.le_of_ble_eq_true rfl) dX4_explore_88 ?_
        rintro _ S₂ ⟨rfl, he₂, hx₂⟩
        have he₃ : Eqx [6, 7, 20, 21, 22, 23, 26] S S₂ := he.tr (he₂.mono rfl)
        have hPS₂ := hPS.x he₂ rfl rfl rfl
        have inner : ∀ (m j : Nat) (L : List Nat) (S₃ : gS) (L9 : List (Nat × Value)), j + m = (mvs w n (bdP p) (sdP p : Int)).length → Eqx [22, 23, 26] S₂ S₃ → PS S₃ 22 23 26 (L.map (xP n)) → (∀ p ∈ L, qP n alt p0 p) → L[0]? = some p0 → L[k]? = some p → L.Nodup → L.length ≤ 1500 → bfsK (scP w n alt) f k (addL L ((scP w n alt p).drop j)) = R0 → lkeep L9 [0, 5, 6, 7] = [(0, .ref (gad E 10)), (5, iV (k : Int)), (6, iV (sdP p : Int)), (7, iV (j : Int))] → Z S₃ L9 94 [] := by
          intro m
          induction m with
          | zero =>
            intro j L S₃ L9 hj he₄ hPS₃ hv₃ h0₃ hk₃ hnd₃ hle₃ hb₃ hL9
            rw [List.drop_eq_nil_of_le (by unfold scP; rw [List.length_map]; omega)] at hb₃
            have hx₃ := hx₂.x he₄ rfl rfl
            refine g_keep hZ [0, 5, 6, 7] hL9 ?_
            refine g_iload hZ dX4_explore_94 rfl ?_
            refine g_aload_n hZ dX4_explore_96 rfl ?_
            refine g_getr hZ fX4_26 rfl rfl dX4_explore_97 ?_
            refine g_geti hZ fX4_54 rfl rfl dX4_explore_100 hx₃.1 ?_
            refine g_icmp_ge hZ 139 dX4_explore_103 rfl (by omega) (fun _ => ?_) (fun cX => absurd (by omega) cX)
            refine g_iinc hZ dX4_explore_139 rfl (by decide) ?_
            refine g_goto hZ 50 dX4_explore_142 rfl ?_
            exact ihf (k + 1) L S₃ _ (by omega) (List.getElem?_eq_some_iff.mp hk₃).1 (he₃.tr (he₄.mono rfl)) ((he₄ 20 0 rfl).trans ((he₂ 20 0 rfl).trans h1)) ((he₄ 21 0 rfl).trans ((he₂ 21 0 rfl).trans h2)) hPS₃ hv₃ h0₃ hnd₃ hle₃ hb₃ rfl
          | succ m ih =>
            intro j L S₃ L9 hj he₄ hPS₃ hv₃ h0₃ hk₃ hnd₃ hle₃ hb₃ hL9
            have hx₃ := hx₂.x he₄ rfl rfl
            obtain ⟨q, hqj⟩ : ∃ q, (mvs w n (bdP p) (sdP p : Int))[j]? = some q := ⟨_, List.getElem?_eq_getElem (by omega)⟩
            have hqm := List.mem_of_getElem? hqj
            have hnf := nxP_facts (alt := alt) hO hqm
            have hsc : (scP w n alt p)[j]? = some (nxP n alt p q) := by unfold scP; rw [List.getElem?_map, hqj]; rfl
            have hdr : (scP w n alt p).drop j = nxP n alt p q :: (scP w n alt p).drop (j + 1) := by
              have hjl := (List.getElem?_eq_some_iff.mp hsc)
              rw [List.drop_eq_getElem_cons hjl.1, hjl.2]
            have hqc : qP n alt p0 (nxP n alt p q) := qP_nx hO hq _ (List.mem_map.mpr ⟨q, hqm, rfl⟩)
            have hfk₃ : S₃ 23 k = (xP n p : Int) := hPS₃.2.1 k (xP n p) (by rw [List.getElem?_map, hk₃]; rfl)
            rw [hdr, addL_one] at hb₃
            refine g_keep hZ [0, 5, 6, 7] hL9 ?_
            refine g_iload hZ dX4_explore_94 rfl ?_
            refine g_aload_n hZ dX4_explore_96 rfl ?_
            refine g_getr hZ fX4_26 rfl rfl dX4_explore_97 ?_
            refine g_geti hZ fX4_54 rfl rfl dX4_explore_100 hx₃.1 ?_
            refine g_icmp_ge hZ 139 dX4_explore_103 rfl (by omega) (fun cX => absurd cX (by omega)) (fun _ => ?_)
            refine g_aload_n hZ dX4_explore_106 rfl ?_
            refine g_aload_n hZ dX4_explore_107 rfl ?_
            refine g_getr hZ fX4_26 rfl rfl dX4_explore_108 ?_
            refine g_aload_n hZ dX4_explore_111 rfl ?_
            refine g_getr hZ fX4_9 rfl rfl dX4_explore_112 ?_
            refine g_iload hZ dX4_explore_115 rfl ?_
            refine g_lald hZ (k) rfl dX4_explore_117 (rfl) (by omega) (by decide) (hfk₃) ?_
            refine g_iload hZ dX4_explore_118 rfl ?_
            refine g_iload hZ dX4_explore_120 rfl ?_
            refine g_callV hZ (t_X3_after E S₃ w h n hO (xP n p) (bdP p) (xP_ok n p) (sdP p) (by omega) j (by omega) q (hx₃.2 j q hqj) hqm) kX4_55 ⟨by decide, by decide⟩ rfl rfl rfl rfl (Nat.le_of_ble_eq_true rfl) dX4_explore_122 ?_
            rintro _ _ ⟨rfl, y, rfl, hy⟩
            have ey : y = xP n (nxP n alt p q) := rep_eq hy (rep_cong (xP_ok n (nxP n alt p q)) hnf.2.2)
            subst ey
            refine g_callV hZ (t_X4_addR E S₃ (L.map (xP n)) hPS₃ (xP n (nxP n alt p q)) (xP_lt n _)) kX4_40 ⟨by decide, by decide⟩ rfl rfl rfl rfl (Nat.le_of_ble_eq_true rfl) dX4_explore_125 ?_
            rintro _ S₄ ⟨z, rfl, he₅, hz⟩
            have eax := addL_x hn [nxP n alt p q] L hv₃ (fun x hx => by rw [List.mem_singleton] at hx; subst hx; exact hqc)
            rw [show ([nxP n alt p q] : List Nat).map (xP n) = [xP n (nxP n alt p q)] from rfl] at eax
            have he₆ : Eqx [22, 23, 26] S₂ S₄ := he₄.tr he₅
            rcases hz with ⟨rfl, hz⟩ | ⟨L2, rfl, hz, hPS₄⟩
            · rw [hz] at eax
              cases ha : addL L [nxP n alt p q] with
              | some l => rw [ha] at eax; cases eax
              | none =>
                rw [ha] at hb₃
                refine g_if_ne hZ 133 dX4_explore_128 rfl (by omega) (fun cX => absurd (by omega) cX) (fun _ => ?_)
                refine g_iconst hZ dX4_explore_131 ?_
                refine g_zret hZ dX4_explore_132 rfl (Or.inl rfl) ⟨he₃.tr (he₆.mono rfl), (he₆ 20 0 rfl).trans ((he₂ 20 0 rfl).trans h1), (he₆ 21 0 rfl).trans ((he₂ 21 0 rfl).trans h2), 0, rfl, Or.inl ⟨rfl, hb₃.symm⟩⟩
            · rw [hz] at eax
              cases ha : addL L [nxP n alt p q] with
              | none => rw [ha] at eax; cases eax
              | some l =>
                rw [ha] at eax hb₃
                cases eax
                obtain ⟨⟨N, hN, hN2⟩, hnd₄, hle₄, -⟩ := addL_ok ha hnd₃ hle₃
                refine g_if_ne hZ 133 dX4_explore_128 rfl (by omega) (fun _ => ?_) (fun cX => absurd cX (by omega))
                refine g_iinc hZ dX4_explore_133 rfl (by decide) ?_
                refine g_goto hZ 94 dX4_explore_136 rfl ?_
                refine ih (j + 1) l S₄ _ (by omega) he₆ hPS₄ (fun x hx => ?_) ?_ ?_ hnd₄ hle₄ hb₃ rfl
                · rw [hN] at hx
                  rcases List.mem_append.mp hx with z | z
                  · exact hv₃ x z
                  · have := hN2 x z
                    rw [List.mem_singleton] at this
                    subst this
                    exact hqc
                · rw [hN, List.getElem?_append_left (by have := (List.getElem?_eq_some_iff.mp h0₃).1; omega)]; exact h0₃
                · rw [hN, List.getElem?_append_left (List.getElem?_eq_some_iff.mp hk₃).1]; exact hk₃
        refine g_iconst hZ dX4_explore_91 ?_
        refine g_istore hZ dX4_explore_92 (by decide) ?_
        exact inner _ 0 L S₂ _ (Nat.zero_add _) Eqx.rf hPS₂ hv h0 hp hnd hle hb rfl
      · have : k = L.length := by omega
        have hb2 : some L = R0 := by
          rw [bfs, List.getElem?_eq_none (by omega)] at hb
          exact hb
        refine g_iload hZ dX4_explore_50 rfl ?_
        refine g_aload_n hZ dX4_explore_52 rfl ?_
        refine g_geti hZ fX4_30 rfl rfl dX4_explore_53 hsz ?_
        refine g_icmp_ge hZ 145 dX4_explore_56 rfl (by omega) (fun _ => ?_) (fun cX => absurd (by omega) cX)
        refine g_iconst hZ dX4_explore_145 ?_
        refine g_zret hZ dX4_explore_146 rfl (Or.inr rfl) ⟨he, h1, h2, 1, rfl, Or.inr ⟨rfl, L, hb2.symm, hPS⟩⟩
  have clr : ∀ (m k : Nat), k + m = 4096 → Z (setRow S 26 k (fun _ => 0)) [(0, .ref (gad E 10)), (1, jV (xP n p0 : Int)), (3, iV (sdP p0 : Int)), (4, iV (s2 : Int)), (5, iV (k : Int))] 3 [] := by
    intro m
    induction m with
    | zero =>
      intro k hk
      have : k = 4096 := by omega
      subst this
      refine g_iload hZ dX4_explore_3 rfl ?_
      refine g_sipush hZ (z := 4096) dX4_explore_5 rfl ?_
      refine g_icmp_ge hZ 25 dX4_explore_8 rfl (by omega) (fun _ => ?_) (fun cX => absurd (by omega) cX)
      refine g_aload_n hZ dX4_explore_25 rfl ?_
      refine g_iconst hZ dX4_explore_26 ?_
      refine g_puti hZ fX4_30 rfl rfl dX4_explore_27 ?_
      refine g_aload_n hZ dX4_explore_30 rfl ?_
      refine g_iload_n hZ dX4_explore_31 rfl ?_
      refine g_puti hZ fX4_34 rfl rfl dX4_explore_32 ?_
      refine g_aload_n hZ dX4_explore_35 rfl ?_
      refine g_iload hZ dX4_explore_36 rfl ?_
      refine g_puti hZ fX4_37 rfl rfl dX4_explore_38 ?_
      refine g_aload_n hZ dX4_explore_41 rfl ?_
      refine g_lload_n hZ dX4_explore_42 rfl ?_
      have he₀ : Eqx [6, 7, 20, 21, 22, 23, 26] S (upS (upS (upS (setRow S 26 4096 (fun _ => 0)) 22 0 0) 20 0 (sdP p0 : Int)) 21 0 (s2 : Int)) := (((Eqx.rf.row rfl).up rfl).up rfl).up rfl
      have hPS₀ : PS (upS (upS (upS (setRow S 26 4096 (fun _ => 0)) 22 0 0) 20 0 (sdP p0 : Int)) 21 0 (s2 : Int)) 22 23 26 [] := by
        refine ⟨?_, fun i c hi => by simp at hi, ht_nil 4096 hC (fun s hs => ?_), List.nodup_nil, by simp, fun x hx => by simp at hx⟩
        · rw [upS_v _ _ (by decide), upS_v _ _ (by decide), upS_eq]; rfl
        · rw [upS_v _ _ (by decide), upS_v _ _ (by decide), upS_v _ _ (by decide), setRow_in _ _ hs]
      have h1₀ : (upS (upS (upS (setRow S 26 4096 (fun _ => 0)) 22 0 0) 20 0 (sdP p0 : Int)) 21 0 (s2 : Int)) 20 0 = (sdP p0 : Int) := by rw [upS_v _ _ (by decide), upS_eq]
      have h2₀ : (upS (upS (upS (setRow S 26 4096 (fun _ => 0)) 22 0 0) 20 0 (sdP p0 : Int)) 21 0 (s2 : Int)) 21 0 = (s2 : Int) := upS_eq _ _ _ _
      generalize (upS (upS (upS (setRow S 26 4096 (fun _ => 0)) 22 0 0) 20 0 (sdP p0 : Int)) 21 0 (s2 : Int)) = S₀ at *
      refine g_callV hZ (t_X4_addR E S₀ [] hPS₀ (xP n p0) (xP_lt n p0)) kX4_40 ⟨by decide, by decide⟩ rfl rfl rfl rfl (Nat.le_of_ble_eq_true rfl) dX4_explore_43 ?_
      rintro _ S₁ ⟨z, rfl, he₁, hz⟩
      rcases hz with ⟨-, hz⟩ | ⟨L2, -, hz, hPS₁⟩
      · cases hz
      · cases hz
        refine g_pop hZ dX4_explore_46 rfl ?_
        refine g_iconst hZ dX4_explore_47 ?_
        refine g_istore hZ dX4_explore_48 (by decide) ?_
        refine outer 1501 0 [p0] S₁ _ rfl (Nat.zero_le _) (he₀.tr (he₁.mono rfl)) ((he₁ 20 0 rfl).trans h1₀) ((he₁ 21 0 rfl).trans h2₀) hPS₁ (fun p hp => ?_) rfl (by simp) (by simp) hR0 rfl
        rw [List.mem_singleton] at hp
        subst hp
        exact hp0
    | succ m ih =>
      intro k hk
      refine g_iload hZ dX4_explore_3 rfl ?_
      refine g_sipush hZ (z := 4096) dX4_explore_5 rfl ?_
      refine g_icmp_ge hZ 25 dX4_explore_8 rfl (by omega) (fun cX => absurd cX (by omega)) (fun _ => ?_)
      refine g_aload_n hZ dX4_explore_11 rfl ?_
      refine g_getr hZ fX4_23 rfl rfl dX4_explore_12 ?_
      refine g_iload hZ dX4_explore_15 rfl ?_
      refine g_iconst hZ dX4_explore_17 ?_
      refine g_iast hZ (k) rfl dX4_explore_18 (rfl) (by omega) (by decide) ?_
      refine g_iinc hZ dX4_explore_19 rfl (by decide) ?_
      refine g_goto hZ 3 dX4_explore_22 rfl ?_
      have e1 := setRow_succ S 26 k (fun _ => 0)
      refine g_state hZ e1 ?_
      exact ih (k + 1) (by omega)
  refine g_iconst hZ dX4_explore_0 ?_
  refine g_istore hZ dX4_explore_1 (by decide) ?_
  have := clr 4096 0 (by omega)
  rw [setRow_0] at this
  exact this
