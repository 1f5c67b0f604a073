/-! the reference: the search -/
theorem scP_len {w h n p : Nat} (hg : gOK w h n) (hp : vP n p) : (mvs w n (bdP p) (sdP p : Int)).length ≤ 588 := mvs_bound hg.2.2.2.2.2 (hp.2.s (sdP_12 p))
theorem t_X9_isReached (E : gE) (S : gS) (w h n : Nat) (hg : mG S w h n) (c0 : Nat) (hc0 : c0 < 1073741824) (hC : mC3 (bdP c0) n) (s : Nat) (hs : s = 1 ∨ s = 2) (alt : Bool) : Ct E LAY mX9_isReached [.ref (gad E 27), iV (c0 : Int), iV (s : Int), iV (cond alt 1 0)] S (fun r S' => Eqx [55, 56, 62, 66, 67, 68] S S' ∧ ∃ z, r = some (iV z) ∧ ((z = 0 ∧ bfs (scP w n alt) 1501 0 [c0 + 1073741824 * (s - 1)] = none) ∨ (z = 1 ∧ ∃ L, bfs (scP w n alt) 1501 0 [c0 + 1073741824 * (s - 1)] = some L ∧ RS S' L))) := by
  have hn := hg.n15
  have hO := hg.2.2
  have ha01 : R32 (cond alt (1 : Int) 0) := by cases alt <;> exact ⟨by decide, by decide⟩
  refine Ct.intro LAY_ok (by decide +kernel) (Nat.le_of_ble_eq_true rfl) rfl ?_
  intro Z hZ
  have hp0 : vP n (c0 + 1073741824 * (s - 1)) := ⟨by omega, by rw [cntZ_cong (fun k hk => bdP_side (by omega))]; exact hC.1, by rw [cntZ_cong (fun k hk => bdP_side (by omega))]; exact hC.2⟩
  generalize hp0d : c0 + 1073741824 * (s - 1) = p0 at *
  generalize hR0 : bfs (scP w n alt) 1501 0 [p0] = R0
  have outer : ∀ (f k : Nat) (L : List Nat) (S₁ : gS) (L9 : List (Nat × Value)), f + k = 1501 → k ≤ L.length → Eqx [55, 56, 62, 66, 67, 68] S S₁ → RS S₁ L → (∀ p ∈ L, vP n p) → bfs (scP w n alt) f k L = R0 → lkeep L9 [0, 1, 2, 3, 4] = [(0, .ref (gad E 27)), (1, iV (c0 : Int)), (2, iV (s : Int)), (3, iV (cond alt 1 0)), (4, iV (k : Int))] → Z S₁ L9 65 [] := by
    intro f
    induction f with
    | zero =>
      intro k L S₁ L9 hf hk he hRS hv hb hL
      have := hRS.2.2.2.2
      omega
    | succ f ihf =>
      intro k L S₁ L9 hf hk he hRS hv hb hL9
      obtain ⟨r1, r2, r3, r4, r5⟩ := id hRS
      have hg₁ := hg.x he rfl rfl
      refine g_keep hZ [0, 1, 2, 3, 4] hL9 ?_
      rw [bfs] at hb
      by_cases hkl : k < L.length
      · obtain ⟨p, hp⟩ : ∃ p, L[k]? = some p := ⟨_, List.getElem?_eq_getElem hkl⟩
        rw [hp] at hb
        have hpv := hv p (List.mem_of_getElem? hp)
        have hcp : S₁ 67 k = (p : Int) := r2 k p hp
        have hsd := sdP_12 p
        have hml := scP_len hO hpv
        refine g_iload hZ dX9_isReached_65 rfl ?_
        refine g_aload_n hZ dX9_isReached_67 rfl ?_
        refine g_geti hZ fX9_135 rfl rfl dX9_isReached_68 r1 ?_
        refine g_icmp_ge hZ 212 dX9_isReached_71 rfl (by omega) (fun cX => absurd cX (by omega)) (fun _ => ?_)
        refine g_aload_n hZ dX9_isReached_74 rfl ?_
        refine g_getr hZ fX9_35 rfl rfl dX9_isReached_75 ?_
        refine g_iload hZ dX9_isReached_78 rfl ?_
        refine g_iald hZ (k) rfl dX9_isReached_80 (rfl) (by omega) (by decide) (hcp) ?_
        refine g_callS hZ (t_X9_sideOf E S₁ p hpv.1) kX9_141 ⟨by decide, by decide⟩ rfl rfl (Nat.le_of_ble_eq_true rfl) dX9_isReached_81 ?_
        rintro _ _ ⟨rfl, rfl⟩
        refine g_istore hZ dX9_isReached_84 (by decide) ?_
        refine g_aload_n hZ dX9_isReached_86 rfl ?_
        refine g_aload_n hZ dX9_isReached_87 rfl ?_
        refine g_getr hZ fX9_35 rfl rfl dX9_isReached_88 ?_
        refine g_iload hZ dX9_isReached_91 rfl ?_
        refine g_iald hZ (k) rfl dX9_isReached_93 (rfl) (by omega) (by decide) (hcp) ?_
        refine g_callV hZ (t_X9_decodes E S₁ p hpv.1) kX9_144 ⟨by decide, by decide⟩ rfl rfl rfl rfl (Nat.le_of_ble_eq_true rfl) dX9_isReached_94 ?_
        rintro _ _ ⟨rfl, rfl⟩
        have he₂ : Eqx [62] S₁ (setRow S₁ 62 15 (bdP p)) := Eqx.rf.row rfl
        have h62 : ∀ k, k < 15 → setRow S₁ 62 15 (bdP p) 62 k = bdP p k := fun k hk => setRow_in S₁ (bdP p) hk
        have em : mvs w n (setRow S₁ 62 15 (bdP p) 62) (sdP p : Int) = mvs w n (bdP p) (sdP p : Int) := mvs_cong hO (fun k hk => h62 k (by omega))
        refine g_aload_n hZ dX9_isReached_97 rfl ?_
        refine g_iload hZ dX9_isReached_98 rfl ?_
        refine g_callV hZ (t_X9_lists E _ w h n (hg₁.x he₂ rfl rfl) (fun k hk => by rw [h62 k (by omega)]; exact bdP_bd p 15 k (by omega)) (sdP p : Int) hsd (by rw [cntZ_cong (fun k hk => h62 k (by omega))]; exact hpv.2.s hsd)) kX9_105 ⟨by decide, by decide⟩ rfl rfl rfl rfl (Nat.le_of_ble_eq_true rfl) dX9_isReached_100 ?_
        rintro _ S₂ ⟨rfl, hm₂, hb₂⟩
        rw [em] at hm₂
        have he₃ : Eqx [55, 56, 62, 66, 67, 68] S S₂ := (he.tr (he₂.mono rfl)).tr (hm₂.1.mono rfl)
        have hRS₂ : RS S₂ L := (hRS.x he₂ rfl rfl rfl).x hm₂.1 rfl rfl rfl
        have h62₂ : ∀ k, k < 15 → S₂ 62 k = bdP p k := fun k hk => by rw [hb₂]; exact h62 k hk
        have hlen := hm₂.2.1
        have hHL := hm₂.2.2
        cases hX : addL L (scP w n alt p) with
        | none =>
          simp only [hX] at hb
          have inner : ∀ (m j : Nat) (L : List Nat) (S₃ : gS) (L9 : List (Nat × Value)), j + m = (mvs w n (bdP p) (sdP p : Int)).length → Eqx [55, 56, 62, 66, 67, 68] S S₃ → Eqx [56, 67, 68] S₂ S₃ → RS S₃ L → (∀ p ∈ L, vP n p) → addL L ((scP w n alt p).drop j) = none → lkeep L9 [0, 1, 2, 3, 4, 5, 6] = [(0, .ref (gad E 27)), (1, iV (c0 : Int)), (2, iV (s : Int)), (3, iV (cond alt 1 0)), (4, iV (k : Int)), (5, iV (sdP p : Int)), (6, iV (j : Int))] → Z S₃ L9 106 [] := by
            intro m
            induction m with
            | zero =>
              intro j L S₃ L9 hj he₃ he₄ hRS₃ hv₃ hadd hL9
              rw [List.drop_eq_nil_of_le (by unfold scP; rw [List.length_map]; omega)] at hadd
              cases hadd
            | succ m ih =>
              intro j L S₃ L9 hj he₃ he₄ hRS₃ hv₃ hadd hL9
              obtain ⟨q1, q2, q3, q4, q5⟩ := id hRS₃
              obtain ⟨q, hq⟩ : ∃ q, (mvs w n (bdP p) (sdP p : Int))[j]? = some q := ⟨_, List.getElem?_eq_getElem (by omega)⟩
              have hqm := List.mem_of_getElem? hq
              have hqf := mvs_facts hO (by omega) hqm
              have hnf := nxP_facts (alt := alt) hO hqm
              have hsc : (scP w n alt p)[j]? = some (nxP n alt p q) := by unfold scP; rw [List.getElem?_map, hq]; rfl
              have hdr : (scP w n alt p).drop j = nxP n alt p q :: (scP w n alt p).drop (j + 1) := by
                have hjl := (List.getElem?_eq_some_iff.mp hsc)
                rw [List.drop_eq_getElem_cons hjl.1, hjl.2]
              have hvx : vP n (nxP n alt p q) := vP_nx hO hpv _ (List.mem_map.mpr ⟨q, hqm, rfl⟩)
              have hlen₃ : S₃ 55 0 = _ := (he₄ 55 0 rfl).trans hlen
              have hfk : S₃ 66 j = menc q := (he₄ 66 j rfl).trans (hHL j q hq)
              have h62₃ : ∀ k, k < 15 → S₃ 62 k = bdP p k := fun k hk => (he₄ 62 k rfl).trans (h62₂ k hk)
              have hg₃ := hg.x he₃ rfl rfl
              have eaf : cod (aftB (S₃ 62) q (sdP p : Int)) n = cod (aftB (bdP p) q (sdP p : Int)) n := cod_cong (fun k hk => by unfold aftB; rw [h62₃ k (by omega)])
              rw [hdr, addL] at hadd
              refine g_keep hZ [0, 1, 2, 3, 4, 5, 6] hL9 ?_
              have at136 : ∀ (nx : Int), (nx = 1 ∨ nx = 2) → nx.toNat - 1 = cond alt (2 - sdP p) (sdP p - 1) → Z S₃ [(0, .ref (gad E 27)), (1, iV (c0 : Int)), (2, iV (s : Int)), (3, iV (cond alt 1 0)), (4, iV (k : Int)), (5, iV (sdP p : Int)), (6, iV (j : Int))] 136 [iV nx, iV (menc q), .ref (gad E 27)] := by
                intro nx hnx hnx2
                refine g_callV hZ (t_X9_behind E S₃ w h n hg₃ (fun k hk => by rw [h62₃ k (by omega)]; exact bdP_bd p 15 k (by omega)) q hqf.1 hqf.2.1 hqf.2.2.1 (sdP p : Int) hsd (by rw [h62₃ _ (by omega)]; exact hqf.2.2.2.1) nx hnx) kX9_147 ⟨by decide, by decide⟩ rfl rfl rfl rfl (Nat.le_of_ble_eq_true rfl) dX9_isReached_136 ?_
                rintro _ _ ⟨rfl, rfl⟩
                rw [eaf, hnx2]
                refine g_istore hZ dX9_isReached_139 (by decide) ?_
                refine g_aload_n hZ dX9_isReached_141 rfl ?_
                refine g_iload hZ dX9_isReached_142 rfl ?_
                refine g_callV hZ (t_X9_placeOf E S₃ L q2 q3 q5 (fun x hx => (hv₃ x hx).1) (nxP n alt p q) hvx.1) kX9_138 ⟨by decide, by decide⟩ rfl rfl rfl rfl (Nat.le_of_ble_eq_true rfl) dX9_isReached_144 ?_
                rintro _ _ ⟨rfl, z, rfl, hz⟩
                rcases hz with ⟨i, hi, rfl⟩ | ⟨hni, d, hd, rfl, h0, hpos⟩
                · have hil := (List.getElem?_eq_some_iff.mp hi).1
                  rw [if_pos (List.mem_of_getElem? hi)] at hadd
                  refine g_istore hZ dX9_isReached_147 (by decide) ?_
                  refine g_iload hZ dX9_isReached_149 rfl ?_
                  refine g_if_ge hZ 200 dX9_isReached_151 rfl (by omega) (fun _ => ?_) (fun cX => absurd (by omega) cX)
                  refine g_iinc hZ dX9_isReached_200 rfl (by decide) ?_
                  refine g_goto hZ 106 dX9_isReached_203 rfl ?_
                  exact ih (j + 1) L S₃ _ (by omega) he₃ he₄ hRS₃ hv₃ hadd rfl
                · have hsl := Nat.mod_lt (hR (nxP n alt p q) + d) (show 0 < 8192 by omega)
                  rw [if_neg hni] at hadd
                  refine g_istore hZ dX9_isReached_147 (by decide) ?_
                  refine g_iload hZ dX9_isReached_149 rfl ?_
                  refine g_if_ge hZ 200 dX9_isReached_151 rfl (by omega) (fun cX => absurd cX (by omega)) (fun _ => ?_)
                  refine g_aload_n hZ dX9_isReached_154 rfl ?_
                  refine g_geti hZ fX9_135 rfl rfl dX9_isReached_155 q1 ?_
                  refine g_sipush hZ (z := 1500) dX9_isReached_158 rfl ?_
                  refine g_icmp_ne hZ 166 dX9_isReached_161 rfl (by omega) (fun c => ?_) (fun c => ?_)
                  · rw [if_neg (by omega)] at hadd
                    refine g_aload_n hZ dX9_isReached_166 rfl ?_
                    refine g_getr hZ fX9_35 rfl rfl dX9_isReached_167 ?_
                    refine g_aload_n hZ dX9_isReached_170 rfl ?_
                    refine g_geti hZ fX9_135 rfl rfl dX9_isReached_171 q1 ?_
                    refine g_iload hZ dX9_isReached_174 rfl ?_
                    refine g_iast hZ (L.length) rfl dX9_isReached_176 (rfl) (by omega) (by decide) ?_
                    refine g_aload_n hZ dX9_isReached_177 rfl ?_
                    refine g_dup hZ dX9_isReached_178 rfl ?_
                    refine g_geti hZ fX9_135 rfl rfl dX9_isReached_179 q1 ?_
                    refine g_iconst hZ dX9_isReached_182 ?_
                    refine g_iadd hZ dX9_isReached_183 ?_
                    refine g_puti hZ fX9_135 rfl rfl dX9_isReached_184 ?_
                    refine g_aload_n hZ dX9_isReached_187 rfl ?_
                    refine g_getr hZ fX9_38 rfl rfl dX9_isReached_188 ?_
                    refine g_iconst hZ dX9_isReached_191 ?_
                    refine g_iload hZ dX9_isReached_192 rfl ?_
                    refine g_isub hZ dX9_isReached_194 ?_
                    refine g_aload_n hZ dX9_isReached_195 rfl ?_
                    refine g_geti hZ fX9_135 rfl rfl dX9_isReached_196 rfl ?_
                    refine g_iast hZ (((hR (nxP n alt p q) + d) % 8192)) rfl dX9_isReached_199 (by omega) (by omega) (by decide) ?_
                    refine g_iinc hZ dX9_isReached_200 rfl (by decide) ?_
                    refine g_goto hZ 106 dX9_isReached_203 rfl ?_
                    refine ih (j + 1) (L ++ [nxP n alt p q]) _ _ (by omega) (((he₃.up rfl).up rfl).up rfl) (((he₄.up rfl).up rfl).up rfl) ⟨?_, ?_, ?_, ?_, ?_⟩ (fun x hx => ?_) hadd rfl
                    · rw [upS_v _ _ (by decide), upS_eq, List.length_append]; simp
                    · refine HL_add q2 (fun k hk => ?_) ?_
                      · rw [upS_v _ _ (by decide), upS_v _ _ (by decide), upS_j _ _ (by omega)]
                      · rw [upS_v _ _ (by decide), upS_v _ _ (by decide), upS_eq]; rfl
                    · refine ht_add modsep_R q3 hd h0 hpos (fun x => ?_)
                      by_cases e7 : x = (hR (nxP n alt p q) + d) % 8192
                      · rw [if_pos e7, e7, upS_eq]; rfl
                      · rw [if_neg e7, upS_j _ _ e7, upS_v _ _ (by decide), upS_v _ _ (by decide)]
                    · exact List.nodup_append.mpr ⟨q4, by simp, fun a ha b hb e => hni (by rw [List.mem_singleton] at hb; rw [← hb, ← e]; exact ha)⟩
                    · rw [List.length_append]; simp; omega
                    · rcases List.mem_append.mp hx with z | z
                      · exact hv₃ x z
                      · rw [List.mem_singleton] at z; rw [z]; exact hvx
                  · rw [if_pos (by omega)] at hadd
                    refine g_iconst hZ dX9_isReached_164 ?_
                    refine g_zret hZ dX9_isReached_165 rfl (Or.inl rfl) ⟨he₃, 0, rfl, Or.inl ⟨rfl, hR0.trans hb.symm⟩⟩
              refine g_iload hZ dX9_isReached_106 rfl ?_
              refine g_aload_n hZ dX9_isReached_108 rfl ?_
              refine g_geti hZ fX9_102 rfl rfl dX9_isReached_109 hlen₃ ?_
              refine g_icmp_ge hZ 206 dX9_isReached_112 rfl (by omega) (fun cX => absurd cX (by omega)) (fun _ => ?_)
              refine g_aload_n hZ dX9_isReached_115 rfl ?_
              refine g_aload_n hZ dX9_isReached_116 rfl ?_
              refine g_getr hZ fX9_32 rfl rfl dX9_isReached_117 ?_
              refine g_iload hZ dX9_isReached_120 rfl ?_
              refine g_iald hZ (j) rfl dX9_isReached_122 (rfl) (by omega) (by decide) (hfk) ?_
              refine g_iload_n hZ dX9_isReached_123 rfl ?_
              cases alt with
              | false =>
                refine g_if_eq hZ 134 dX9_isReached_124 rfl (by omega) (fun _ => ?_) (fun cX => absurd (by simp) cX)
                refine g_iload hZ dX9_isReached_134 rfl ?_
                exact at136 _ hsd (by simp)
              | true =>
                refine g_if_eq hZ 134 dX9_isReached_124 rfl (by omega) (fun cX => absurd cX (by simp)) (fun _ => ?_)
                refine g_iconst hZ dX9_isReached_127 ?_
                refine g_iload hZ dX9_isReached_128 rfl ?_
                refine g_isub hZ dX9_isReached_130 ?_
                refine g_goto hZ 136 dX9_isReached_131 rfl ?_
                exact at136 _ (by omega) (by simp; omega)
          refine g_iconst hZ dX9_isReached_103 ?_
          refine g_istore hZ dX9_isReached_104 (by decide) ?_
          exact inner _ 0 L S₂ _ (Nat.zero_add _) he₃ Eqx.rf hRS₂ hv hX rfl
        | some LX =>
          simp only [hX] at hb
          have inner : ∀ (m j : Nat) (L : List Nat) (S₃ : gS) (L9 : List (Nat × Value)), j + m = (mvs w n (bdP p) (sdP p : Int)).length → Eqx [55, 56, 62, 66, 67, 68] S S₃ → Eqx [56, 67, 68] S₂ S₃ → RS S₃ L → (∀ p ∈ L, vP n p) → k < L.length → addL L ((scP w n alt p).drop j) = some LX → lkeep L9 [0, 1, 2, 3, 4, 5, 6] = [(0, .ref (gad E 27)), (1, iV (c0 : Int)), (2, iV (s : Int)), (3, iV (cond alt 1 0)), (4, iV (k : Int)), (5, iV (sdP p : Int)), (6, iV (j : Int))] → Z S₃ L9 106 [] := by
            intro m
            induction m with
            | zero =>
              intro j L S₃ L9 hj he₃ he₄ hRS₃ hv₃ hkl₃ hadd hL9
              rw [List.drop_eq_nil_of_le (by unfold scP; rw [List.length_map]; omega)] at hadd
              cases hadd
              have hlen₃ : S₃ 55 0 = _ := (he₄ 55 0 rfl).trans hlen
              refine g_keep hZ [0, 1, 2, 3, 4, 5, 6] hL9 ?_
              refine g_iload hZ dX9_isReached_106 rfl ?_
              refine g_aload_n hZ dX9_isReached_108 rfl ?_
              refine g_geti hZ fX9_102 rfl rfl dX9_isReached_109 hlen₃ ?_
              refine g_icmp_ge hZ 206 dX9_isReached_112 rfl (by omega) (fun _ => ?_) (fun cX => absurd (by omega) cX)
              refine g_iinc hZ dX9_isReached_206 rfl (by decide) ?_
              refine g_goto hZ 65 dX9_isReached_209 rfl ?_
              exact ihf (k + 1) _ S₃ _ (by omega) (by omega) he₃ hRS₃ hv₃ hb rfl
            | succ m ih =>
              intro j L S₃ L9 hj he₃ he₄ hRS₃ hv₃ hkl₃ hadd hL9
              obtain ⟨q1, q2, q3, q4, q5⟩ := id hRS₃
              obtain ⟨q, hq⟩ : ∃ q, (mvs w n (bdP p) (sdP p : Int))[j]? = some q := ⟨_, List.getElem?_eq_getElem (by omega)⟩
              have hqm := List.mem_of_getElem? hq
              have hqf := mvs_facts hO (by omega) hqm
              have hnf := nxP_facts (alt := alt) hO hqm
              have hsc : (scP w n alt p)[j]? = some (nxP n alt p q) := by unfold scP; rw [List.getElem?_map, hq]; rfl
              have hdr : (scP w n alt p).drop j = nxP n alt p q :: (scP w n alt p).drop (j + 1) := by
                have hjl := (List.getElem?_eq_some_iff.mp hsc)
                rw [List.drop_eq_getElem_cons hjl.1, hjl.2]
              have hvx : vP n (nxP n alt p q) := vP_nx hO hpv _ (List.mem_map.mpr ⟨q, hqm, rfl⟩)
              have hlen₃ : S₃ 55 0 = _ := (he₄ 55 0 rfl).trans hlen
              have hfk : S₃ 66 j = menc q := (he₄ 66 j rfl).trans (hHL j q hq)
              have h62₃ : ∀ k, k < 15 → S₃ 62 k = bdP p k := fun k hk => (he₄ 62 k rfl).trans (h62₂ k hk)
              have hg₃ := hg.x he₃ rfl rfl
              have eaf : cod (aftB (S₃ 62) q (sdP p : Int)) n = cod (aftB (bdP p) q (sdP p : Int)) n := cod_cong (fun k hk => by unfold aftB; rw [h62₃ k (by omega)])
              rw [hdr, addL] at hadd
              refine g_keep hZ [0, 1, 2, 3, 4, 5, 6] hL9 ?_
              have at136 : ∀ (nx : Int), (nx = 1 ∨ nx = 2) → nx.toNat - 1 = cond alt (2 - sdP p) (sdP p - 1) → Z S₃ [(0, .ref (gad E 27)), (1, iV (c0 : Int)), (2, iV (s : Int)), (3, iV (cond alt 1 0)), (4, iV (k : Int)), (5, iV (sdP p : Int)), (6, iV (j : Int))] 136 [iV nx, iV (menc q), .ref (gad E 27)] := by
                intro nx hnx hnx2
                refine g_callV hZ (t_X9_behind E S₃ w h n hg₃ (fun k hk => by rw [h62₃ k (by omega)]; exact bdP_bd p 15 k (by omega)) q hqf.1 hqf.2.1 hqf.2.2.1 (sdP p : Int) hsd (by rw [h62₃ _ (by omega)]; exact hqf.2.2.2.1) nx hnx) kX9_147 ⟨by decide, by decide⟩ rfl rfl rfl rfl (Nat.le_of_ble_eq_true rfl) dX9_isReached_136 ?_
                rintro _ _ ⟨rfl, rfl⟩
                rw [eaf, hnx2]
                refine g_istore hZ dX9_isReached_139 (by decide) ?_
                refine g_aload_n hZ dX9_isReached_141 rfl ?_
                refine g_iload hZ dX9_isReached_142 rfl ?_
                refine g_callV hZ (t_X9_placeOf E S₃ L q2 q3 q5 (fun x hx => (hv₃ x hx).1) (nxP n alt p q) hvx.1) kX9_138 ⟨by decide, by decide⟩ rfl rfl rfl rfl (Nat.le_of_ble_eq_true rfl) dX9_isReached_144 ?_
                rintro _ _ ⟨rfl, z, rfl, hz⟩
                rcases hz with ⟨i, hi, rfl⟩ | ⟨hni, d, hd, rfl, h0, hpos⟩
                · have hil := (List.getElem?_eq_some_iff.mp hi).1
                  rw [if_pos (List.mem_of_getElem? hi)] at hadd
                  refine g_istore hZ dX9_isReached_147 (by decide) ?_
                  refine g_iload hZ dX9_isReached_149 rfl ?_
                  refine g_if_ge hZ 200 dX9_isReached_151 rfl (by omega) (fun _ => ?_) (fun cX => absurd (by omega) cX)
                  refine g_iinc hZ dX9_isReached_200 rfl (by decide) ?_
                  refine g_goto hZ 106 dX9_isReached_203 rfl ?_
                  exact ih (j + 1) L S₃ _ (by omega) he₃ he₄ hRS₃ hv₃ hkl₃ hadd rfl
                · have hsl := Nat.mod_lt (hR (nxP n alt p q) + d) (show 0 < 8192 by omega)
                  rw [if_neg hni] at hadd
                  refine g_istore hZ dX9_isReached_147 (by decide) ?_
                  refine g_iload hZ dX9_isReached_149 rfl ?_
                  refine g_if_ge hZ 200 dX9_isReached_151 rfl (by omega) (fun cX => absurd cX (by omega)) (fun _ => ?_)
                  refine g_aload_n hZ dX9_isReached_154 rfl ?_
                  refine g_geti hZ fX9_135 rfl rfl dX9_isReached_155 q1 ?_
                  refine g_sipush hZ (z := 1500) dX9_isReached_158 rfl ?_
                  refine g_icmp_ne hZ 166 dX9_isReached_161 rfl (by omega) (fun c => ?_) (fun c => ?_)
                  · rw [if_neg (by omega)] at hadd
                    refine g_aload_n hZ dX9_isReached_166 rfl ?_
                    refine g_getr hZ fX9_35 rfl rfl dX9_isReached_167 ?_
                    refine g_aload_n hZ dX9_isReached_170 rfl ?_
                    refine g_geti hZ fX9_135 rfl rfl dX9_isReached_171 q1 ?_
                    refine g_iload hZ dX9_isReached_174 rfl ?_
                    refine g_iast hZ (L.length) rfl dX9_isReached_176 (rfl) (by omega) (by decide) ?_
                    refine g_aload_n hZ dX9_isReached_177 rfl ?_
                    refine g_dup hZ dX9_isReached_178 rfl ?_
                    refine g_geti hZ fX9_135 rfl rfl dX9_isReached_179 q1 ?_
                    refine g_iconst hZ dX9_isReached_182 ?_
                    refine g_iadd hZ dX9_isReached_183 ?_
                    refine g_puti hZ fX9_135 rfl rfl dX9_isReached_184 ?_
                    refine g_aload_n hZ dX9_isReached_187 rfl ?_
                    refine g_getr hZ fX9_38 rfl rfl dX9_isReached_188 ?_
                    refine g_iconst hZ dX9_isReached_191 ?_
                    refine g_iload hZ dX9_isReached_192 rfl ?_
                    refine g_isub hZ dX9_isReached_194 ?_
                    refine g_aload_n hZ dX9_isReached_195 rfl ?_
                    refine g_geti hZ fX9_135 rfl rfl dX9_isReached_196 rfl ?_
                    refine g_iast hZ (((hR (nxP n alt p q) + d) % 8192)) rfl dX9_isReached_199 (by omega) (by omega) (by decide) ?_
                    refine g_iinc hZ dX9_isReached_200 rfl (by decide) ?_
                    refine g_goto hZ 106 dX9_isReached_203 rfl ?_
                    refine ih (j + 1) (L ++ [nxP n alt p q]) _ _ (by omega) (((he₃.up rfl).up rfl).up rfl) (((he₄.up rfl).up rfl).up rfl) ⟨?_, ?_, ?_, ?_, ?_⟩ (fun x hx => ?_) (by rw [List.length_append]; simp; omega) hadd rfl
                    · rw [upS_v _ _ (by decide), upS_eq, List.length_append]; simp
                    · refine HL_add q2 (fun k hk => ?_) ?_
                      · rw [upS_v _ _ (by decide), upS_v _ _ (by decide), upS_j _ _ (by omega)]
                      · rw [upS_v _ _ (by decide), upS_v _ _ (by decide), upS_eq]; rfl
                    · refine ht_add modsep_R q3 hd h0 hpos (fun x => ?_)
                      by_cases e7 : x = (hR (nxP n alt p q) + d) % 8192
                      · rw [if_pos e7, e7, upS_eq]; rfl
                      · rw [if_neg e7, upS_j _ _ e7, upS_v _ _ (by decide), upS_v _ _ (by decide)]
                    · exact List.nodup_append.mpr ⟨q4, by simp, fun a ha b hb e => hni (by rw [List.mem_singleton] at hb; rw [← hb, ← e]; exact ha)⟩
                    · rw [List.length_append]; simp; omega
                    · rcases List.mem_append.mp hx with z | z
                      · exact hv₃ x z
                      · rw [List.mem_singleton] at z; rw [z]; exact hvx
                  · rw [if_pos (by omega)] at hadd
                    cases hadd
              refine g_iload hZ dX9_isReached_106 rfl ?_
              refine g_aload_n hZ dX9_isReached_108 rfl ?_
              refine g_geti hZ fX9_102 rfl rfl dX9_isReached_109 hlen₃ ?_
              refine g_icmp_ge hZ 206 dX9_isReached_112 rfl (by omega) (fun cX => absurd cX (by omega)) (fun _ => ?_)
              refine g_aload_n hZ dX9_isReached_115 rfl ?_
              refine g_aload_n hZ dX9_isReached_116 rfl ?_
              refine g_getr hZ fX9_32 rfl rfl dX9_isReached_117 ?_
              refine g_iload hZ dX9_isReached_120 rfl ?_
              refine g_iald hZ (j) rfl dX9_isReached_122 (rfl) (by omega) (by decide) (hfk) ?_
              refine g_iload_n hZ dX9_isReached_123 rfl ?_
              cases alt with
              | false =>
                refine g_if_eq hZ 134 dX9_isReached_124 rfl (by omega) (fun _ => ?_) (fun cX => absurd (by simp) cX)
                refine g_iload hZ dX9_isReached_134 rfl ?_
                exact at136 _ hsd (by simp)
              | true =>
                refine g_if_eq hZ 134 dX9_isReached_124 rfl (by omega) (fun cX => absurd cX (by simp)) (fun _ => ?_)
                refine g_iconst hZ dX9_isReached_127 ?_
                refine g_iload hZ dX9_isReached_128 rfl ?_
                refine g_isub hZ dX9_isReached_130 ?_
                refine g_goto hZ 136 dX9_isReached_131 rfl ?_
                exact at136 _ (by omega) (by simp; omega)
          refine g_iconst hZ dX9_isReached_103 ?_
          refine g_istore hZ dX9_isReached_104 (by decide) ?_
          exact inner _ 0 L S₂ _ (Nat.zero_add _) he₃ Eqx.rf hRS₂ hv hkl hX rfl
      · have hnone : L[k]? = none := List.getElem?_eq_none (by omega)
        rw [hnone] at hb
        refine g_iload hZ dX9_isReached_65 rfl ?_
        refine g_aload_n hZ dX9_isReached_67 rfl ?_
        refine g_geti hZ fX9_135 rfl rfl dX9_isReached_68 r1 ?_
        refine g_icmp_ge hZ 212 dX9_isReached_71 rfl (by omega) (fun _ => ?_) (fun cX => absurd (by omega) cX)
        refine g_iconst hZ dX9_isReached_212 ?_
        refine g_zret hZ dX9_isReached_213 rfl (Or.inr rfl) ⟨he, 1, rfl, Or.inr ⟨rfl, L, hR0.trans hb.symm, hRS⟩⟩
  have zero : ∀ (m k : Nat), k + m = 8192 → Z (setRow S 68 k (fun _ => 0)) [(0, .ref (gad E 27)), (1, iV (c0 : Int)), (2, iV (s : Int)), (3, iV (cond alt 1 0)), (4, iV (k : Int))] 3 [] := by
    intro m
    induction m with
    | zero =>
      intro k hk
      have : k = 8192 := by omega
      subst this
      have e1 : (s : Int) - 1 = ((s - 1 : Nat) : Int) := by omega
      refine g_iload hZ dX9_isReached_3 rfl ?_
      refine g_sipush hZ (z := 8192) dX9_isReached_5 rfl ?_
      refine g_icmp_ge hZ 25 dX9_isReached_8 rfl (by omega) (fun _ => ?_) (fun cX => absurd (by omega) cX)
      refine g_aload_n hZ dX9_isReached_25 rfl ?_
      refine g_iconst hZ dX9_isReached_26 ?_
      refine g_puti hZ fX9_135 rfl rfl dX9_isReached_27 ?_
      refine g_aload_n hZ dX9_isReached_30 rfl ?_
      refine g_getr hZ fX9_35 rfl rfl dX9_isReached_31 ?_
      refine g_iconst hZ dX9_isReached_34 ?_
      refine g_iload_n hZ dX9_isReached_35 rfl ?_
      refine g_iload_n hZ dX9_isReached_36 rfl ?_
      refine g_iconst hZ dX9_isReached_37 ?_
      refine g_isub hZ dX9_isReached_38 ?_
      rw [e1]
      refine g_bipush hZ (z := 30) dX9_isReached_39 rfl ?_
      refine g_ishl hZ dX9_isReached_41 (gi_shl (k := 30) (by omega) (by omega)) ?_
      refine g_ior hZ dX9_isReached_42 (gi_ors (k := 30) (by omega)) ?_
      have e2 : c0 + (s - 1) * 2 ^ 30 = p0 := by rw [← hp0d, Nat.mul_comm 1073741824]
      rw [e2]
      refine g_iast hZ (0) rfl dX9_isReached_43 (rfl) (by omega) (by decide) ?_
      refine g_aload_n hZ dX9_isReached_44 rfl ?_
      refine g_getr hZ fX9_38 rfl rfl dX9_isReached_45 ?_
      refine g_iconst hZ dX9_isReached_48 ?_
      refine g_aload_n hZ dX9_isReached_49 rfl ?_
      refine g_aload_n hZ dX9_isReached_50 rfl ?_
      refine g_getr hZ fX9_35 rfl rfl dX9_isReached_51 ?_
      refine g_iconst hZ dX9_isReached_54 ?_
      refine g_iald hZ (0) rfl dX9_isReached_55 (rfl) (by omega) (by decide) (rfl) ?_
      have hT0 : htI (upS (upS (setRow S 68 8192 (fun _ => 0)) 56 0 1) 67 0 (p0 : Int) 68) 8192 hR [] := ht_nil _ _ (fun x hx => by rw [upS_v _ _ (by decide), upS_v _ _ (by decide), setRow_in _ _ hx])
      refine g_callV hZ (t_X9_placeOf E _ [] (HL_nil _ _) hT0 (by simp) (by simp) p0 hp0.1) kX9_138 ⟨by decide, by decide⟩ rfl rfl rfl rfl (Nat.le_of_ble_eq_true rfl) dX9_isReached_56 ?_
      rintro _ _ ⟨rfl, z, rfl, hz⟩
      rcases hz with ⟨i, hi, -⟩ | ⟨-, d, hd, rfl, h0, hpos⟩
      · simp at hi
      · have hsl := Nat.mod_lt (hR p0 + d) (show 0 < 8192 by omega)
        refine g_isub hZ dX9_isReached_59 ?_
        refine g_iconst hZ dX9_isReached_60 ?_
        refine g_iast hZ (((hR p0 + d) % 8192)) rfl dX9_isReached_61 (by omega) (by omega) (by decide) ?_
        refine g_iconst hZ dX9_isReached_62 ?_
        refine g_istore hZ dX9_isReached_63 (by decide) ?_
        refine outer 1501 0 [p0] _ _ (by omega) (by simp) ((((Eqx.rf.row rfl).up rfl).up rfl).up rfl) ⟨rfl, fun i x hi => ?_, ?_, by simp, by simp⟩ (fun p hp => by rw [List.mem_singleton] at hp; rw [hp]; exact hp0) hR0 rfl
        · have hil := (List.getElem?_eq_some_iff.mp hi).1
          have : i = 0 := by simpa using hil
          subst this
          simp at hi
          rw [← hi]; rfl
        · have := ht_add modsep_R hT0 (c := p0) hd h0 hpos (g := upS (upS (upS (setRow S 68 8192 (fun _ => 0)) 56 0 1) 67 0 (p0 : Int)) 68 ((hR p0 + d) % 8192) 1 68) (fun x => by
            by_cases q : x = (hR p0 + d) % 8192
            · rw [if_pos q, q, upS_eq]; rfl
            · rw [if_neg q, upS_j _ _ q])
          exact this
    | succ m ih =>
      intro k hk
      refine g_iload hZ dX9_isReached_3 rfl ?_
      refine g_sipush hZ (z := 8192) dX9_isReached_5 rfl ?_
      refine g_icmp_ge hZ 25 dX9_isReached_8 rfl (by omega) (fun cX => absurd cX (by omega)) (fun _ => ?_)
      refine g_aload_n hZ dX9_isReached_11 rfl ?_
      refine g_getr hZ fX9_38 rfl rfl dX9_isReached_12 ?_
      refine g_iload hZ dX9_isReached_15 rfl ?_
      refine g_iconst hZ dX9_isReached_17 ?_
      refine g_iast hZ (k) rfl dX9_isReached_18 (rfl) (by omega) (by decide) ?_
      refine g_iinc hZ dX9_isReached_19 rfl (by decide) ?_
      refine g_goto hZ 3 dX9_isReached_22 rfl ?_
      have e1 := setRow_succ S 68 k (fun _ => 0)
      refine g_state hZ e1 ?_
      exact ih (k + 1) (by omega)
  refine g_iconst hZ dX9_isReached_0 ?_
  refine g_istore hZ dX9_isReached_1 (by decide) ?_
  have := zero 8192 0 (by omega)
  rw [setRow_0] at this
  exact this
