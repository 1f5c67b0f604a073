/-! the reference: weighing -/
def qkF (alt : Bool) (q : Int) (v : Bool × Nat) : Int := if alt = true ∧ v.1 = false ∧ (q < 0 ∨ (v.2 : Int) + 1 < q) then (v.2 : Int) + 1 else q
def frF (m : Nat) (v : Bool × Nat) : Nat := if m < v.2 + 1 then v.2 + 1 else m
def gvl (alt : Bool) (vs : List (Bool × Nat)) : Bool × Nat := if 0 ≤ vs.foldl (qkF alt) (-1) then (true, (vs.foldl (qkF alt) (-1)).toNat) else (false, vs.foldl frF 0)
def gv (w n : Nat) (alt : Bool) : Nat → Nat → Bool × Nat
  | 0, _ => (false, 0)
  | f + 1, p => gvl alt ((scP w n alt p).map (gv w n alt f))
/-- who wins, and how long it takes; or the most moves of one side -/
def GV (w n : Nat) (alt : Bool) (p : Nat) : Bool × Nat := gv w n alt (n - bcP n p + 1) p
theorem GV_eq {w h n : Nat} (hg : gOK w h n) (alt : Bool) (p : Nat) : GV w n alt p = gvl alt ((scP w n alt p).map (GV w n alt)) := by
  unfold GV
  rw [gv]
  congr 1
  refine List.map_congr_left fun c hc => ?_
  have h1 := bcP_nx hg c hc
  have h2 : bcP n c ≤ n := cntZ_le _ _ _
  rw [show n - bcP n p = n - bcP n c + 1 by omega]
theorem qk_b {alt : Bool} {b : Nat} : ∀ (vs : List (Bool × Nat)) (q : Int), (∀ v ∈ vs, v.2 ≤ b) → -1 ≤ q → q ≤ b + 1 → -1 ≤ vs.foldl (qkF alt) q ∧ vs.foldl (qkF alt) q ≤ b + 1
  | [], q, _, h1, h2 => ⟨h1, h2⟩
  | v :: vs, q, h, h1, h2 => by
    have hv := h v List.mem_cons_self
    rw [List.foldl_cons]
    refine qk_b vs _ (fun x hx => h x (List.mem_cons_of_mem _ hx)) ?_ ?_
    · unfold qkF; split <;> omega
    · unfold qkF; split <;> omega
theorem fr_b {b : Nat} : ∀ (vs : List (Bool × Nat)) (m : Nat), (∀ v ∈ vs, v.2 ≤ b) → m ≤ b + 1 → vs.foldl frF m ≤ b + 1
  | [], m, _, h1 => h1
  | v :: vs, m, h, h1 => by
    have hv := h v List.mem_cons_self
    rw [List.foldl_cons]
    refine fr_b vs _ (fun x hx => h x (List.mem_cons_of_mem _ hx)) ?_
    unfold frF; split <;> omega
theorem gv_b {w n : Nat} {alt : Bool} : ∀ (f p : Nat), (gv w n alt f p).2 ≤ f
  | 0, p => Nat.le_refl _
  | f + 1, p => by
    rw [gv]
    have h : ∀ v ∈ (scP w n alt p).map (gv w n alt f), v.2 ≤ f := fun v hv => by
      obtain ⟨c, -, rfl⟩ := List.mem_map.mp hv
      exact gv_b f c
    unfold gvl
    split
    · have := (qk_b (alt := alt) _ (-1) h (by omega) (by omega)).2
      show ((List.map (gv w n alt f) (scP w n alt p)).foldl (qkF alt) (-1)).toNat ≤ f + 1
      omega
    · exact fr_b _ 0 h (by omega)
theorem GV_b {w n : Nat} {alt : Bool} {p : Nat} : (GV w n alt p).2 ≤ n + 1 := by
  unfold GV
  have := gv_b (w := w) (n := n) (alt := alt) (n - bcP n p + 1) p
  omega
def b2i (b : Bool) : Int := cond b 1 0
theorem b2i_01 (b : Bool) : b2i b = 0 ∨ b2i b = 1 := by cases b; exact Or.inl rfl; exact Or.inr rfl
theorem t_X9_weighs (E : gE) (S : gS) (w h n : Nat) (hg : mG S w h n) (alt : Bool) (L : List Nat) (hRS : RS S L) (hOK : bOK (scP w n alt) (vP n) L) : Ct E LAY mX9_weighs [.ref (gad E 27), iV (cond alt 1 0)] S (fun r S' => r = none ∧ Eqx [55, 62, 66, 69, 70] S S' ∧ ∀ (i p : Nat), L[i]? = some p → S' 69 i = b2i (GV w n alt p).1 ∧ S' 70 i = ((GV w n alt p).2 : Int)) := by
  have hn := hg.n15
  have hO := hg.2.2
  obtain ⟨k1, k2, k3, k4⟩ := hOK
  have ha01 : R32 (cond alt (1 : Int) 0) := by cases alt <;> exact ⟨by decide, by decide⟩
  refine Ct.intro LAY_ok (by decide +kernel) (Nat.le_of_ble_eq_true rfl) rfl ?_
  intro Z hZ
  have outer : ∀ (m : Nat) (S₁ : gS) (L9 : List (Nat × Value)), m ≤ L.length → Eqx [55, 62, 66, 69, 70] S S₁ → (∀ (i p : Nat), m ≤ i → L[i]? = some p → S₁ 69 i = b2i (GV w n alt p).1 ∧ S₁ 70 i = ((GV w n alt p).2 : Int)) → lkeep L9 [0, 1, 2] = [(0, .ref (gad E 27)), (1, iV (cond alt 1 0)), (2, iV ((m : Int) - 1))] → Z S₁ L9 7 [] := by
    intro m
    induction m with
    | zero =>
      intro S₁ L9 hm he hv hL9
      refine g_keep hZ [0, 1, 2] hL9 ?_
      refine g_iload_n hZ dX9_weighs_7 rfl ?_
      refine g_if_lt hZ 246 dX9_weighs_8 rfl (by omega) (fun _ => ?_) (fun cX => absurd (by omega) cX)
      refine g_vret hZ dX9_weighs_246 rfl ⟨rfl, he, fun i p hi => hv i p (Nat.zero_le i) hi⟩
    | succ k ihm =>
      intro S₁ L9 hm he hv hL9
      have hRS₁ := hRS.x he rfl rfl rfl
      obtain ⟨r1, r2, r3, r4, r5⟩ := id hRS₁
      have hg₁ := hg.x he rfl rfl
      have ek : ((k + 1 : Nat) : Int) - 1 = (k : Int) := by omega
      rw [ek] at hL9
      refine g_keep hZ [0, 1, 2] hL9 ?_
      obtain ⟨p, hp⟩ : ∃ p, L[k]? = some p := ⟨_, List.getElem?_eq_getElem (by omega)⟩
      have hpv := k3 p (List.mem_of_getElem? hp)
      have hcp : S₁ 67 k = (p : Int) := r2 k p hp
      have hsd := sdP_12 p
      have hml := scP_len hO hpv
      refine g_iload_n hZ dX9_weighs_7 rfl ?_
      refine g_if_lt hZ 246 dX9_weighs_8 rfl (by omega) (fun cX => absurd cX (by omega)) (fun _ => ?_)
      refine g_aload_n hZ dX9_weighs_11 rfl ?_
      refine g_getr hZ fX9_35 rfl rfl dX9_weighs_12 ?_
      refine g_iload_n hZ dX9_weighs_15 rfl ?_
      refine g_iald hZ (k) rfl dX9_weighs_16 (rfl) (by omega) (by decide) (hcp) ?_
      refine g_callS hZ (t_X9_sideOf E S₁ p hpv.1) kX9_141 ⟨by decide, by decide⟩ rfl rfl (Nat.le_of_ble_eq_true rfl) dX9_weighs_17 ?_
      rintro _ _ ⟨rfl, rfl⟩
      refine g_istore_n hZ dX9_weighs_20 (by decide) ?_
      refine g_aload_n hZ dX9_weighs_21 rfl ?_
      refine g_aload_n hZ dX9_weighs_22 rfl ?_
      refine g_getr hZ fX9_35 rfl rfl dX9_weighs_23 ?_
      refine g_iload_n hZ dX9_weighs_26 rfl ?_
      refine g_iald hZ (k) rfl dX9_weighs_27 (rfl) (by omega) (by decide) (hcp) ?_
      refine g_callV hZ (t_X9_decodes E S₁ p hpv.1) kX9_144 ⟨by decide, by decide⟩ rfl rfl rfl rfl (Nat.le_of_ble_eq_true rfl) dX9_weighs_28 ?_
      rintro _ _ ⟨rfl, rfl⟩
      have he₂ : Eqx [62] S₁ (setRow S₁ 62 15 (bdP p)) := Eqx.rf.row rfl
      have h62 : ∀ k, k < 15 → setRow S₁ 62 15 (bdP p) 62 k = bdP p k := fun k hk => setRow_in S₁ (bdP p) hk
      have em : mvs w n (setRow S₁ 62 15 (bdP p) 62) (sdP p : Int) = mvs w n (bdP p) (sdP p : Int) := mvs_cong hO (fun k hk => h62 k (by omega))
      refine g_aload_n hZ dX9_weighs_31 rfl ?_
      refine g_iload_n hZ dX9_weighs_32 rfl ?_
      refine g_callV hZ (t_X9_lists E _ w h n (hg₁.x he₂ rfl rfl) (fun k hk => by rw [h62 k (by omega)]; exact bdP_bd p 15 k (by omega)) (sdP p : Int) hsd (by rw [cntZ_cong (fun k hk => h62 k (by omega))]; exact hpv.2.s hsd)) kX9_105 ⟨by decide, by decide⟩ rfl rfl rfl rfl (Nat.le_of_ble_eq_true rfl) dX9_weighs_33 ?_
      rintro _ S₂ ⟨rfl, hm₂, hb₂⟩
      rw [em] at hm₂
      have he₃ : Eqx [55, 62, 66, 69, 70] S S₂ := (he.tr (he₂.mono rfl)).tr (hm₂.1.mono rfl)
      have he₁₂ : Eqx [55, 62, 66] S₁ S₂ := (he₂.mono rfl).tr hm₂.1
      have h62₂ : ∀ k, k < 15 → S₂ 62 k = bdP p k := fun k hk => by rw [hb₂]; exact h62 k hk
      have hlen := hm₂.2.1
      have hHL := hm₂.2.2
      have hvb : ∀ v ∈ (scP w n alt p).map (GV w n alt), v.2 ≤ n + 1 := fun v hv => by
        obtain ⟨c, -, rfl⟩ := List.mem_map.mp hv
        exact GV_b
      have hvl : ((scP w n alt p).map (GV w n alt)).length = (mvs w n (bdP p) (sdP p : Int)).length := by unfold scP; simp
      have heq := GV_eq hO alt p
      have inner : ∀ (m2 j : Nat) (S₃ : gS) (L9 : List (Nat × Value)), j + m2 = (mvs w n (bdP p) (sdP p : Int)).length → Eqx [55, 62, 66, 69, 70] S S₃ → Eqx [69, 70] S₂ S₃ → S₃ 70 k = ((((scP w n alt p).map (GV w n alt)).take j).foldl frF 0 : Nat) → (∀ (i x : Nat), k + 1 ≤ i → L[i]? = some x → S₃ 69 i = b2i (GV w n alt x).1 ∧ S₃ 70 i = ((GV w n alt x).2 : Int)) → lkeep L9 [0, 1, 2, 3, 4, 5] = [(0, .ref (gad E 27)), (1, iV (cond alt 1 0)), (2, iV (k : Int)), (3, iV (sdP p : Int)), (4, iV ((((scP w n alt p).map (GV w n alt)).take j).foldl (qkF alt) (-1))), (5, iV (j : Int))] → Z S₃ L9 56 [] := by
        intro m2
        induction m2 with
        | zero =>
          intro j S₃ L9 hj he₄ he₅ hfr hvv hL9
          have hlen₃ : S₃ 55 0 = _ := (he₅ 55 0 rfl).trans hlen
          rw [List.take_of_length_le (by omega)] at hfr hL9
          have bq := qk_b (alt := alt) _ (-1) hvb (by omega) (by omega)
          have bf := fr_b _ 0 hvb (by omega)
          refine g_keep hZ [0, 1, 2, 3, 4, 5] hL9 ?_
          refine g_iload hZ dX9_weighs_56 rfl ?_
          refine g_aload_n hZ dX9_weighs_58 rfl ?_
          refine g_geti hZ fX9_102 rfl rfl dX9_weighs_59 hlen₃ ?_
          refine g_icmp_ge hZ 202 dX9_weighs_62 rfl (by omega) (fun _ => ?_) (fun cX => absurd (by omega) cX)
          refine g_aload_n hZ dX9_weighs_202 rfl ?_
          refine g_getr hZ fX9_41 rfl rfl dX9_weighs_203 ?_
          refine g_iload_n hZ dX9_weighs_206 rfl ?_
          refine g_iload hZ dX9_weighs_207 rfl ?_
          have gofin : ∀ (S₄ : gS) (L9 : List (Nat × Value)), Eqx [69, 70] S₃ S₄ → (∀ i, i ≠ k → S₄ 69 i = S₃ 69 i ∧ S₄ 70 i = S₃ 70 i) → S₄ 69 k = b2i (GV w n alt p).1 → S₄ 70 k = ((GV w n alt p).2 : Int) → lkeep L9 [0, 1, 2] = [(0, .ref (gad E 27)), (1, iV (cond alt 1 0)), (2, iV (k : Int))] → Z S₄ L9 240 [] := by
            intro S₄ L9 he₆ hne hw1 hf1 hL9
            refine g_keep hZ [0, 1, 2] hL9 ?_
            refine g_iinc hZ dX9_weighs_240 rfl (by decide) ?_
            refine g_goto hZ 7 dX9_weighs_243 rfl ?_
            refine ihm S₄ _ (by omega) (he₄.tr (he₆.mono rfl)) (fun i x hi hx => ?_) rfl
            by_cases e : i = k
            · subst e
              rw [hp] at hx
              cases hx
              exact ⟨hw1, hf1⟩
            · rw [(hne i e).1, (hne i e).2]
              exact hvv i x (by omega) hx
          generalize hq : ((scP w n alt p).map (GV w n alt)).foldl (qkF alt) (-1) = qk at *
          generalize hf : ((scP w n alt p).map (GV w n alt)).foldl frF 0 = fr at *
          have hgv : GV w n alt p = if 0 ≤ qk then (true, qk.toNat) else (false, fr) := by rw [heq]; unfold gvl; rw [hq, hf]
          refine g_if_lt hZ 216 dX9_weighs_209 rfl (by omega) (fun c => ?_) (fun c => ?_)
          · rw [if_neg (by omega)] at hgv
            refine g_iconst hZ dX9_weighs_216 ?_
            refine g_zast hZ (k) rfl dX9_weighs_217 (rfl) (by omega) (by decide) (rfl) ?_
            refine g_aload_n hZ dX9_weighs_218 rfl ?_
            refine g_getr hZ fX9_45 rfl rfl dX9_weighs_219 ?_
            refine g_iload_n hZ dX9_weighs_222 rfl ?_
            refine g_iload hZ dX9_weighs_223 rfl ?_
            refine g_if_lt hZ 233 dX9_weighs_225 rfl (by omega) (fun _ => ?_) (fun cX => absurd (by omega) cX)
            refine g_aload_n hZ dX9_weighs_233 rfl ?_
            refine g_getr hZ fX9_45 rfl rfl dX9_weighs_234 ?_
            refine g_iload_n hZ dX9_weighs_237 rfl ?_
            refine g_iald hZ (k) rfl dX9_weighs_238 (rfl) (by omega) (by decide) (hfr) ?_
            refine g_iast hZ (k) rfl dX9_weighs_239 (rfl) (by omega) (by decide) ?_
            refine gofin _ _ ((Eqx.rf.up rfl).up rfl) (fun i hi => ⟨?_, ?_⟩) ?_ ?_ rfl
            · rw [upS_v _ _ (by decide), upS_j _ _ hi]
            · rw [upS_j _ _ hi, upS_v _ _ (by decide)]
            · rw [upS_v _ _ (by decide), upS_eq, hgv]; rfl
            · rw [upS_eq, hgv]
          · rw [if_pos (by omega)] at hgv
            refine g_iconst hZ dX9_weighs_212 ?_
            refine g_goto hZ 217 dX9_weighs_213 rfl ?_
            refine g_zast hZ (k) rfl dX9_weighs_217 (rfl) (by omega) (by decide) (rfl) ?_
            refine g_aload_n hZ dX9_weighs_218 rfl ?_
            refine g_getr hZ fX9_45 rfl rfl dX9_weighs_219 ?_
            refine g_iload_n hZ dX9_weighs_222 rfl ?_
            refine g_iload hZ dX9_weighs_223 rfl ?_
            refine g_if_lt hZ 233 dX9_weighs_225 rfl (by omega) (fun cX => absurd cX (by omega)) (fun _ => ?_)
            refine g_iload hZ dX9_weighs_228 rfl ?_
            refine g_goto hZ 239 dX9_weighs_230 rfl ?_
            refine g_iast hZ (k) rfl dX9_weighs_239 (rfl) (by omega) (by decide) ?_
            refine gofin _ _ ((Eqx.rf.up rfl).up rfl) (fun i hi => ⟨?_, ?_⟩) ?_ ?_ rfl
            · rw [upS_v _ _ (by decide), upS_j _ _ hi]
            · rw [upS_j _ _ hi, upS_v _ _ (by decide)]
            · rw [upS_v _ _ (by decide), upS_eq, hgv]; rfl
            · rw [upS_eq, hgv]; show qk = (qk.toNat : Int); omega
        | succ m2 ih =>
          intro j S₃ L9 hj he₄ he₅ hfr hvv hL9
          obtain ⟨q, hq⟩ : ∃ q, (mvs w n (bdP p) (sdP p : Int))[j]? = some q := ⟨_, List.getElem?_eq_getElem (by omega)⟩
          have hqm := List.mem_of_getElem? hq
          have hqf := mvs_facts hO (by omega) hqm
          have hcm : nxP n alt p q ∈ scP w n alt p := List.mem_map.mpr ⟨q, hqm, rfl⟩
          have hvx : vP n (nxP n alt p q) := vP_nx hO hpv _ hcm
          obtain ⟨a, hka, ha⟩ := k4 k p _ hp hcm
          have hal := (List.getElem?_eq_some_iff.mp ha).1
          obtain ⟨va1, va2⟩ := hvv a _ (by omega) ha
          have hgb := GV_b (w := w) (n := n) (alt := alt) (p := nxP n alt p q)
          have htk : ((scP w n alt p).map (GV w n alt)).take (j + 1) = ((scP w n alt p).map (GV w n alt)).take j ++ [GV w n alt (nxP n alt p q)] := by
            rw [List.take_add_one]
            congr 1
            unfold scP
            rw [List.map_map, List.getElem?_map, hq]; rfl
          have hlen₃ : S₃ 55 0 = _ := (he₅ 55 0 rfl).trans hlen
          have hfk : S₃ 66 j = menc q := (he₅ 66 j rfl).trans (hHL j q hq)
          have h62₃ : ∀ k, k < 15 → S₃ 62 k = bdP p k := fun k hk => (he₅ 62 k rfl).trans (h62₂ k hk)
          have hRS₃ := hRS.x he₄ rfl rfl rfl
          have hg₃ := hg.x he₄ rfl rfl
          have eaf : cod (aftB (S₃ 62) q (sdP p : Int)) n = cod (aftB (bdP p) q (sdP p : Int)) n := cod_cong (fun k hk => by unfold aftB; rw [h62₃ k (by omega)])
          have htb : ∀ v ∈ ((scP w n alt p).map (GV w n alt)).take j, v.2 ≤ n + 1 := fun v hv => hvb v (List.mem_of_mem_take hv)
          have bq := qk_b (alt := alt) _ (-1) htb (by omega) (by omega)
          have bf := fr_b _ 0 htb (by omega)
          have hq2 : (((scP w n alt p).map (GV w n alt)).take (j + 1)).foldl (qkF alt) (-1) = qkF alt ((((scP w n alt p).map (GV w n alt)).take j).foldl (qkF alt) (-1)) (GV w n alt (nxP n alt p q)) := by rw [htk, List.foldl_append]; rfl
          have hf2 : (((scP w n alt p).map (GV w n alt)).take (j + 1)).foldl frF 0 = frF ((((scP w n alt p).map (GV w n alt)).take j).foldl frF 0) (GV w n alt (nxP n alt p q)) := by rw [htk, List.foldl_append]; rfl
          have ih' := fun S₃ L9 he₄ he₅ => ih (j + 1) S₃ L9 (by omega) he₄ he₅
          rw [hq2, hf2] at ih'
          clear ih hq2 hf2 htk heq
          generalize (((scP w n alt p).map (GV w n alt)).take j).foldl (qkF alt) (-1) = qk at *
          generalize (((scP w n alt p).map (GV w n alt)).take j).foldl frF 0 = fr at *
          generalize hG : GV w n alt (nxP n alt p q) = gx at *
          obtain ⟨gw, gr⟩ := gx
          dsimp only at va1 va2 hgb
          refine g_keep hZ [0, 1, 2, 3, 4, 5] hL9 ?_
          have at85 : ∀ (nx : Int), (nx = 1 ∨ nx = 2) → nx.toNat - 1 = cond alt (2 - sdP p) (sdP p - 1) → Z S₃ [(0, .ref (gad E 27)), (1, iV (cond alt 1 0)), (2, iV (k : Int)), (3, iV (sdP p : Int)), (4, iV qk), (5, iV (j : Int))] 85 [iV nx, iV (menc q), .ref (gad E 27), .ref (gad E 27)] := by
            intro nx hnx hnx2
            refine g_callV hZ (t_X9_behind E S₃ w h n hg₃ (fun k hk => by rw [h62₃ k (by omega)]; exact bdP_bd p 15 k (by omega)) q hqf.1 hqf.2.1 hqf.2.2.1 (sdP p : Int) hsd (by rw [h62₃ _ (by omega)]; exact hqf.2.2.2.1) nx hnx) kX9_147 ⟨by decide, by decide⟩ rfl rfl rfl rfl (Nat.le_of_ble_eq_true rfl) dX9_weighs_85 ?_
            rintro _ _ ⟨rfl, rfl⟩
            rw [eaf, hnx2]
            refine g_callV hZ (t_X9_placeOf E S₃ L hRS₃.2.1 hRS₃.2.2.1 r5 (fun x hx => (k3 x hx).1) (nxP n alt p q) hvx.1) kX9_138 ⟨by decide, by decide⟩ rfl rfl rfl rfl (Nat.le_of_ble_eq_true rfl) dX9_weighs_88 ?_
            rintro _ _ ⟨rfl, z, rfl, hz⟩
            have hza : z = (a : Int) := by
              rcases hz with ⟨i, hi, rfl⟩ | ⟨hni, -⟩
              · have := (List.getElem?_inj (List.getElem?_eq_some_iff.mp hi).1 k1).mp (hi.trans ha.symm)
                rw [this]
              · exact absurd (List.mem_of_getElem? ha) hni
            subst hza
            have at152 : ∀ (x : Int) (L9 : List (Nat × Value)), x = qkF alt qk (gw, gr) → lkeep L9 [0, 1, 2, 3, 5, 6] = [(0, .ref (gad E 27)), (1, iV (cond alt 1 0)), (2, iV (k : Int)), (3, iV (sdP p : Int)), (5, iV (j : Int)), (6, iV (a : Int))] → Z S₃ L9 152 [iV x] := by
              intro x L9 hx hL9
              refine g_keep hZ [0, 1, 2, 3, 5, 6] hL9 ?_
              refine g_istore hZ dX9_weighs_152 (by decide) ?_
              refine g_aload_n hZ dX9_weighs_154 rfl ?_
              refine g_getr hZ fX9_45 rfl rfl dX9_weighs_155 ?_
              refine g_iload_n hZ dX9_weighs_158 rfl ?_
              refine g_aload_n hZ dX9_weighs_159 rfl ?_
              refine g_getr hZ fX9_45 rfl rfl dX9_weighs_160 ?_
              refine g_iload hZ dX9_weighs_163 rfl ?_
              refine g_iald hZ (a) rfl dX9_weighs_165 (rfl) (by omega) (by decide) (va2) ?_
              refine g_iconst hZ dX9_weighs_166 ?_
              refine g_iadd hZ dX9_weighs_167 ?_
              refine g_aload_n hZ dX9_weighs_168 rfl ?_
              refine g_getr hZ fX9_45 rfl rfl dX9_weighs_169 ?_
              refine g_iload_n hZ dX9_weighs_172 rfl ?_
              refine g_iald hZ (k) rfl dX9_weighs_173 (rfl) (by omega) (by decide) (hfr) ?_
              have fin : ∀ (y : Int), y = ((frF fr (gw, gr) : Nat) : Int) → Z S₃ [(0, .ref (gad E 27)), (1, iV (cond alt 1 0)), (2, iV (k : Int)), (3, iV (sdP p : Int)), (4, iV x), (5, iV (j : Int)), (6, iV (a : Int))] 195 [iV y, iV (k : Int), .ref (gad E 37)] := by
                intro y hy
                refine g_iast hZ (k) rfl dX9_weighs_195 (rfl) (by omega) (by decide) ?_
                refine g_iinc hZ dX9_weighs_196 rfl (by decide) ?_
                refine g_goto hZ 56 dX9_weighs_199 rfl ?_
                refine ih' _ _ (he₄.up rfl) (he₅.up rfl) (by rw [upS_eq]; exact hy) (fun i x2 hi hx2 => ?_) (by rw [← hx]; rfl)
                rw [upS_v _ _ (by decide), upS_j _ _ (by omega)]
                exact hvv i x2 hi hx2
              refine g_icmp_le hZ 189 dX9_weighs_174 rfl (by omega) (fun c => ?_) (fun c => ?_)
              · refine g_aload_n hZ dX9_weighs_189 rfl ?_
                refine g_getr hZ fX9_45 rfl rfl dX9_weighs_190 ?_
                refine g_iload_n hZ dX9_weighs_193 rfl ?_
                refine g_iald hZ (k) rfl dX9_weighs_194 (rfl) (by omega) (by decide) (hfr) ?_
                exact fin _ (by unfold frF; rw [if_neg (by show ¬ fr < gr + 1; omega)])
              · refine g_aload_n hZ dX9_weighs_177 rfl ?_
                refine g_getr hZ fX9_45 rfl rfl dX9_weighs_178 ?_
                refine g_iload hZ dX9_weighs_181 rfl ?_
                refine g_iald hZ (a) rfl dX9_weighs_183 (rfl) (by omega) (by decide) (va2) ?_
                refine g_iconst hZ dX9_weighs_184 ?_
                refine g_iadd hZ dX9_weighs_185 ?_
                refine g_goto hZ 195 dX9_weighs_186 rfl ?_
                exact fin _ (by unfold frF; rw [if_pos (by show fr < gr + 1; omega)]; rfl)
            have at150 : qk = qkF alt qk (gw, gr) → ∀ L9 : List (Nat × Value), lkeep L9 [0, 1, 2, 3, 4, 5, 6] = [(0, .ref (gad E 27)), (1, iV (cond alt 1 0)), (2, iV (k : Int)), (3, iV (sdP p : Int)), (4, iV qk), (5, iV (j : Int)), (6, iV (a : Int))] → Z S₃ L9 150 [] := by
              intro hq L9 hL9
              refine g_keep hZ [0, 1, 2, 3, 4, 5, 6] hL9 ?_
              refine g_iload hZ dX9_weighs_150 rfl ?_
              exact at152 _ _ hq rfl
            have at111 : ¬ (alt = true ∧ gw = false) → ∀ L9 : List (Nat × Value), lkeep L9 [0, 1, 2, 3, 4, 5, 6] = [(0, .ref (gad E 27)), (1, iV (cond alt 1 0)), (2, iV (k : Int)), (3, iV (sdP p : Int)), (4, iV qk), (5, iV (j : Int)), (6, iV (a : Int))] → Z S₃ L9 111 [] := by
              intro hno L9 hL9
              refine g_keep hZ [0, 1, 2, 3, 4, 5, 6] hL9 ?_
              refine g_iconst hZ dX9_weighs_111 ?_
              refine g_istore hZ dX9_weighs_112 (by decide) ?_
              refine g_iload hZ dX9_weighs_114 rfl ?_
              refine g_if_eq hZ 150 dX9_weighs_116 rfl (by omega) (fun _ => ?_) (fun cX => absurd (by omega) cX)
              exact at150 (by unfold qkF; rw [if_neg (fun q => hno ⟨q.1, q.2.1⟩)]) _ rfl
            refine g_istore hZ dX9_weighs_91 (by decide) ?_
            refine g_iload_n hZ dX9_weighs_93 rfl ?_
            cases alt with
            | false =>
              refine g_if_eq hZ 111 dX9_weighs_94 rfl (by omega) (fun _ => ?_) (fun cX => absurd (by simp) cX)
              exact at111 (by simp) _ rfl
            | true =>
              refine g_if_eq hZ 111 dX9_weighs_94 rfl (by omega) (fun cX => absurd cX (by simp)) (fun _ => ?_)
              refine g_aload_n hZ dX9_weighs_97 rfl ?_
              refine g_getr hZ fX9_41 rfl rfl dX9_weighs_98 ?_
              refine g_iload hZ dX9_weighs_101 rfl ?_
              refine g_zald hZ (a) rfl dX9_weighs_103 (rfl) (by omega) (by decide) (va1) ?_
              cases gw with
              | true =>
                refine g_if_ne hZ 111 dX9_weighs_104 rfl ⟨by decide, by decide⟩ (fun _ => ?_) (fun cX => absurd cX (by decide))
                exact at111 (by simp) _ rfl
              | false =>
                refine g_if_ne hZ 111 dX9_weighs_104 rfl ⟨by decide, by decide⟩ (fun cX => absurd (by decide) cX) (fun _ => ?_)
                refine g_iconst hZ dX9_weighs_107 ?_
                refine g_goto hZ 112 dX9_weighs_108 rfl ?_
                refine g_istore hZ dX9_weighs_112 (by decide) ?_
                refine g_iload hZ dX9_weighs_114 rfl ?_
                refine g_if_eq hZ 150 dX9_weighs_116 rfl (by omega) (fun cX => absurd cX (by omega)) (fun _ => ?_)
                refine g_iload hZ dX9_weighs_119 rfl ?_
                have yes : (qk < 0 ∨ (gr : Int) + 1 < qk) → ∀ L9 : List (Nat × Value), lkeep L9 [0, 1, 2, 3, 5, 6] = [(0, .ref (gad E 27)), (1, iV (cond true 1 0)), (2, iV (k : Int)), (3, iV (sdP p : Int)), (5, iV (j : Int)), (6, iV (a : Int))] → Z S₃ L9 138 [] := by
                  intro hy L9 hL9
                  refine g_keep hZ [0, 1, 2, 3, 5, 6] hL9 ?_
                  refine g_aload_n hZ dX9_weighs_138 rfl ?_
                  refine g_getr hZ fX9_45 rfl rfl dX9_weighs_139 ?_
                  refine g_iload hZ dX9_weighs_142 rfl ?_
                  refine g_iald hZ (a) rfl dX9_weighs_144 (rfl) (by omega) (by decide) (va2) ?_
                  refine g_iconst hZ dX9_weighs_145 ?_
                  refine g_iadd hZ dX9_weighs_146 ?_
                  refine g_goto hZ 152 dX9_weighs_147 rfl ?_
                  exact at152 _ _ (by unfold qkF; rw [if_pos ⟨rfl, rfl, hy⟩]) rfl
                refine g_if_lt hZ 138 dX9_weighs_121 rfl (by omega) (fun c => ?_) (fun c => ?_)
                · exact yes (Or.inl c) _ rfl
                · refine g_aload_n hZ dX9_weighs_124 rfl ?_
                  refine g_getr hZ fX9_45 rfl rfl dX9_weighs_125 ?_
                  refine g_iload hZ dX9_weighs_128 rfl ?_
                  refine g_iald hZ (a) rfl dX9_weighs_130 (rfl) (by omega) (by decide) (va2) ?_
                  refine g_iconst hZ dX9_weighs_131 ?_
                  refine g_iadd hZ dX9_weighs_132 ?_
                  refine g_iload hZ dX9_weighs_133 rfl ?_
                  refine g_icmp_ge hZ 150 dX9_weighs_135 rfl (by omega) (fun c2 => ?_) (fun c2 => ?_)
                  · exact at150 (by unfold qkF; rw [if_neg (fun q => by have q2 : qk < 0 ∨ (gr : Int) + 1 < qk := q.2.2; omega)]) _ rfl
                  · exact yes (Or.inr (by omega)) _ rfl
          refine g_iload hZ dX9_weighs_56 rfl ?_
          refine g_aload_n hZ dX9_weighs_58 rfl ?_
          refine g_geti hZ fX9_102 rfl rfl dX9_weighs_59 hlen₃ ?_
          refine g_icmp_ge hZ 202 dX9_weighs_62 rfl (by omega) (fun cX => absurd cX (by omega)) (fun _ => ?_)
          refine g_aload_n hZ dX9_weighs_65 rfl ?_
          refine g_aload_n hZ dX9_weighs_66 rfl ?_
          refine g_aload_n hZ dX9_weighs_67 rfl ?_
          refine g_getr hZ fX9_32 rfl rfl dX9_weighs_68 ?_
          refine g_iload hZ dX9_weighs_71 rfl ?_
          refine g_iald hZ (j) rfl dX9_weighs_73 (rfl) (by omega) (by decide) (hfk) ?_
          refine g_iload_n hZ dX9_weighs_74 rfl ?_
          cases alt with
          | false =>
            refine g_if_eq hZ 84 dX9_weighs_75 rfl (by omega) (fun _ => ?_) (fun cX => absurd (by simp) cX)
            refine g_iload_n hZ dX9_weighs_84 rfl ?_
            exact at85 _ hsd (by simp)
          | true =>
            refine g_if_eq hZ 84 dX9_weighs_75 rfl (by omega) (fun cX => absurd cX (by simp)) (fun _ => ?_)
            refine g_iconst hZ dX9_weighs_78 ?_
            refine g_iload_n hZ dX9_weighs_79 rfl ?_
            refine g_isub hZ dX9_weighs_80 ?_
            refine g_goto hZ 85 dX9_weighs_81 rfl ?_
            exact at85 _ (by omega) (by simp; omega)
      refine g_aload_n hZ dX9_weighs_36 rfl ?_
      refine g_getr hZ fX9_41 rfl rfl dX9_weighs_37 ?_
      refine g_iload_n hZ dX9_weighs_40 rfl ?_
      refine g_iconst hZ dX9_weighs_41 ?_
      refine g_zast hZ (k) rfl dX9_weighs_42 (rfl) (by omega) (by decide) (rfl) ?_
      refine g_aload_n hZ dX9_weighs_43 rfl ?_
      refine g_getr hZ fX9_45 rfl rfl dX9_weighs_44 ?_
      refine g_iload_n hZ dX9_weighs_47 rfl ?_
      refine g_iconst hZ dX9_weighs_48 ?_
      refine g_iast hZ (k) rfl dX9_weighs_49 (rfl) (by omega) (by decide) ?_
      refine g_iconst hZ dX9_weighs_50 ?_
      refine g_istore hZ dX9_weighs_51 (by decide) ?_
      refine g_iconst hZ dX9_weighs_53 ?_
      refine g_istore hZ dX9_weighs_54 (by decide) ?_
      refine inner _ 0 _ _ (Nat.zero_add _) ((he₃.up rfl).up rfl) ((Eqx.rf.up rfl).up rfl) (by rw [upS_eq]; rfl) (fun i x hi hx => ?_) rfl
      rw [upS_v _ _ (by decide), upS_j _ _ (by omega), upS_j _ _ (by omega), upS_v _ _ (by decide)]
      rw [he₁₂ 69 i rfl, he₁₂ 70 i rfl]
      exact hv i x (by omega) hx
  refine g_aload_n hZ dX9_weighs_0 rfl ?_
  refine g_geti hZ fX9_135 rfl rfl dX9_weighs_1 hRS.1 ?_
  refine g_iconst hZ dX9_weighs_4 ?_
  refine g_isub hZ dX9_weighs_5 ?_
  refine g_istore_n hZ dX9_weighs_6 (by decide) ?_
  exact outer L.length S _ (Nat.le_refl _) Eqx.rf (fun i p hi hp => by have := (List.getElem?_eq_some_iff.mp hp).1; omega) rfl
