/-! the class: Play: sides, and its numbers against the reference's codes -/
theorem bits_ex (f : Nat → Bool) : ∀ m, ∃ x : Nat, ∀ i, x.testBit i = (decide (i < m) && f i)
  | 0 => ⟨0, fun i => by rw [Nat.zero_testBit]; simp⟩
  | m + 1 => by
    obtain ⟨x, hx⟩ := bits_ex f m
    cases hf : f m with
    | false =>
      refine ⟨x, fun i => ?_⟩
      rw [hx i]
      by_cases q : i = m
      · subst q; rw [hf]; simp
      · rw [show decide (i < m + 1) = decide (i < m) by rw [decide_eq_decide]; omega]
    | true =>
      refine ⟨x ||| 2 ^ m, fun i => ?_⟩
      rw [Nat.testBit_or, tb_p2, hx i]
      by_cases q : i = m
      · subst q; rw [hf]; simp
      · rw [show decide (i < m + 1) = decide (i < m) by rw [decide_eq_decide]; omega, show decide (m = i) = false from decide_eq_false (fun e => q e.symm), Bool.or_false]
theorem rep_ex (n : Nat) (B : Nat → Int) : ∃ x, repX x n B := by
  obtain ⟨x, hx⟩ := bits_ex (fun i => decide (i % 15 < n ∧ B (i % 15) = ((i / 15 + 1 : Nat) : Int))) 45
  refine ⟨x, rep_lt (fun i hi => by rw [hx i, decide_eq_false (by omega)]; rfl), fun v k h1 h3 hk => ?_⟩
  rw [hx, decide_eq_true (show 15 * (v - 1) + k < 45 by omega), Bool.true_and, show (15 * (v - 1) + k) % 15 = k by omega, show (15 * (v - 1) + k) / 15 + 1 = v by omega]
/-- the class's number of a board -/
noncomputable def xOf (n : Nat) (B : Nat → Int) : Nat := Classical.choose (rep_ex n B)
theorem xOf_ok (n : Nat) (B : Nat → Int) : repX (xOf n B) n B := Classical.choose_spec (rep_ex n B)
noncomputable def xP (n p : Nat) : Nat := xOf n (bdP p)
theorem xP_ok (n p : Nat) : repX (xP n p) n (bdP p) := xOf_ok n (bdP p)
theorem xP_lt (n p : Nat) : xP n p < 35184372088832 := (xP_ok n p).1
theorem rep_inj {x n : Nat} {B B2 : Nat → Int} (hn : n ≤ 15) (h : repX x n B) (h2 : repX x n B2) (hB : mBd B n) (hB2 : mBd B2 n) {k : Nat} (hk : k < n) : B k = B2 k := by
  have b1 := hB k hk
  have b2 := hB2 k hk
  have key : ∀ v : Nat, 1 ≤ v → v ≤ 3 → (B k = (v : Int) ↔ B2 k = (v : Int)) := fun v h1 h3 => by
    have e := (h.2 v k h1 h3 (by omega)).symm.trans (h2.2 v k h1 h3 (by omega))
    rw [decide_eq_decide] at e
    constructor
    · intro q; exact (e.mp ⟨hk, q⟩).2
    · intro q; exact (e.mpr ⟨hk, q⟩).2
  have k1 := key 1 (by omega) (by omega)
  have k2 := key 2 (by omega) (by omega)
  have k3 := key 3 (by omega) (by omega)
  omega
theorem cntB_mkB (n : Nat) (B : Nat → Int) (v : Int) : ∀ m, m ≤ n → cntB (mkB n B v) m = cntZ B v m
  | 0, _ => rfl
  | m + 1, h => by
    rw [cntB, cntZ, cntB_mkB n B v m (by omega)]
    unfold mkB
    by_cases q : B m = v
    · rw [if_pos q, if_pos (by rw [decide_eq_true_eq]; exact ⟨by omega, q⟩)]
    · rw [if_neg q, if_neg (by rw [decide_eq_true_eq]; exact fun e => q e.2)]
theorem cntB_mkO (n : Nat) (B : Nat → Int) (v : Int) : ∀ d, cntB (mkB n B v) (n + d) = cntZ B v n
  | 0 => cntB_mkB n B v n (Nat.le_refl n)
  | d + 1 => by
    show cntB (mkB n B v) (n + d) + _ = _
    rw [cntB_mkO n B v d, mkB_out (show n ≤ n.add d from Nat.le_add_right n d)]
    rfl
theorem bc_msk {x n : Nat} {B : Nat → Int} (h : repX x n B) (hn : n ≤ 15) {v : Nat} (h1 : 1 ≤ v) (h3 : v ≤ 3) : bc (msk x v) = cntZ B (v : Int) n := by
  rw [bc_eq (msk_lt x v)]
  have := cntB_mkO n B (v : Int) (15 - n)
  rw [show n + (15 - n) = 15 by omega] at this
  rw [← this]
  exact cntB_cong (fun k _ => msk_rep h hn h1 h3 k)
/-- the side at a distance from the start -/
def sdF (alt : Bool) (s d : Nat) : Nat := if d % 2 = 0 then s else cond alt (3 - s) s
/-- what the class's play meets: the code, the burned fields and the side belong together -/
def qP (n : Nat) (alt : Bool) (p0 p : Nat) : Prop := vP n p ∧ bcP n p0 ≤ bcP n p ∧ sdP p = sdF alt (sdP p0) (bcP n p - bcP n p0) ∧ p = cod (bdP p) n + 1073741824 * (sdP p - 1)
theorem qP_nx {w h n : Nat} {alt : Bool} {p0 p : Nat} (hg : gOK w h n) (hp : qP n alt p0 p) : ∀ c ∈ scP w n alt p, qP n alt p0 c := by
  intro c hc
  obtain ⟨h1, h2, h3, h4⟩ := hp
  have v1 := vP_nx hg h1 c hc
  have v2 := bcP_nx hg c hc
  obtain ⟨q, hq, rfl⟩ := List.mem_map.mp hc
  obtain ⟨f1, f2, f3⟩ := nxP_facts (alt := alt) hg hq
  have e := sdP_12 p
  have e0 := sdP_12 p0
  refine ⟨v1, by omega, ?_, ?_⟩
  · rw [f2, h3, v2, show bcP n p + 1 - bcP n p0 = (bcP n p - bcP n p0) + 1 by omega]
    generalize bcP n p - bcP n p0 = d
    unfold sdF
    cases alt with
    | false => simp
    | true =>
      by_cases q : d % 2 = 0
      · rw [if_pos q, if_neg (by omega)]
      · rw [if_neg q, if_pos (by omega)]
        show 3 - (3 - sdP p0) = sdP p0
        omega
  · rw [f2, cod_cong f3]
    unfold nxP
    cases alt with
    | false => rfl
    | true =>
      show cod _ n + 1073741824 * (2 - sdP p) = cod _ n + 1073741824 * (3 - sdP p - 1)
      congr 2
      omega
theorem xP_inj {n : Nat} {alt : Bool} {p0 p q : Nat} (hn : n ≤ 15) (hp : qP n alt p0 p) (hq : qP n alt p0 q) (e : xP n p = xP n q) : p = q := by
  have hb : ∀ k, k < n → bdP p k = bdP q k := fun k hk => rep_inj hn (xP_ok n p) (by rw [e]; exact xP_ok n q) (bdP_bd p n) (bdP_bd q n) hk
  have hc : bcP n p = bcP n q := cntZ_cong hb
  have hs : sdP p = sdP q := by rw [hp.2.2.1, hq.2.2.1, hc]
  rw [hp.2.2.2, hq.2.2.2, hs, cod_cong hb]
theorem addL_x {n : Nat} {alt : Bool} {p0 : Nat} (hn : n ≤ 15) : ∀ (r L : List Nat), (∀ p ∈ L, qP n alt p0 p) → (∀ p ∈ r, qP n alt p0 p) → addL (L.map (xP n)) (r.map (xP n)) = (addL L r).map (fun l => l.map (xP n))
  | [], L, _, _ => rfl
  | c :: r, L, hL, hr => by
    have hc := hr c (by simp)
    have iff : xP n c ∈ L.map (xP n) ↔ c ∈ L := by
      constructor
      · intro h
        obtain ⟨d, d1, d2⟩ := List.mem_map.mp h
        rw [← xP_inj hn (hL d d1) hc d2]
        exact d1
      · intro h; exact List.mem_map.mpr ⟨c, h, rfl⟩
    rw [List.map_cons, addL, addL]
    by_cases h : c ∈ L
    · rw [if_pos h, if_pos (iff.mpr h)]
      exact addL_x hn r L hL (fun p hp => hr p (List.mem_cons_of_mem _ hp))
    · rw [if_neg h, if_neg (fun q => h (iff.mp q)), List.length_map]
      by_cases h2 : L.length = 1500
      · rw [if_pos h2, if_pos h2]; rfl
      · rw [if_neg h2, if_neg h2, ← addL_x hn r (L ++ [c]) (fun p hp => by
          rcases List.mem_append.mp hp with z | z
          · exact hL p z
          · rw [List.mem_singleton] at z; subst z; exact hc) (fun p hp => hr p (List.mem_cons_of_mem _ hp)), List.map_append]
        rfl
theorem t_X4_contentsOfL (E : gE) (S : gS) (L : List Nat) (hP : PS S 12 13 16 L) (i x : Nat) (hi : L[i]? = some x) : Ct E LAY mX4_contentsOf [.ref (gad E 5), iV (i : Int)] S (fun r S' => S = S' ∧ r = some (jV (x : Int))) := by
  have hil := (List.getElem?_eq_some_iff.mp hi).1
  have h5 := hP.2.2.2.2.1
  refine Ct.intro LAY_ok (by decide +kernel) (Nat.le_of_ble_eq_true rfl) rfl ?_
  intro Z hZ
  refine g_aload_n hZ dX4_contentsOf_0 rfl ?_
  refine g_getr hZ fX4_9 rfl rfl dX4_contentsOf_1 ?_
  refine g_iload_n hZ dX4_contentsOf_4 rfl ?_
  refine g_lald hZ (i) rfl dX4_contentsOf_5 (rfl) (by omega) (by decide) ((hP.2.1 i x hi)) ?_
  refine g_lret hZ dX4_contentsOf_6 rfl ⟨rfl, rfl⟩
theorem t_X4_isWonL (E : gE) (S : gS) (i : Nat) (hi : i < 1500) (z : Int) (hz : S 14 i = z) (h01 : z = 0 ∨ z = 1) : Ct E LAY mX4_isWon [.ref (gad E 5), iV (i : Int)] S (fun r S' => S = S' ∧ r = some (iV z)) := by
  refine Ct.intro LAY_ok (by decide +kernel) (Nat.le_of_ble_eq_true rfl) rfl ?_
  intro Z hZ
  refine g_aload_n hZ dX4_isWon_0 rfl ?_
  refine g_getr hZ fX4_15 rfl rfl dX4_isWon_1 ?_
  refine g_iload_n hZ dX4_isWon_4 rfl ?_
  refine g_zald hZ (i) rfl dX4_isWon_5 (rfl) (by omega) (by decide) (hz) ?_
  refine g_zret hZ dX4_isWon_6 rfl h01 ⟨rfl, rfl⟩
theorem t_X4_restOfL (E : gE) (S : gS) (i : Nat) (hi : i < 1500) (z : Int) (hz : S 15 i = z) : Ct E LAY mX4_restOf [.ref (gad E 5), iV (i : Int)] S (fun r S' => S = S' ∧ r = some (iV z)) := by
  refine Ct.intro LAY_ok (by decide +kernel) (Nat.le_of_ble_eq_true rfl) rfl ?_
  intro Z hZ
  refine g_aload_n hZ dX4_restOf_0 rfl ?_
  refine g_getr hZ fX4_19 rfl rfl dX4_restOf_1 ?_
  refine g_iload_n hZ dX4_restOf_4 rfl ?_
  refine g_iald hZ (i) rfl dX4_restOf_5 (rfl) (by omega) (by decide) (hz) ?_
  refine g_iret hZ dX4_restOf_6 rfl ⟨rfl, rfl⟩
theorem t_X4_sideAtL (E : gE) (S : gS) (n : Nat) (hn : n ≤ 15) (i x0 x : Nat) (B0 B : Nat → Int) (h0 : repX x0 n B0) (hx : repX x n B) (e0 : S 13 0 = (x0 : Int)) (ei : S 13 i = (x : Int)) (hi : i < 1500) (hle : cntZ B0 3 n ≤ cntZ B 3 n) (f1 f2 : Int) (q1 : S 10 0 = f1) (q2 : S 11 0 = f2) : Ct E LAY mX4_sideAt [.ref (gad E 5), iV (i : Int)] S (fun r S' => S = S' ∧ r = some (iV (if (cntZ B 3 n - cntZ B0 3 n) % 2 = 0 then f1 else f2))) := by
  have m0 := msk_lt x0 3
  have m1 := msk_lt x 3
  have c0 := bc_msk h0 hn (v := 3) (by omega) (by omega)
  have c1 := bc_msk hx hn (v := 3) (by omega) (by omega)
  have l1 := cntZ_le B 3 n
  refine Ct.intro LAY_ok (by decide +kernel) (Nat.le_of_ble_eq_true rfl) rfl ?_
  intro Z hZ
  refine g_aload_n hZ dX4_sideAt_0 rfl ?_
  refine g_getr hZ fX4_9 rfl rfl dX4_sideAt_1 ?_
  refine g_iconst hZ dX4_sideAt_4 ?_
  refine g_lald hZ (0) rfl dX4_sideAt_5 (rfl) (by omega) (by decide) (e0) ?_
  refine g_iconst hZ dX4_sideAt_6 ?_
  refine g_callS hZ (As := [jV (x0 : Int), iV ((3 : Nat) : Int)]) (t_X0_mask E S x0 3 h0.1 (by omega) (by omega)) kX4_65 ⟨by decide, by decide⟩ rfl rfl (Nat.le_of_ble_eq_true rfl) dX4_sideAt_7 ?_
  rintro _ _ ⟨rfl, rfl⟩
  refine g_callS hZ (t_J6_bitCount E S (msk x0 3) m0) kX4_71 ⟨by decide, by decide⟩ rfl rfl (Nat.le_of_ble_eq_true rfl) dX4_sideAt_10 ?_
  rintro _ _ ⟨rfl, rfl⟩
  rw [c0]
  refine g_istore_n hZ dX4_sideAt_13 (by decide) ?_
  refine g_aload_n hZ dX4_sideAt_14 rfl ?_
  refine g_getr hZ fX4_9 rfl rfl dX4_sideAt_15 ?_
  refine g_iload_n hZ dX4_sideAt_18 rfl ?_
  refine g_lald hZ (i) rfl dX4_sideAt_19 (rfl) (by omega) (by decide) (ei) ?_
  refine g_iconst hZ dX4_sideAt_20 ?_
  refine g_callS hZ (As := [jV (x : Int), iV ((3 : Nat) : Int)]) (t_X0_mask E S x 3 hx.1 (by omega) (by omega)) kX4_65 ⟨by decide, by decide⟩ rfl rfl (Nat.le_of_ble_eq_true rfl) dX4_sideAt_21 ?_
  rintro _ _ ⟨rfl, rfl⟩
  refine g_callS hZ (t_J6_bitCount E S (msk x 3) m1) kX4_71 ⟨by decide, by decide⟩ rfl rfl (Nat.le_of_ble_eq_true rfl) dX4_sideAt_24 ?_
  rintro _ _ ⟨rfl, rfl⟩
  rw [c1]
  refine g_istore_n hZ dX4_sideAt_27 (by decide) ?_
  refine g_iload_n hZ dX4_sideAt_28 rfl ?_
  refine g_iload_n hZ dX4_sideAt_29 rfl ?_
  refine g_isub hZ dX4_sideAt_30 ?_
  show Z S [(0, .ref (gad E 5)), (1, iV (i : Int)), (2, iV ((cntZ B0 3 n : Nat) : Int)), (3, iV ((cntZ B 3 n : Nat) : Int))] 31 [iV (((cntZ B 3 n : Nat) : Int) - ((cntZ B0 3 n : Nat) : Int))]
  rw [show ((cntZ B 3 n : Nat) : Int) - ((cntZ B0 3 n : Nat) : Int) = ((cntZ B 3 n - cntZ B0 3 n : Nat) : Int) by omega]
  refine g_iconst hZ dX4_sideAt_31 ?_
  refine g_iand hZ dX4_sideAt_32 (gi_and1 _) ?_
  by_cases q : (cntZ B 3 n - cntZ B0 3 n) % 2 = 0
  · rw [if_pos q] at hZ
    refine g_if_ne hZ 43 dX4_sideAt_33 rfl (by omega) (fun cX => absurd (by omega) cX) (fun _ => ?_)
    refine g_aload_n hZ dX4_sideAt_36 rfl ?_
    refine g_geti hZ fX4_34 rfl rfl dX4_sideAt_37 q1 ?_
    refine g_goto hZ 47 dX4_sideAt_40 rfl ?_
    refine g_iret hZ dX4_sideAt_47 rfl ⟨rfl, rfl⟩
  · rw [if_neg q] at hZ
    refine g_if_ne hZ 43 dX4_sideAt_33 rfl (by omega) (fun _ => ?_) (fun cX => absurd cX (by omega))
    refine g_aload_n hZ dX4_sideAt_43 rfl ?_
    refine g_geti hZ fX4_37 rfl rfl dX4_sideAt_44 q2 ?_
    refine g_iret hZ dX4_sideAt_47 rfl ⟨rfl, rfl⟩
theorem t_X4_contentsOfR (E : gE) (S : gS) (L : List Nat) (hP : PS S 22 23 26 L) (i x : Nat) (hi : L[i]? = some x) : Ct E LAY mX4_contentsOf [.ref (gad E 10), iV (i : Int)] S (fun r S' => S = S' ∧ r = some (jV (x : Int))) := by
  have hil := (List.getElem?_eq_some_iff.mp hi).1
  have h5 := hP.2.2.2.2.1
  refine Ct.intro LAY_ok (by decide +kernel) (Nat.le_of_ble_eq_true rfl) rfl ?_
  intro Z hZ
  refine g_aload_n hZ dX4_contentsOf_0 rfl ?_
  refine g_getr hZ fX4_9 rfl rfl dX4_contentsOf_1 ?_
  refine g_iload_n hZ dX4_contentsOf_4 rfl ?_
  refine g_lald hZ (i) rfl dX4_contentsOf_5 (rfl) (by omega) (by decide) ((hP.2.1 i x hi)) ?_
  refine g_lret hZ dX4_contentsOf_6 rfl ⟨rfl, rfl⟩
theorem t_X4_isWonR (E : gE) (S : gS) (i : Nat) (hi : i < 1500) (z : Int) (hz : S 24 i = z) (h01 : z = 0 ∨ z = 1) : Ct E LAY mX4_isWon [.ref (gad E 10), iV (i : Int)] S (fun r S' => S = S' ∧ r = some (iV z)) := by
  refine Ct.intro LAY_ok (by decide +kernel) (Nat.le_of_ble_eq_true rfl) rfl ?_
  intro Z hZ
  refine g_aload_n hZ dX4_isWon_0 rfl ?_
  refine g_getr hZ fX4_15 rfl rfl dX4_isWon_1 ?_
  refine g_iload_n hZ dX4_isWon_4 rfl ?_
  refine g_zald hZ (i) rfl dX4_isWon_5 (rfl) (by omega) (by decide) (hz) ?_
  refine g_zret hZ dX4_isWon_6 rfl h01 ⟨rfl, rfl⟩
theorem t_X4_restOfR (E : gE) (S : gS) (i : Nat) (hi : i < 1500) (z : Int) (hz : S 25 i = z) : Ct E LAY mX4_restOf [.ref (gad E 10), iV (i : Int)] S (fun r S' => S = S' ∧ r = some (iV z)) := by
  refine Ct.intro LAY_ok (by decide +kernel) (Nat.le_of_ble_eq_true rfl) rfl ?_
  intro Z hZ
  refine g_aload_n hZ dX4_restOf_0 rfl ?_
  refine g_getr hZ fX4_19 rfl rfl dX4_restOf_1 ?_
  refine g_iload_n hZ dX4_restOf_4 rfl ?_
  refine g_iald hZ (i) rfl dX4_restOf_5 (rfl) (by omega) (by decide) (hz) ?_
  refine g_iret hZ dX4_restOf_6 rfl ⟨rfl, rfl⟩
theorem t_X4_sideAtR (E : gE) (S : gS) (n : Nat) (hn : n ≤ 15) (i x0 x : Nat) (B0 B : Nat → Int) (h0 : repX x0 n B0) (hx : repX x n B) (e0 : S 23 0 = (x0 : Int)) (ei : S 23 i = (x : Int)) (hi : i < 1500) (hle : cntZ B0 3 n ≤ cntZ B 3 n) (f1 f2 : Int) (q1 : S 20 0 = f1) (q2 : S 21 0 = f2) : Ct E LAY mX4_sideAt [.ref (gad E 10), iV (i : Int)] S (fun r S' => S = S' ∧ r = some (iV (if (cntZ B 3 n - cntZ B0 3 n) % 2 = 0 then f1 else f2))) := by
  have m0 := msk_lt x0 3
  have m1 := msk_lt x 3
  have c0 := bc_msk h0 hn (v := 3) (by omega) (by omega)
  have c1 := bc_msk hx hn (v := 3) (by omega) (by omega)
  have l1 := cntZ_le B 3 n
  refine Ct.intro LAY_ok (by decide +kernel) (Nat.le_of_ble_eq_true rfl) rfl ?_
  intro Z hZ
  refine g_aload_n hZ dX4_sideAt_0 rfl ?_
  refine g_getr hZ fX4_9 rfl rfl dX4_sideAt_1 ?_
  refine g_iconst hZ dX4_sideAt_4 ?_
  refine g_lald hZ (0) rfl dX4_sideAt_5 (rfl) (by omega) (by decide) (e0) ?_
  refine g_iconst hZ dX4_sideAt_6 ?_
  refine g_callS hZ (As := [jV (x0 : Int), iV ((3 : Nat) : Int)]) (t_X0_mask E S x0 3 h0.1 (by omega) (by omega)) kX4_65 ⟨by decide, by decide⟩ rfl rfl (Nat.le_of_ble_eq_true rfl) dX4_sideAt_7 ?_
  rintro _ _ ⟨rfl, rfl⟩
  refine g_callS hZ (t_J6_bitCount E S (msk x0 3) m0) kX4_71 ⟨by decide, by decide⟩ rfl rfl (Nat.le_of_ble_eq_true rfl) dX4_sideAt_10 ?_
  rintro _ _ ⟨rfl, rfl⟩
  rw [c0]
  refine g_istore_n hZ dX4_sideAt_13 (by decide) ?_
  refine g_aload_n hZ dX4_sideAt_14 rfl ?_
  refine g_getr hZ fX4_9 rfl rfl dX4_sideAt_15 ?_
  refine g_iload_n hZ dX4_sideAt_18 rfl ?_
  refine g_lald hZ (i) rfl dX4_sideAt_19 (rfl) (by omega) (by decide) (ei) ?_
  refine g_iconst hZ dX4_sideAt_20 ?_
  refine g_callS hZ (As := [jV (x : Int), iV ((3 : Nat) : Int)]) (t_X0_mask E S x 3 hx.1 (by omega) (by omega)) kX4_65 ⟨by decide, by decide⟩ rfl rfl (Nat.le_of_ble_eq_true rfl) dX4_sideAt_21 ?_
  rintro _ _ ⟨rfl, rfl⟩
  refine g_callS hZ (t_J6_bitCount E S (msk x 3) m1) kX4_71 ⟨by decide, by decide⟩ rfl rfl (Nat.le_of_ble_eq_true rfl) dX4_sideAt_24 ?_
  rintro _ _ ⟨rfl, rfl⟩
  rw [c1]
  refine g_istore_n hZ dX4_sideAt_27 (by decide) ?_
  refine g_iload_n hZ dX4_sideAt_28 rfl ?_
  refine g_iload_n hZ dX4_sideAt_29 rfl ?_
  refine g_isub hZ dX4_sideAt_30 ?_
  show Z S [(0, .ref (gad E 10)), (1, iV (i : Int)), (2, iV ((cntZ B0 3 n : Nat) : Int)), (3, iV ((cntZ B 3 n : Nat) : Int))] 31 [iV (((cntZ B 3 n : Nat) : Int) - ((cntZ B0 3 n : Nat) : Int))]
  rw [show ((cntZ B 3 n : Nat) : Int) - ((cntZ B0 3 n : Nat) : Int) = ((cntZ B 3 n - cntZ B0 3 n : Nat) : Int) by omega]
  refine g_iconst hZ dX4_sideAt_31 ?_
  refine g_iand hZ dX4_sideAt_32 (gi_and1 _) ?_
  by_cases q : (cntZ B 3 n - cntZ B0 3 n) % 2 = 0
  · rw [if_pos q] at hZ
    refine g_if_ne hZ 43 dX4_sideAt_33 rfl (by omega) (fun cX => absurd (by omega) cX) (fun _ => ?_)
    refine g_aload_n hZ dX4_sideAt_36 rfl ?_
    refine g_geti hZ fX4_34 rfl rfl dX4_sideAt_37 q1 ?_
    refine g_goto hZ 47 dX4_sideAt_40 rfl ?_
    refine g_iret hZ dX4_sideAt_47 rfl ⟨rfl, rfl⟩
  · rw [if_neg q] at hZ
    refine g_if_ne hZ 43 dX4_sideAt_33 rfl (by omega) (fun _ => ?_) (fun cX => absurd cX (by omega))
    refine g_aload_n hZ dX4_sideAt_43 rfl ?_
    refine g_geti hZ fX4_37 rfl rfl dX4_sideAt_44 q2 ?_
    refine g_iret hZ dX4_sideAt_47 rfl ⟨rfl, rfl⟩
