/-! the reference: boards as numbers, what is reached -/
theorem gi_shl4 {a k : Nat} (hk : k ≤ 14) (h : a ≤ 3) : Int32.ofInt (a : Int) <<< (Int32.ofInt (2 * (k : Int)) &&& 31) = Int32.ofInt ((a * 4 ^ k : Nat) : Int) := by
  have e : (2 * (k : Int)) = ((2 * k : Nat) : Int) := by omega
  have p := p4_lt hk
  have e2 : 2 ^ (2 * k) = 4 ^ k := by rw [Nat.pow_mul]
  rw [e, gi_shl (by omega) (by rw [e2]; have : a * 4 ^ k ≤ 3 * 4 ^ k := Nat.mul_le_mul_right _ h; omega), e2]
theorem gi_or4 {a b k : Nat} (h : a < 4 ^ k) : Int32.ofInt (a : Int) ||| Int32.ofInt ((b * 4 ^ k : Nat) : Int) = Int32.ofInt ((a + b * 4 ^ k : Nat) : Int) := by
  have e2 : 2 ^ (2 * k) = 4 ^ k := by rw [Nat.pow_mul]
  rw [← e2] at h ⊢
  exact gi_ors h
theorem gi_shr4 {a k : Nat} (hk : k ≤ 14) (h : a < 2147483648) : Int32.ofInt (a : Int) >>> (Int32.ofInt (2 * (k : Int)) &&& 31) = Int32.ofInt ((a / 4 ^ k : Nat) : Int) := by
  have e : (2 * (k : Int)) = ((2 * k : Nat) : Int) := by omega
  have e2 : 2 ^ (2 * k) = 4 ^ k := by rw [Nat.pow_mul]
  rw [e, gi_shr (by omega) h, e2]
theorem gi_and3 (a : Nat) : Int32.ofInt (a : Int) &&& Int32.ofInt 3 = Int32.ofInt ((a % 4 : Nat) : Int) := gi_mask a 2
theorem gi_and1 (a : Nat) : Int32.ofInt (a : Int) &&& Int32.ofInt 1 = Int32.ofInt ((a % 2 : Nat) : Int) := gi_mask a 1
/-- the board of a region alone; root -1: the whole board -/
def alnB (r B : Nat → Int) (root : Int) : Nat → Int := fun k => if 0 ≤ root ∧ r k ≠ root then 3 else B k
theorem alnB_bd {r B : Nat → Int} {root : Int} {n : Nat} (h : mBd B n) : mBd (alnB r B root) n := fun k hk => by
  have := h k hk
  unfold alnB; split <;> omega
theorem t_X9_coded (E : gE) (S : gS) (w h n : Nat) (hg : mG S w h n) (hB : mBd (S 61) n) (root : Int) (rr : R32 root) (hr : 0 ≤ root → mRg S w n) : Ct E LAY mX9_coded [.ref (gad E 27), iV root] S (fun r S' => S = S' ∧ r = some (iV (cod (alnB (rg w n (S 61)) (S 61) root) n : Int))) := by
  have hn := hg.n15
  refine Ct.intro LAY_ok (by decide +kernel) (Nat.le_of_ble_eq_true rfl) rfl ?_
  intro Z hZ
  have loop : ∀ (m k : Nat), k + m = n → Z S [(0, .ref (gad E 27)), (1, iV root), (2, iV (cod (alnB (rg w n (S 61)) (S 61) root) k : Int)), (3, iV (k : Int))] 4 [] := by
    intro m
    induction m with
    | zero =>
      intro k hk
      refine g_iload_n hZ dX9_coded_4 rfl ?_
      refine g_aload_n hZ dX9_coded_5 rfl ?_
      refine g_callV hZ (t_X9_size E S w h n hg) kX9_60 ⟨by decide, by decide⟩ rfl rfl rfl rfl (Nat.le_of_ble_eq_true rfl) dX9_coded_6 ?_
      rintro _ _ ⟨rfl, rfl⟩
      refine g_icmp_ge hZ 49 dX9_coded_9 rfl (by omega) (fun _ => ?_) (fun cX => absurd (by omega) cX)
      refine g_iload_n hZ dX9_coded_49 rfl ?_
      refine g_iret hZ dX9_coded_50 rfl ⟨rfl, by rw [show n = k by omega]⟩
    | succ m ih =>
      intro k hk
      have hBk := hB k (by omega)
      have hAk := alnB_bd (r := rg w n (S 61)) (root := root) hB k (by omega)
      have hlt := cod_lt (x := alnB (rg w n (S 61)) (S 61) root) (n := k) (fun j hj => alnB_bd hB j (by omega))
      have join : ∀ (x : Int), x = alnB (rg w n (S 61)) (S 61) root k → Z S [(0, .ref (gad E 27)), (1, iV root), (2, iV (cod (alnB (rg w n (S 61)) (S 61) root) k : Int)), (3, iV (k : Int))] 37 [iV x, iV (cod (alnB (rg w n (S 61)) (S 61) root) k : Int)] := by
        intro x hx
        have ex : x = ((x.toNat : Nat) : Int) := by omega
        rw [ex]
        refine g_iconst hZ dX9_coded_37 ?_
        refine g_iload_n hZ dX9_coded_38 rfl ?_
        refine g_imul hZ dX9_coded_39 ?_
        refine g_ishl hZ dX9_coded_40 (gi_shl4 (by omega) (by omega)) ?_
        refine g_ior hZ dX9_coded_41 (gi_or4 hlt) ?_
        refine g_istore_n hZ dX9_coded_42 (by decide) ?_
        refine g_iinc hZ dX9_coded_43 rfl (by decide) ?_
        refine g_goto hZ 4 dX9_coded_46 rfl ?_
        have := ih (k + 1) (by omega)
        rw [cod, ← hx] at this
        exact this
      refine g_iload_n hZ dX9_coded_4 rfl ?_
      refine g_aload_n hZ dX9_coded_5 rfl ?_
      refine g_callV hZ (t_X9_size E S w h n hg) kX9_60 ⟨by decide, by decide⟩ rfl rfl rfl rfl (Nat.le_of_ble_eq_true rfl) dX9_coded_6 ?_
      rintro _ _ ⟨rfl, rfl⟩
      refine g_icmp_ge hZ 49 dX9_coded_9 rfl (by omega) (fun cX => absurd cX (by omega)) (fun _ => ?_)
      refine g_iload_n hZ dX9_coded_12 rfl ?_
      refine g_iload_n hZ dX9_coded_13 rfl ?_
      refine g_if_lt hZ 31 dX9_coded_14 rfl (by omega) (fun c => ?_) (fun c => ?_)
      · refine g_aload_n hZ dX9_coded_31 rfl ?_
        refine g_getr hZ fX9_16 rfl rfl dX9_coded_32 ?_
        refine g_iload_n hZ dX9_coded_35 rfl ?_
        refine g_iald hZ (k) rfl dX9_coded_36 (rfl) (by omega) (by decide) (rfl) ?_
        exact join _ (by unfold alnB; rw [if_neg (by omega)])
      · have hrk := hr (by omega) k (by omega)
        have rb := rg_bd (w := w) (B := S 61) (show k < n by omega)
        refine g_aload_n hZ dX9_coded_17 rfl ?_
        refine g_getr hZ fX9_51 rfl rfl dX9_coded_18 ?_
        refine g_iload_n hZ dX9_coded_21 rfl ?_
        refine g_iald hZ (k) rfl dX9_coded_22 (rfl) (by omega) (by decide) (hrk) ?_
        refine g_iload_n hZ dX9_coded_23 rfl ?_
        refine g_icmp_eq hZ 31 dX9_coded_24 rfl (by omega) (fun c2 => ?_) (fun c2 => ?_)
        · refine g_aload_n hZ dX9_coded_31 rfl ?_
          refine g_getr hZ fX9_16 rfl rfl dX9_coded_32 ?_
          refine g_iload_n hZ dX9_coded_35 rfl ?_
          refine g_iald hZ (k) rfl dX9_coded_36 (rfl) (by omega) (by decide) (rfl) ?_
          exact join _ (by unfold alnB; rw [if_neg (fun q => q.2 c2)])
        · refine g_iconst hZ dX9_coded_27 ?_
          refine g_goto hZ 37 dX9_coded_28 rfl ?_
          exact join _ (by unfold alnB; rw [if_pos ⟨by omega, c2⟩])
  refine g_iconst hZ dX9_coded_0 ?_
  refine g_istore_n hZ dX9_coded_1 (by decide) ?_
  refine g_iconst hZ dX9_coded_2 ?_
  refine g_istore_n hZ dX9_coded_3 (by decide) ?_
  exact loop n 0 (by omega)
theorem t_X9_decodes (E : gE) (S : gS) (p : Nat) (hp : p < 2147483648) : Ct E LAY mX9_decodes [.ref (gad E 27), iV (p : Int)] S (fun r S' => r = none ∧ S' = setRow S 62 15 (bdP p)) := by
  refine Ct.intro LAY_ok (by decide +kernel) (Nat.le_of_ble_eq_true rfl) rfl ?_
  intro Z hZ
  have loop : ∀ (m k : Nat), k + m = 15 → Z (setRow S 62 k (bdP p)) [(0, .ref (gad E 27)), (1, iV (p : Int)), (2, iV (k : Int))] 2 [] := by
    intro m
    induction m with
    | zero =>
      intro k hk
      refine g_iload_n hZ dX9_decodes_2 rfl ?_
      refine g_bipush hZ (z := 15) dX9_decodes_3 rfl ?_
      refine g_icmp_ge hZ 27 dX9_decodes_5 rfl (by omega) (fun _ => ?_) (fun cX => absurd (by omega) cX)
      refine g_vret hZ dX9_decodes_27 rfl ⟨rfl, by rw [show k = 15 by omega]⟩
    | succ m ih =>
      intro k hk
      refine g_iload_n hZ dX9_decodes_2 rfl ?_
      refine g_bipush hZ (z := 15) dX9_decodes_3 rfl ?_
      refine g_icmp_ge hZ 27 dX9_decodes_5 rfl (by omega) (fun cX => absurd cX (by omega)) (fun _ => ?_)
      refine g_aload_n hZ dX9_decodes_8 rfl ?_
      refine g_getr hZ fX9_20 rfl rfl dX9_decodes_9 ?_
      refine g_iload_n hZ dX9_decodes_12 rfl ?_
      refine g_iload_n hZ dX9_decodes_13 rfl ?_
      refine g_iconst hZ dX9_decodes_14 ?_
      refine g_iload_n hZ dX9_decodes_15 rfl ?_
      refine g_imul hZ dX9_decodes_16 ?_
      refine g_ishr hZ dX9_decodes_17 (gi_shr4 (by omega) hp) ?_
      refine g_iconst hZ dX9_decodes_18 ?_
      refine g_iand hZ dX9_decodes_19 (gi_and3 _) ?_
      refine g_iast hZ (k) rfl dX9_decodes_20 (rfl) (by omega) (by decide) ?_
      refine g_iinc hZ dX9_decodes_21 rfl (by decide) ?_
      refine g_goto hZ 2 dX9_decodes_24 rfl ?_
      have e1 := setRow_succ S 62 k (bdP p)
      refine g_state hZ e1 ?_
      exact ih (k + 1) (by omega)
  refine g_iconst hZ dX9_decodes_0 ?_
  refine g_istore_n hZ dX9_decodes_1 (by decide) ?_
  have := loop 15 0 (by omega)
  rw [setRow_0] at this
  exact this
theorem t_X9_sideOf (E : gE) (S : gS) (p : Nat) (hp : p < 2147483648) : Ct E LAY mX9_sideOf [iV (p : Int)] S (fun r S' => S = S' ∧ r = some (iV (sdP p : Int))) := by
  refine Ct.intro LAY_ok (by decide +kernel) (Nat.le_of_ble_eq_true rfl) rfl ?_
  intro Z hZ
  refine g_iload_n hZ dX9_sideOf_0 rfl ?_
  refine g_bipush hZ (z := 30) dX9_sideOf_1 rfl ?_
  refine g_ishr hZ dX9_sideOf_3 (gi_shr (k := 30) (by omega) hp) ?_
  refine g_iconst hZ dX9_sideOf_4 ?_
  refine g_iand hZ dX9_sideOf_5 (gi_and1 _) ?_
  refine g_iconst hZ dX9_sideOf_6 ?_
  refine g_iadd hZ dX9_sideOf_7 ?_
  refine g_iret hZ dX9_sideOf_8 rfl ⟨rfl, rfl⟩
theorem t_X9_behind (E : gE) (S : gS) (w h n : Nat) (hg : mG S w h n) (hB : mBd (S 62) n) (q : Nat × Nat × Nat) (hq1 : q.1 < n) (hq2 : q.2.1 < n) (hq3 : q.2.2 < n) (s : Int) (hs : s = 1 ∨ s = 2) (hsb : S 62 q.1 = s) (nx : Int) (hnx : nx = 1 ∨ nx = 2) : Ct E LAY mX9_behind [.ref (gad E 27), iV (menc q), iV nx] S (fun r S' => S = S' ∧ r = some (iV ((cod (aftB (S 62) q s) n + 1073741824 * (nx.toNat - 1) : Nat) : Int))) := by
  have hn := hg.n15
  have hA := aftB_bd (q := q) hB hs
  refine Ct.intro LAY_ok (by decide +kernel) (Nat.le_of_ble_eq_true rfl) rfl ?_
  intro Z hZ
  have em : menc q = ((225 * q.1 + 15 * q.2.1 + q.2.2 : Nat) : Int) := by unfold menc; omega
  have d1 : (225 * q.1 + 15 * q.2.1 + q.2.2) / 225 = q.1 := by omega
  have d2 : (225 * q.1 + 15 * q.2.1 + q.2.2) / 15 % 15 = q.2.1 := by omega
  have d3 : (225 * q.1 + 15 * q.2.1 + q.2.2) % 15 = q.2.2 := by omega
  have loop : ∀ (m k : Nat) (L9 : List (Nat × Value)), k + m = n → lkeep L9 [0, 1, 2, 3, 4, 5, 6, 7] = [(0, .ref (gad E 27)), (1, iV (menc q)), (2, iV nx), (3, iV (cod (aftB (S 62) q s) k : Int)), (4, iV (q.1 : Int)), (5, iV (q.2.1 : Int)), (6, iV (q.2.2 : Int)), (7, iV (k : Int))] → Z S L9 27 [] := by
    intro m
    induction m with
    | zero =>
      intro k L9 hk hL
      refine g_keep hZ [0, 1, 2, 3, 4, 5, 6, 7] hL ?_
      refine g_iload hZ dX9_behind_27 rfl ?_
      refine g_aload_n hZ dX9_behind_29 rfl ?_
      refine g_callV hZ (t_X9_size E S w h n hg) kX9_60 ⟨by decide, by decide⟩ rfl rfl rfl rfl (Nat.le_of_ble_eq_true rfl) dX9_behind_30 ?_
      rintro _ _ ⟨rfl, rfl⟩
      refine g_icmp_ge hZ 100 dX9_behind_33 rfl (by omega) (fun _ => ?_) (fun cX => absurd (by omega) cX)
      have hl := cod_lt30 (n := k) (by omega) (fun j hj => hA j (by omega))
      have e1 : nx - 1 = (((nx.toNat - 1 : Nat)) : Int) := by omega
      refine g_iload_n hZ dX9_behind_100 rfl ?_
      refine g_iload_n hZ dX9_behind_101 rfl ?_
      refine g_iconst hZ dX9_behind_102 ?_
      refine g_isub hZ dX9_behind_103 ?_
      rw [e1]
      refine g_bipush hZ (z := 30) dX9_behind_104 rfl ?_
      refine g_ishl hZ dX9_behind_106 (gi_shl (k := 30) (by omega) (by omega)) ?_
      refine g_ior hZ dX9_behind_107 (gi_ors (k := 30) (by omega)) ?_
      refine g_iret hZ dX9_behind_108 rfl ⟨rfl, by rw [show n = k by omega, Nat.mul_comm 1073741824]⟩
    | succ m ih =>
      intro k L9 hk hL
      refine g_keep hZ [0, 1, 2, 3, 4, 5, 6, 7] hL ?_
      have hBk := hB k (by omega)
      have hAk := hA k (by omega)
      have hlt := cod_lt (x := aftB (S 62) q s) (n := k) (fun j hj => hA j (by omega))
      have join : ∀ (x : Int), x = aftB (S 62) q s k → Z S [(0, .ref (gad E 27)), (1, iV (menc q)), (2, iV nx), (3, iV (cod (aftB (S 62) q s) k : Int)), (4, iV (q.1 : Int)), (5, iV (q.2.1 : Int)), (6, iV (q.2.2 : Int)), (7, iV (k : Int))] 82 [iV x] := by
        intro x hx
        have ex : x = ((x.toNat : Nat) : Int) := by omega
        rw [ex]
        refine g_istore hZ dX9_behind_82 (by decide) ?_
        refine g_iload_n hZ dX9_behind_84 rfl ?_
        refine g_iload hZ dX9_behind_85 rfl ?_
        refine g_iconst hZ dX9_behind_87 ?_
        refine g_iload hZ dX9_behind_88 rfl ?_
        refine g_imul hZ dX9_behind_90 ?_
        refine g_ishl hZ dX9_behind_91 (gi_shl4 (by omega) (by omega)) ?_
        refine g_ior hZ dX9_behind_92 (gi_or4 hlt) ?_
        refine g_istore_n hZ dX9_behind_93 (by decide) ?_
        refine g_iinc hZ dX9_behind_94 rfl (by decide) ?_
        refine g_goto hZ 27 dX9_behind_97 rfl ?_
        refine ih (k + 1) _ (by omega) ?_
        rw [cod, ← hx]
        rfl
      refine g_iload hZ dX9_behind_27 rfl ?_
      refine g_aload_n hZ dX9_behind_29 rfl ?_
      refine g_callV hZ (t_X9_size E S w h n hg) kX9_60 ⟨by decide, by decide⟩ rfl rfl rfl rfl (Nat.le_of_ble_eq_true rfl) dX9_behind_30 ?_
      rintro _ _ ⟨rfl, rfl⟩
      refine g_icmp_ge hZ 100 dX9_behind_33 rfl (by omega) (fun cX => absurd cX (by omega)) (fun _ => ?_)
      refine g_iload hZ dX9_behind_36 rfl ?_
      refine g_iload hZ dX9_behind_38 rfl ?_
      refine g_icmp_ne hZ 47 dX9_behind_40 rfl (by omega) (fun c1 => ?_) (fun c1 => ?_)
      · refine g_iload hZ dX9_behind_47 rfl ?_
        refine g_iload hZ dX9_behind_49 rfl ?_
        refine g_icmp_ne hZ 64 dX9_behind_51 rfl (by omega) (fun c2 => ?_) (fun c2 => ?_)
        · refine g_iload hZ dX9_behind_64 rfl ?_
          refine g_iload hZ dX9_behind_66 rfl ?_
          refine g_icmp_ne hZ 75 dX9_behind_68 rfl (by omega) (fun c3 => ?_) (fun c3 => ?_)
          · refine g_aload_n hZ dX9_behind_75 rfl ?_
            refine g_getr hZ fX9_20 rfl rfl dX9_behind_76 ?_
            refine g_iload hZ dX9_behind_79 rfl ?_
            refine g_iald hZ (k) rfl dX9_behind_81 (rfl) (by omega) (by decide) (rfl) ?_
            exact join _ (by unfold aftB; rw [if_neg (by omega), if_neg (by omega), if_neg (by omega)])
          · refine g_iconst hZ dX9_behind_71 ?_
            refine g_goto hZ 82 dX9_behind_72 rfl ?_
            exact join _ (by unfold aftB; rw [if_neg (by omega), if_neg (by omega), if_pos (by omega)])
        · refine g_aload_n hZ dX9_behind_54 rfl ?_
          refine g_getr hZ fX9_20 rfl rfl dX9_behind_55 ?_
          refine g_iload hZ dX9_behind_58 rfl ?_
          refine g_iald hZ (q.1) rfl dX9_behind_60 (rfl) (by omega) (by decide) (rfl) ?_
          refine g_goto hZ 82 dX9_behind_61 rfl ?_
          exact join _ (by unfold aftB; rw [if_neg (by omega), if_pos (by omega), hsb])
      · refine g_iconst hZ dX9_behind_43 ?_
        refine g_goto hZ 82 dX9_behind_44 rfl ?_
        exact join _ (by unfold aftB; rw [if_pos (by omega)])
  rw [em] at loop ⊢
  refine g_iconst hZ dX9_behind_0 ?_
  refine g_istore_n hZ dX9_behind_1 (by decide) ?_
  refine g_iload_n hZ dX9_behind_2 rfl ?_
  refine g_sipush hZ (z := 225) dX9_behind_3 rfl ?_
  refine g_idiv hZ (b := 225) dX9_behind_6 (by omega) (by omega) (by omega) ?_
  rw [d1]
  refine g_istore hZ dX9_behind_7 (by decide) ?_
  refine g_iload_n hZ dX9_behind_9 rfl ?_
  refine g_bipush hZ (z := 15) dX9_behind_10 rfl ?_
  refine g_idiv hZ (b := 15) dX9_behind_12 (by omega) (by omega) (by omega) ?_
  refine g_bipush hZ (z := 15) dX9_behind_13 rfl ?_
  refine g_irem hZ (b := 15) dX9_behind_15 (by omega) (by omega) (by omega) ?_
  rw [d2]
  refine g_istore hZ dX9_behind_16 (by decide) ?_
  refine g_iload_n hZ dX9_behind_18 rfl ?_
  refine g_bipush hZ (z := 15) dX9_behind_19 rfl ?_
  refine g_irem hZ (b := 15) dX9_behind_21 (by omega) (by omega) (by omega) ?_
  rw [d3]
  refine g_istore hZ dX9_behind_22 (by decide) ?_
  refine g_iconst hZ dX9_behind_24 ?_
  refine g_istore hZ dX9_behind_25 (by decide) ?_
  exact loop n 0 _ (by omega) rfl
def hR (c : Nat) : Nat := (Int32.ofInt ((c : Int) * 40503)).toBitVec.toNat / 128 % 8192
theorem hR_lt (c : Nat) : hR c < 8192 := Nat.mod_lt _ (by omega)
theorem modsep_R : modsep 8192 := ⟨by omega, fun a i j h1 h2 e => by omega⟩
theorem gi_ush7 (x : Int32) : (x.toUInt32 >>> ((Int32.ofInt 7).toUInt32 &&& Int32.toUInt32 31)).toInt32 = Int32.ofInt ((x.toBitVec.toNat / 128 : Nat) : Int) := by
  have h := pk_ushr x (Int32.ofInt 7) 7 (by decide)
  have hx : x.toBitVec.toNat < 2 ^ 32 := x.toBitVec.isLt
  rw [gi_nat]
  apply Int32.toBitVec_inj.1
  apply BitVec.eq_of_toNat_eq
  rw [h, pk_tn (by omega)]
/-- the reference's list of what is reached -/
def RS (S : gS) (L : List Nat) : Prop := S 56 0 = (L.length : Int) ∧ HL (fun p : Nat => (p : Int)) (S 67) L ∧ htI (S 68) 8192 hR L ∧ L.Nodup ∧ L.length ≤ 1500
theorem RS.x {vs : List Nat} {S S1 : gS} {L : List Nat} (hh : RS S L) (he : Eqx vs S S1) (h1 : vs.contains 56 = false) (h2 : vs.contains 67 = false) (h3 : vs.contains 68 = false) : RS S1 L := by
  have e1 : S1 67 = S 67 := funext fun j => he 67 j h2
  have e2 : S1 68 = S 68 := funext fun j => he 68 j h3
  exact ⟨(he 56 0 h1).trans hh.1, by rw [e1]; exact hh.2.1, by rw [e2]; exact hh.2.2.1, hh.2.2.2⟩
/-- where a number lies, or where it is to lie -/
def plP (f : Nat → Int) (L : List Nat) (c : Nat) (z : Int) : Prop := (∃ i : Nat, L[i]? = some c ∧ z = (i : Int)) ∨ (c ∉ L ∧ ∃ d, d < 8192 ∧ z = -1 - (((hR c + d) % 8192 : Nat) : Int) ∧ f ((hR c + d) % 8192) = 0 ∧ ∀ e, e < d → 0 < f ((hR c + e) % 8192))
theorem t_X9_placeOf (E : gE) (S : gS) (L : List Nat) (hL : HL (fun p : Nat => (p : Int)) (S 67) L) (hT : htI (S 68) 8192 hR L) (hl : L.length ≤ 1500) (hv : ∀ p ∈ L, p < 2147483648) (c : Nat) (hc : c < 2147483648) : Ct E LAY mX9_placeOf [.ref (gad E 27), iV (c : Int)] S (fun r S' => S = S' ∧ ∃ z, r = some (iV z) ∧ plP (S 68) L c z) := by
  obtain ⟨dS, hdS, hzS⟩ := ht_stop modsep_R hT (by omega) (hR c)
  refine Ct.intro LAY_ok (by decide +kernel) (Nat.le_of_ble_eq_true rfl) rfl ?_
  intro Z hZ
  have loop : ∀ (m d : Nat), d + m = dS → (∀ e, e < d → 0 < S 68 ((hR c + e) % 8192) ∧ L[(S 68 ((hR c + e) % 8192)).toNat - 1]? ≠ some c) → Z S [(0, .ref (gad E 27)), (1, iV (c : Int)), (2, iV (((hR c + d) % 8192 : Nat) : Int))] 12 [] := by
    intro m
    induction m with
    | zero =>
      intro d hd hp
      have : d = dS := by omega
      subst this
      refine g_aload_n hZ dX9_placeOf_12 rfl ?_
      refine g_getr hZ fX9_38 rfl rfl dX9_placeOf_13 ?_
      refine g_iload_n hZ dX9_placeOf_16 rfl ?_
      refine g_iald hZ (((hR c + d) % 8192)) rfl dX9_placeOf_17 (rfl) (by omega) (by decide) (hzS) ?_
      refine g_if_le hZ 49 dX9_placeOf_18 rfl (by omega) (fun _ => ?_) (fun cX => absurd (by omega) cX)
      refine g_aload_n hZ dX9_placeOf_49 rfl ?_
      refine g_getr hZ fX9_38 rfl rfl dX9_placeOf_50 ?_
      refine g_iload_n hZ dX9_placeOf_53 rfl ?_
      refine g_iald hZ (((hR c + d) % 8192)) rfl dX9_placeOf_54 (rfl) (by omega) (by decide) (hzS) ?_
      refine g_if_le hZ 69 dX9_placeOf_55 rfl (by omega) (fun _ => ?_) (fun cX => absurd (by omega) cX)
      refine g_iconst hZ dX9_placeOf_69 ?_
      refine g_iload_n hZ dX9_placeOf_70 rfl ?_
      refine g_isub hZ dX9_placeOf_71 ?_
      refine g_iret hZ dX9_placeOf_72 rfl ⟨rfl, _, rfl, Or.inr ⟨ht_no hT hzS hp, d, hdS, rfl, hzS, fun e he => (hp e he).1⟩⟩
    | succ m ih =>
      intro d hd hp
      have hf := hT.1 ((hR c + d) % 8192) (Nat.mod_lt _ (by omega))
      generalize hz : S 68 ((hR c + d) % 8192) = z at *
      refine g_aload_n hZ dX9_placeOf_12 rfl ?_
      refine g_getr hZ fX9_38 rfl rfl dX9_placeOf_13 ?_
      refine g_iload_n hZ dX9_placeOf_16 rfl ?_
      refine g_iald hZ (((hR c + d) % 8192)) rfl dX9_placeOf_17 (rfl) (by omega) (by decide) (hz) ?_
      refine g_if_le hZ 49 dX9_placeOf_18 rfl (by omega) (fun c1 => ?_) (fun c1 => ?_)
      · have z0 : z = 0 := by omega
        rw [z0] at hz
        refine g_aload_n hZ dX9_placeOf_49 rfl ?_
        refine g_getr hZ fX9_38 rfl rfl dX9_placeOf_50 ?_
        refine g_iload_n hZ dX9_placeOf_53 rfl ?_
        refine g_iald hZ (((hR c + d) % 8192)) rfl dX9_placeOf_54 (rfl) (by omega) (by decide) (hz) ?_
        refine g_if_le hZ 69 dX9_placeOf_55 rfl (by omega) (fun _ => ?_) (fun cX => absurd (by omega) cX)
        refine g_iconst hZ dX9_placeOf_69 ?_
        refine g_iload_n hZ dX9_placeOf_70 rfl ?_
        refine g_isub hZ dX9_placeOf_71 ?_
        refine g_iret hZ dX9_placeOf_72 rfl ⟨rfl, _, rfl, Or.inr ⟨ht_no hT hz hp, d, by omega, rfl, hz, fun e he => (hp e he).1⟩⟩
      · obtain ⟨x, hx⟩ : ∃ x, L[z.toNat - 1]? = some x := ⟨_, List.getElem?_eq_getElem (by omega)⟩
        have hx2 : S 67 (z.toNat - 1) = (x : Int) := hL _ x hx
        have hx3 := hv x (List.mem_of_getElem? hx)
        refine g_aload_n hZ dX9_placeOf_21 rfl ?_
        refine g_getr hZ fX9_35 rfl rfl dX9_placeOf_22 ?_
        refine g_aload_n hZ dX9_placeOf_25 rfl ?_
        refine g_getr hZ fX9_38 rfl rfl dX9_placeOf_26 ?_
        refine g_iload_n hZ dX9_placeOf_29 rfl ?_
        refine g_iald hZ (((hR c + d) % 8192)) rfl dX9_placeOf_30 (rfl) (by omega) (by decide) (hz) ?_
        refine g_iconst hZ dX9_placeOf_31 ?_
        refine g_isub hZ dX9_placeOf_32 ?_
        refine g_iald hZ ((z.toNat - 1)) rfl dX9_placeOf_33 (by omega) (by omega) (by decide) (hx2) ?_
        refine g_iload_n hZ dX9_placeOf_34 rfl ?_
        refine g_icmp_eq hZ 49 dX9_placeOf_35 rfl (by omega) (fun c2 => ?_) (fun c2 => ?_)
        · refine g_aload_n hZ dX9_placeOf_49 rfl ?_
          refine g_getr hZ fX9_38 rfl rfl dX9_placeOf_50 ?_
          refine g_iload_n hZ dX9_placeOf_53 rfl ?_
          refine g_iald hZ (((hR c + d) % 8192)) rfl dX9_placeOf_54 (rfl) (by omega) (by decide) (hz) ?_
          refine g_if_le hZ 69 dX9_placeOf_55 rfl (by omega) (fun cX => absurd cX (by omega)) (fun _ => ?_)
          refine g_aload_n hZ dX9_placeOf_58 rfl ?_
          refine g_getr hZ fX9_38 rfl rfl dX9_placeOf_59 ?_
          refine g_iload_n hZ dX9_placeOf_62 rfl ?_
          refine g_iald hZ (((hR c + d) % 8192)) rfl dX9_placeOf_63 (rfl) (by omega) (by decide) (hz) ?_
          refine g_iconst hZ dX9_placeOf_64 ?_
          refine g_isub hZ dX9_placeOf_65 ?_
          refine g_goto hZ 72 dX9_placeOf_66 rfl ?_
          have ex : x = c := by omega
          rw [ex] at hx
          refine g_iret hZ dX9_placeOf_72 rfl ⟨rfl, _, rfl, Or.inl ⟨z.toNat - 1, hx, by omega⟩⟩
        · refine g_iload_n hZ dX9_placeOf_38 rfl ?_
          refine g_iconst hZ dX9_placeOf_39 ?_
          refine g_iadd hZ dX9_placeOf_40 ?_
          refine g_sipush hZ (z := 8192) dX9_placeOf_41 rfl ?_
          refine g_irem hZ (a := (hR c + d) % 8192 + 1) (b := 8192) dX9_placeOf_44 (by omega) (by omega) (by omega) ?_
          refine g_istore_n hZ dX9_placeOf_45 (by decide) ?_
          refine g_goto hZ 12 dX9_placeOf_46 rfl ?_
          have e9 : ((hR c + d) % 8192 + 1) % 8192 = (hR c + (d + 1)) % 8192 := by omega
          rw [e9]
          refine ih (d + 1) (by omega) (fun e he => ?_)
          by_cases q : e = d
          · subst q
            rw [hz]
            exact ⟨by omega, fun e8 => by rw [hx] at e8; cases e8; exact c2 rfl⟩
          · exact hp e (by omega)
  refine g_iload_n hZ dX9_placeOf_0 rfl ?_
  refine g_ldc hZ (z := 40503) dX9_placeOf_1 (TS_m (by decide +kernel) rfl) ?_
  refine g_imul hZ dX9_placeOf_3 ?_
  refine g_bipush hZ (z := 7) dX9_placeOf_4 rfl ?_
  refine g_iushr hZ dX9_placeOf_6 (gi_ush7 _) ?_
  refine g_sipush hZ (z := 8192) dX9_placeOf_7 rfl ?_
  have hb : (Int32.ofInt ((c : Int) * 40503)).toBitVec.toNat < 2 ^ 32 := (Int32.ofInt ((c : Int) * 40503)).toBitVec.isLt
  refine g_irem hZ (b := 8192) dX9_placeOf_10 (by omega) (by omega) (by omega) ?_
  refine g_istore_n hZ dX9_placeOf_11 (by decide) ?_
  have := loop dS 0 (by omega) (fun e he => absurd he (Nat.not_lt_zero e))
  rw [Nat.add_zero, Nat.mod_eq_of_lt (hR_lt c)] at this
  exact this
