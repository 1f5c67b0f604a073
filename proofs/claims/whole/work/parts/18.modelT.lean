/-! the reference: texts -/
def chA (tx : List Nat) (k : Nat) : Nat := (tx[k]?).getD 0
def mTx (S : gS) (tx : List Nat) : Prop := S 58 0 = (tx.length : Int) ∧ tx.length ≤ 60 ∧ HL (fun c : Nat => (c : Int)) (S 73) tx ∧ ∀ c ∈ tx, c < 127
theorem mTx.x {vs : List Nat} {S S1 : gS} {tx : List Nat} (hh : mTx S tx) (he : Eqx vs S S1) (h1 : vs.contains 58 = false) (h2 : vs.contains 73 = false) : mTx S1 tx :=
  ⟨(he 58 0 h1).trans hh.1, hh.2.1, by rw [show S1 73 = S 73 from funext fun j => he 73 j h2]; exact hh.2.2.1, hh.2.2.2⟩
theorem chA_lt {tx : List Nat} (h : ∀ c ∈ tx, c < 127) (k : Nat) : chA tx k < 127 := by
  unfold chA
  cases e : tx[k]? with
  | none => simp
  | some c => exact h c (List.mem_of_getElem? e)
theorem chA_out {tx : List Nat} {k : Nat} (h : tx.length ≤ k) : chA tx k = 0 := by
  unfold chA
  rw [List.getElem?_eq_none h]; rfl
theorem chA_in {tx : List Nat} {k : Nat} (h : chA tx k ≠ 0) : k < tx.length := by
  rcases Nat.lt_or_ge k tx.length with q | q
  · exact q
  · exact absurd (chA_out q) h
def aType (tx : List Nat) (c : Int) : Int := if 32 ≤ c ∧ c ≤ 126 then (if tx.length = 60 then -1003 else ((tx.length + 1 : Nat) : Int)) else -1001
theorem t_X9_type (E : gE) (S : gS) (tx : List Nat) (hT : mTx S tx) (c : Int) (rc : R32 c) : Ct E LAY mX9_type [.ref (gad E 27), iV c] S (fun r S' => Eqx [58, 73] S S' ∧ r = some (iV (aType tx c)) ∧ mTx S' (if 0 ≤ aType tx c then tx ++ [c.toNat] else tx)) := by
  obtain ⟨h1, h2, h3, h4⟩ := id hT
  refine Ct.intro LAY_ok (by decide +kernel) (Nat.le_of_ble_eq_true rfl) rfl ?_
  intro Z hZ
  refine g_iload_n hZ dX9_type_0 rfl ?_
  refine g_bipush hZ (z := 32) dX9_type_1 rfl ?_
  refine g_bipush hZ (z := 126) dX9_type_3 rfl ?_
  refine g_callS hZ (t_X9_in E S c 32 126 rc (by omega) (by omega)) kX9_64 ⟨by decide, by decide⟩ rfl rfl (Nat.le_of_ble_eq_true rfl) dX9_type_5 ?_
  rintro _ _ ⟨rfl, z1, rfl, hz1⟩
  rcases hz1 with ⟨rfl, hz1⟩ | ⟨rfl, hz1⟩
  · refine g_if_ne hZ 15 dX9_type_8 rfl (by omega) (fun _ => ?_) (fun cX => absurd cX (by omega))
    refine g_aload_n hZ dX9_type_15 rfl ?_
    refine g_geti hZ fX9_180 rfl rfl dX9_type_16 h1 ?_
    refine g_bipush hZ (z := 60) dX9_type_19 rfl ?_
    refine g_icmp_ne hZ 28 dX9_type_21 rfl (by omega) (fun c2 => ?_) (fun c2 => ?_)
    · have ea : aType tx c = ((tx.length + 1 : Nat) : Int) := by unfold aType; rw [if_pos hz1, if_neg (by omega)]
      refine g_aload_n hZ dX9_type_28 rfl ?_
      refine g_getr hZ fX9_54 rfl rfl dX9_type_29 ?_
      refine g_aload_n hZ dX9_type_32 rfl ?_
      refine g_geti hZ fX9_180 rfl rfl dX9_type_33 h1 ?_
      refine g_iload_n hZ dX9_type_36 rfl ?_
      refine g_iast hZ (tx.length) rfl dX9_type_37 (rfl) (by omega) (by decide) ?_
      refine g_aload_n hZ dX9_type_38 rfl ?_
      refine g_dup hZ dX9_type_39 rfl ?_
      refine g_geti hZ fX9_180 rfl rfl dX9_type_40 h1 ?_
      refine g_iconst hZ dX9_type_43 ?_
      refine g_iadd hZ dX9_type_44 ?_
      refine g_puti hZ fX9_180 rfl rfl dX9_type_45 ?_
      refine g_aload_n hZ dX9_type_48 rfl ?_
      refine g_geti hZ fX9_180 rfl rfl dX9_type_49 rfl ?_
      refine g_iret hZ dX9_type_52 rfl ⟨(Eqx.rf.up rfl).up rfl, by rw [ea, upS_eq]; rfl, ?_⟩
      rw [ea, if_pos (by omega)]
      refine ⟨by rw [upS_eq, List.length_append]; simp, by rw [List.length_append]; simp; omega, ?_, fun x hx => ?_⟩
      · refine HL_add h3 (fun j hj => ?_) ?_
        · rw [upS_v _ _ (by decide), upS_j _ _ (by omega)]
        · rw [upS_v _ _ (by decide), upS_eq]
          show c = ((c.toNat : Nat) : Int)
          omega
      · rcases List.mem_append.mp hx with z | z
        · exact h4 x z
        · rw [List.mem_singleton] at z; omega
    · have ea : aType tx c = -1003 := by unfold aType; rw [if_pos hz1, if_pos (by omega)]
      refine g_sipush hZ (z := (-1003)) dX9_type_24 rfl ?_
      refine g_iret hZ dX9_type_27 rfl ⟨Eqx.rf, by rw [ea], by rw [ea, if_neg (by omega)]; exact hT⟩
  · have ea : aType tx c = -1001 := by unfold aType; rw [if_neg hz1]
    refine g_if_ne hZ 15 dX9_type_8 rfl (by omega) (fun cX => absurd (by omega) cX) (fun _ => ?_)
    refine g_sipush hZ (z := (-1001)) dX9_type_11 rfl ?_
    refine g_iret hZ dX9_type_14 rfl ⟨Eqx.rf, by rw [ea], by rw [ea, if_neg (by omega)]; exact hT⟩
theorem t_X9_clearText (E : gE) (S : gS) (tx : List Nat) (hT : mTx S tx) : Ct E LAY mX9_clearText [.ref (gad E 27)] S (fun r S' => Eqx [58] S S' ∧ r = some (iV (tx.length : Int)) ∧ mTx S' []) := by
  refine Ct.intro LAY_ok (by decide +kernel) (Nat.le_of_ble_eq_true rfl) rfl ?_
  intro Z hZ
  refine g_aload_n hZ dX9_clearText_0 rfl ?_
  refine g_geti hZ fX9_180 rfl rfl dX9_clearText_1 hT.1 ?_
  refine g_istore_n hZ dX9_clearText_4 (by decide) ?_
  refine g_aload_n hZ dX9_clearText_5 rfl ?_
  refine g_iconst hZ dX9_clearText_6 ?_
  refine g_puti hZ fX9_180 rfl rfl dX9_clearText_7 ?_
  refine g_iload_n hZ dX9_clearText_10 rfl ?_
  refine g_iret hZ dX9_clearText_11 rfl ⟨Eqx.rf.up rfl, rfl, upS_eq _ _ _ _, by simp, HL_nil _ _, by simp⟩
theorem t_X9_charAt (E : gE) (S : gS) (tx : List Nat) (hT : mTx S tx) (k : Nat) (hk : k < 1000) : Ct E LAY mX9_charAt [.ref (gad E 27), iV (k : Int)] S (fun r S' => S = S' ∧ r = some (iV (chA tx k : Int))) := by
  obtain ⟨h1, h2, h3, h4⟩ := id hT
  refine Ct.intro LAY_ok (by decide +kernel) (Nat.le_of_ble_eq_true rfl) rfl ?_
  intro Z hZ
  refine g_iload_n hZ dX9_charAt_0 rfl ?_
  refine g_aload_n hZ dX9_charAt_1 rfl ?_
  refine g_geti hZ fX9_180 rfl rfl dX9_charAt_2 h1 ?_
  refine g_icmp_ge hZ 17 dX9_charAt_5 rfl (by omega) (fun c => ?_) (fun c => ?_)
  · refine g_iconst hZ dX9_charAt_17 ?_
    refine g_iret hZ dX9_charAt_18 rfl ⟨rfl, by rw [chA_out (by omega)]; rfl⟩
  · obtain ⟨x, hx⟩ : ∃ x, tx[k]? = some x := ⟨_, List.getElem?_eq_getElem (by omega)⟩
    refine g_aload_n hZ dX9_charAt_8 rfl ?_
    refine g_getr hZ fX9_54 rfl rfl dX9_charAt_9 ?_
    refine g_iload_n hZ dX9_charAt_12 rfl ?_
    refine g_iald hZ (k) rfl dX9_charAt_13 (rfl) (by omega) (by decide) ((h3 k x hx)) ?_
    refine g_goto hZ 18 dX9_charAt_14 rfl ?_
    refine g_iret hZ dX9_charAt_18 rfl ⟨rfl, by unfold chA; rw [hx]; rfl⟩
abbrev isL (c : Nat) : Prop := 97 ≤ c ∧ c ≤ 122
def pkL (tx : List Nat) (i : Nat) : Nat → Nat
  | 0 => 0
  | m + 1 => pkL tx i m * 32 + (chA tx (i + m) - 96)
theorem pkL_lt {tx : List Nat} {i : Nat} : ∀ {m : Nat}, (∀ j, j < m → isL (chA tx (i + j))) → pkL tx i m < 32 ^ m
  | 0, _ => by simp [pkL]
  | m + 1, h => by
    have ih := pkL_lt (tx := tx) (i := i) (m := m) (fun j hj => h j (by omega))
    have h1 := h m (by omega)
    unfold isL at h1
    rw [pkL, Nat.pow_succ]
    omega
def runP (tx : List Nat) (i m : Nat) : Prop := (∀ j, j < m → isL (chA tx (i + j))) ∧ ¬ isL (chA tx (i + m))
theorem t_X9_letters (E : gE) (S : gS) (tx : List Nat) (hT : mTx S tx) (i : Nat) (hi : i ≤ 60) (hs : S 59 0 = (i : Int)) : Ct E LAY mX9_letters [.ref (gad E 27)] S (fun r S' => Eqx [59] S S' ∧ ∃ m, runP tx i m ∧ i + m ≤ 61 ∧ S' 59 0 = ((i + m : Nat) : Int) ∧ r = some (iV (if m ≤ 5 then (pkL tx i m : Int) else 0))) := by
  obtain ⟨h1, h2, h3, h4⟩ := id hT
  refine Ct.intro LAY_ok (by decide +kernel) (Nat.le_of_ble_eq_true rfl) rfl ?_
  intro Z hZ
  have loop : ∀ (f m : Nat) (S₁ : gS), i + m + f = 61 → Eqx [59] S S₁ → S₁ 59 0 = ((i + m : Nat) : Int) → (∀ j, j < m → isL (chA tx (i + j))) → Z S₁ [(0, .ref (gad E 27)), (1, iV (if m ≤ 5 then (pkL tx i m : Int) else 0)), (2, iV (m : Int))] 4 [] := by
    intro f
    induction f with
    | zero =>
      intro m S₁ hf he h59 hL
      rcases Nat.eq_zero_or_pos m with q | q
      · omega
      · have := hL (m - 1) (by omega)
        rw [chA_out (by omega)] at this
        unfold isL at this
        omega
    | succ f ih =>
      intro m S₁ hf he h59 hL
      have hT₁ := hT.x he rfl rfl
      have hcl := chA_lt h4 (i + m)
      have hp : (∀ j, j < m → isL (chA tx (i + j))) → m ≤ 5 → pkL tx i m < 33554432 := fun q hm => by
        have a1 := pkL_lt q
        have a2 := Nat.pow_le_pow_right (show 0 < 32 by omega) hm
        have a3 : 32 ^ 5 = 33554432 := by decide
        omega
      have hpm := hp hL
      refine g_aload_n hZ dX9_letters_4 rfl ?_
      refine g_aload_n hZ dX9_letters_5 rfl ?_
      refine g_geti hZ fX9_183 rfl rfl dX9_letters_6 h59 ?_
      refine g_callV hZ (t_X9_charAt E S₁ tx hT₁ (i + m) (by omega)) kX9_186 ⟨by decide, by decide⟩ rfl rfl rfl rfl (Nat.le_of_ble_eq_true rfl) dX9_letters_9 ?_
      rintro _ _ ⟨rfl, rfl⟩
      refine g_bipush hZ (z := 97) dX9_letters_12 rfl ?_
      refine g_bipush hZ (z := 122) dX9_letters_14 rfl ?_
      refine g_callS hZ (t_X9_in E S₁ _ 97 122 (by omega) (by omega) (by omega)) kX9_64 ⟨by decide, by decide⟩ rfl rfl (Nat.le_of_ble_eq_true rfl) dX9_letters_16 ?_
      rintro _ _ ⟨rfl, z1, rfl, hz1⟩
      rcases hz1 with ⟨rfl, hz1⟩ | ⟨rfl, hz1⟩
      · refine g_if_eq hZ 63 dX9_letters_19 rfl (by omega) (fun cX => absurd cX (by omega)) (fun _ => ?_)
        have hLm : isL (chA tx (i + m)) := by unfold isL; omega
        have nextp : ∀ (x : Int), x = (if m + 1 ≤ 5 then (pkL tx i (m + 1) : Int) else 0) → ∀ L9 : List (Nat × Value), lkeep L9 [0, 2] = [(0, .ref (gad E 27)), (2, iV (m : Int))] → Z S₁ L9 46 [iV x] := by
          intro x hx L9 hL9
          refine g_keep hZ [0, 2] hL9 ?_
          refine g_istore_n hZ dX9_letters_46 (by decide) ?_
          refine g_iinc hZ dX9_letters_47 rfl (by decide) ?_
          refine g_aload_n hZ dX9_letters_50 rfl ?_
          refine g_dup hZ dX9_letters_51 rfl ?_
          refine g_geti hZ fX9_183 rfl rfl dX9_letters_52 h59 ?_
          refine g_iconst hZ dX9_letters_55 ?_
          refine g_iadd hZ dX9_letters_56 ?_
          refine g_puti hZ fX9_183 rfl rfl dX9_letters_57 ?_
          refine g_goto hZ 4 dX9_letters_60 rfl ?_
          have := ih (m + 1) (upS S₁ 59 0 (((i + m : Nat) : Int) + 1)) (by omega) (he.up rfl) (upS_eq _ _ _ _) (fun j hj => by
            by_cases q : j = m
            · subst q; exact hLm
            · exact hL j (by omega))
          rw [← hx] at this
          exact this
        refine g_iload_n hZ dX9_letters_22 rfl ?_
        refine g_iconst hZ dX9_letters_23 ?_
        refine g_icmp_ge hZ 45 dX9_letters_24 rfl (by omega) (fun c => ?_) (fun c => ?_)
        · refine g_iconst hZ dX9_letters_45 ?_
          exact nextp 0 (by rw [if_neg (by omega)]) _ rfl
        · have e5 : (if m ≤ 5 then (pkL tx i m : Int) else 0) = (pkL tx i m : Int) := by rw [if_pos (by omega)]
          rw [e5]
          have hp4 : pkL tx i m * 32 < 33554432 := by
            have a1 := pkL_lt hL
            have a2 := Nat.pow_le_pow_right (show 0 < 32 by omega) (show m ≤ 4 by omega)
            have a3 : 32 ^ 4 = 1048576 := by decide
            omega
          refine g_iload_n hZ dX9_letters_27 rfl ?_
          refine g_iconst hZ dX9_letters_28 ?_
          refine g_ishl hZ dX9_letters_29 (gi_shl (k := 5) (by omega) (by omega)) ?_
          refine g_aload_n hZ dX9_letters_30 rfl ?_
          refine g_aload_n hZ dX9_letters_31 rfl ?_
          refine g_geti hZ fX9_183 rfl rfl dX9_letters_32 h59 ?_
          refine g_callV hZ (t_X9_charAt E S₁ tx hT₁ (i + m) (by omega)) kX9_186 ⟨by decide, by decide⟩ rfl rfl rfl rfl (Nat.le_of_ble_eq_true rfl) dX9_letters_35 ?_
          rintro _ _ ⟨rfl, rfl⟩
          refine g_bipush hZ (z := 96) dX9_letters_38 rfl ?_
          refine g_isub hZ dX9_letters_40 ?_
          have e6 : (chA tx (i + m) : Int) - 96 = ((chA tx (i + m) - 96 : Nat) : Int) := by omega
          rw [e6]
          refine g_ior hZ (z := (((chA tx (i + m) - 96) + pkL tx i m * 2 ^ 5 : Nat) : Int)) dX9_letters_41 ?_ ?_
          · rw [gi_or, Nat.or_comm, ← gi_or]
            exact gi_ors (k := 5) (by omega)
          refine g_goto hZ 46 dX9_letters_42 rfl ?_
          exact nextp _ (by rw [if_pos (by omega), pkL]; omega) _ rfl
      · refine g_if_eq hZ 63 dX9_letters_19 rfl (by omega) (fun _ => ?_) (fun cX => absurd (by omega) cX)
        have hrun : runP tx i m := ⟨hL, fun q => hz1 (by unfold isL at q; omega)⟩
        refine g_iload_n hZ dX9_letters_63 rfl ?_
        refine g_iconst hZ dX9_letters_64 ?_
        refine g_icmp_le hZ 72 dX9_letters_65 rfl (by omega) (fun c => ?_) (fun c => ?_)
        · refine g_iload_n hZ dX9_letters_72 rfl ?_
          refine g_iret hZ dX9_letters_73 rfl ⟨he, m, hrun, by omega, h59, rfl⟩
        · refine g_iconst hZ dX9_letters_68 ?_
          refine g_goto hZ 73 dX9_letters_69 rfl ?_
          refine g_iret hZ dX9_letters_73 rfl ⟨he, m, hrun, by omega, h59, by rw [if_neg (by omega)]⟩
  refine g_iconst hZ dX9_letters_0 ?_
  refine g_istore_n hZ dX9_letters_1 (by decide) ?_
  refine g_iconst hZ dX9_letters_2 ?_
  refine g_istore_n hZ dX9_letters_3 (by decide) ?_
  exact loop (61 - i) 0 S (by omega) Eqx.rf (by rw [hs]; simp) (fun j hj => absurd hj (Nat.not_lt_zero j))
theorem gi_orh {a b k : Nat} (h : b < 2 ^ k) : Int32.ofInt ((a * 2 ^ k : Nat) : Int) ||| Int32.ofInt (b : Int) = Int32.ofInt ((a * 2 ^ k + b : Nat) : Int) := by
  rw [gi_or, Nat.or_comm, ← gi_or, gi_ors h, Nat.add_comm]
def pkd (a b c d e : Nat) : Nat := if e = 0 then (a - 96) * 32768 + (b - 96) * 1024 + (c - 96) * 32 + (d - 96) else ((a - 96) * 32768 + (b - 96) * 1024 + (c - 96) * 32 + (d - 96)) * 32 + (e - 96)
set_option maxRecDepth 20000 in
theorem t_X9_packed (E : gE) (S : gS) (a b c d e : Nat) (ha : isL a) (hb : isL b) (hc : isL c) (hd : isL d) (he : e = 0 ∨ isL e) : Ct E LAY mX9_packed [iV (a : Int), iV (b : Int), iV (c : Int), iV (d : Int), iV (e : Int)] S (fun r S' => S = S' ∧ r = some (iV (pkd a b c d e : Int))) := by
  unfold isL at ha hb hc hd he
  refine Ct.intro LAY_ok (by decide +kernel) (Nat.le_of_ble_eq_true rfl) rfl ?_
  intro Z hZ
  have ea : (a : Int) - 96 = ((a - 96 : Nat) : Int) := by omega
  have eb : (b : Int) - 96 = ((b - 96 : Nat) : Int) := by omega
  have ec : (c : Int) - 96 = ((c - 96 : Nat) : Int) := by omega
  have ed : (d : Int) - 96 = ((d - 96 : Nat) : Int) := by omega
  refine g_iload_n hZ dX9_packed_0 rfl ?_
  refine g_bipush hZ (z := 96) dX9_packed_1 rfl ?_
  refine g_isub hZ dX9_packed_3 ?_
  rw [ea]
  refine g_bipush hZ (z := 15) dX9_packed_4 rfl ?_
  refine g_ishl hZ dX9_packed_6 (gi_shl (k := 15) (by omega) (by omega)) ?_
  refine g_iload_n hZ dX9_packed_7 rfl ?_
  refine g_bipush hZ (z := 96) dX9_packed_8 rfl ?_
  refine g_isub hZ dX9_packed_10 ?_
  rw [eb]
  refine g_bipush hZ (z := 10) dX9_packed_11 rfl ?_
  refine g_ishl hZ dX9_packed_13 (gi_shl (k := 10) (by omega) (by omega)) ?_
  refine g_ior hZ dX9_packed_14 (gi_orh (k := 15) (by omega)) ?_
  refine g_iload_n hZ dX9_packed_15 rfl ?_
  refine g_bipush hZ (z := 96) dX9_packed_16 rfl ?_
  refine g_isub hZ dX9_packed_18 ?_
  rw [ec]
  have e1 : (((a - 96) * 2 ^ 15 + (b - 96) * 2 ^ 10 : Nat) : Int) = ((((a - 96) * 32 + (b - 96)) * 2 ^ 10 : Nat) : Int) := by omega
  rw [e1]
  refine g_iconst hZ dX9_packed_19 ?_
  refine g_ishl hZ dX9_packed_20 (gi_shl (k := 5) (by omega) (by omega)) ?_
  refine g_ior hZ dX9_packed_21 (gi_orh (k := 10) (by omega)) ?_
  refine g_iload_n hZ dX9_packed_22 rfl ?_
  refine g_bipush hZ (z := 96) dX9_packed_23 rfl ?_
  refine g_isub hZ dX9_packed_25 ?_
  rw [ed]
  have e2 : ((((a - 96) * 32 + (b - 96)) * 2 ^ 10 + (c - 96) * 2 ^ 5 : Nat) : Int) = (((((a - 96) * 32 + (b - 96)) * 32 + (c - 96)) * 2 ^ 5 : Nat) : Int) := by omega
  rw [e2]
  refine g_ior hZ dX9_packed_26 (gi_orh (k := 5) (by omega)) ?_
  refine g_istore hZ dX9_packed_27 (by decide) ?_
  refine g_iload hZ dX9_packed_29 rfl ?_
  refine g_if_ne hZ 39 dX9_packed_31 rfl (by omega) (fun q => ?_) (fun q => ?_)
  · have ee : (e : Int) - 96 = ((e - 96 : Nat) : Int) := by omega
    refine g_iload hZ dX9_packed_39 rfl ?_
    refine g_iconst hZ dX9_packed_41 ?_
    refine g_ishl hZ dX9_packed_42 (gi_shl (k := 5) (by omega) (by omega)) ?_
    refine g_iload hZ dX9_packed_43 rfl ?_
    refine g_bipush hZ (z := 96) dX9_packed_45 rfl ?_
    refine g_isub hZ dX9_packed_47 ?_
    rw [ee]
    refine g_ior hZ dX9_packed_48 (gi_orh (k := 5) (by omega)) ?_
    refine g_iret hZ dX9_packed_49 rfl ⟨rfl, by unfold pkd; rw [if_neg (by omega)]; congr 4; omega⟩
  · refine g_iload hZ dX9_packed_34 rfl ?_
    refine g_goto hZ 49 dX9_packed_36 rfl ?_
    refine g_iret hZ dX9_packed_49 rfl ⟨rfl, by unfold pkd; rw [if_pos (by omega)]; congr 4; omega⟩
def cmdZ (z : Int) : Int := if z = 215205 then 0 else if z = 398548 then 1 else if z = 19176724 then 2 else if z = 87630 then 3 else if z = 442053 then 4 else if z = 525939 then 5 else -1
theorem t_X9_commandOf (E : gE) (S : gS) (z : Int) (rz : R32 z) : Ct E LAY mX9_commandOf [iV z] S (fun r S' => S = S' ∧ r = some (iV (cmdZ z))) := by
  refine Ct.intro LAY_ok (by decide +kernel) (Nat.le_of_ble_eq_true rfl) rfl ?_
  intro Z hZ
  refine g_iload_n hZ dX9_commandOf_0 rfl ?_
  refine g_bipush hZ (z := 102) dX9_commandOf_1 rfl ?_
  refine g_bipush hZ (z := 114) dX9_commandOf_3 rfl ?_
  refine g_bipush hZ (z := 101) dX9_commandOf_5 rfl ?_
  refine g_bipush hZ (z := 101) dX9_commandOf_7 rfl ?_
  refine g_iconst hZ dX9_commandOf_9 ?_
  refine g_callS hZ (t_X9_packed E S 102 114 101 101 0 (by decide) (by decide) (by decide) (by decide) (Or.inl rfl)) kX9_189 ⟨by decide, by decide⟩ rfl rfl (Nat.le_of_ble_eq_true rfl) dX9_commandOf_10 ?_
  rintro _ _ ⟨rfl, rfl⟩
  rw [show (pkd 102 114 101 101 0 : Int) = 215205 from rfl]
  refine g_icmp_ne hZ 20 dX9_commandOf_13 rfl (by omega) (fun c1 => ?_) (fun c1 => ?_)
  · refine g_iload_n hZ dX9_commandOf_20 rfl ?_
    refine g_bipush hZ (z := 108) dX9_commandOf_21 rfl ?_
    refine g_bipush hZ (z := 101) dX9_commandOf_23 rfl ?_
    refine g_bipush hZ (z := 102) dX9_commandOf_25 rfl ?_
    refine g_bipush hZ (z := 116) dX9_commandOf_27 rfl ?_
    refine g_iconst hZ dX9_commandOf_29 ?_
    refine g_callS hZ (t_X9_packed E S 108 101 102 116 0 (by decide) (by decide) (by decide) (by decide) (Or.inl rfl)) kX9_189 ⟨by decide, by decide⟩ rfl rfl (Nat.le_of_ble_eq_true rfl) dX9_commandOf_30 ?_
    rintro _ _ ⟨rfl, rfl⟩
    rw [show (pkd 108 101 102 116 0 : Int) = 398548 from rfl]
    refine g_icmp_ne hZ 40 dX9_commandOf_33 rfl (by omega) (fun c2 => ?_) (fun c2 => ?_)
    · refine g_iload_n hZ dX9_commandOf_40 rfl ?_
      refine g_bipush hZ (z := 114) dX9_commandOf_41 rfl ?_
      refine g_bipush hZ (z := 105) dX9_commandOf_43 rfl ?_
      refine g_bipush hZ (z := 103) dX9_commandOf_45 rfl ?_
      refine g_bipush hZ (z := 104) dX9_commandOf_47 rfl ?_
      refine g_bipush hZ (z := 116) dX9_commandOf_49 rfl ?_
      refine g_callS hZ (t_X9_packed E S 114 105 103 104 116 (by decide) (by decide) (by decide) (by decide) (Or.inr (by decide))) kX9_189 ⟨by decide, by decide⟩ rfl rfl (Nat.le_of_ble_eq_true rfl) dX9_commandOf_51 ?_
      rintro _ _ ⟨rfl, rfl⟩
      rw [show (pkd 114 105 103 104 116 : Int) = 19176724 from rfl]
      refine g_icmp_ne hZ 61 dX9_commandOf_54 rfl (by omega) (fun c3 => ?_) (fun c3 => ?_)
      · refine g_iload_n hZ dX9_commandOf_61 rfl ?_
        refine g_bipush hZ (z := 98) dX9_commandOf_62 rfl ?_
        refine g_bipush hZ (z := 117) dX9_commandOf_64 rfl ?_
        refine g_bipush hZ (z := 114) dX9_commandOf_66 rfl ?_
        refine g_bipush hZ (z := 110) dX9_commandOf_68 rfl ?_
        refine g_iconst hZ dX9_commandOf_70 ?_
        refine g_callS hZ (t_X9_packed E S 98 117 114 110 0 (by decide) (by decide) (by decide) (by decide) (Or.inl rfl)) kX9_189 ⟨by decide, by decide⟩ rfl rfl (Nat.le_of_ble_eq_true rfl) dX9_commandOf_71 ?_
        rintro _ _ ⟨rfl, rfl⟩
        rw [show (pkd 98 117 114 110 0 : Int) = 87630 from rfl]
        refine g_icmp_ne hZ 81 dX9_commandOf_74 rfl (by omega) (fun c4 => ?_) (fun c4 => ?_)
        · refine g_iload_n hZ dX9_commandOf_81 rfl ?_
          refine g_bipush hZ (z := 109) dX9_commandOf_82 rfl ?_
          refine g_bipush hZ (z := 111) dX9_commandOf_84 rfl ?_
          refine g_bipush hZ (z := 118) dX9_commandOf_86 rfl ?_
          refine g_bipush hZ (z := 101) dX9_commandOf_88 rfl ?_
          refine g_iconst hZ dX9_commandOf_90 ?_
          refine g_callS hZ (t_X9_packed E S 109 111 118 101 0 (by decide) (by decide) (by decide) (by decide) (Or.inl rfl)) kX9_189 ⟨by decide, by decide⟩ rfl rfl (Nat.le_of_ble_eq_true rfl) dX9_commandOf_91 ?_
          rintro _ _ ⟨rfl, rfl⟩
          rw [show (pkd 109 111 118 101 0 : Int) = 442053 from rfl]
          refine g_icmp_ne hZ 101 dX9_commandOf_94 rfl (by omega) (fun c5 => ?_) (fun c5 => ?_)
          · refine g_iload_n hZ dX9_commandOf_101 rfl ?_
            refine g_bipush hZ (z := 112) dX9_commandOf_102 rfl ?_
            refine g_bipush hZ (z := 97) dX9_commandOf_104 rfl ?_
            refine g_bipush hZ (z := 115) dX9_commandOf_106 rfl ?_
            refine g_bipush hZ (z := 115) dX9_commandOf_108 rfl ?_
            refine g_iconst hZ dX9_commandOf_110 ?_
            refine g_callS hZ (t_X9_packed E S 112 97 115 115 0 (by decide) (by decide) (by decide) (by decide) (Or.inl rfl)) kX9_189 ⟨by decide, by decide⟩ rfl rfl (Nat.le_of_ble_eq_true rfl) dX9_commandOf_111 ?_
            rintro _ _ ⟨rfl, rfl⟩
            rw [show (pkd 112 97 115 115 0 : Int) = 525939 from rfl]
            refine g_icmp_ne hZ 121 dX9_commandOf_114 rfl (by omega) (fun c6 => ?_) (fun c6 => ?_)
            · refine g_iconst hZ dX9_commandOf_121 ?_
              refine g_iret hZ dX9_commandOf_122 rfl ⟨rfl, by unfold cmdZ; rw [if_neg c1, if_neg c2, if_neg c3, if_neg c4, if_neg c5, if_neg c6]⟩
            · refine g_iconst hZ dX9_commandOf_117 ?_
              refine g_goto hZ 122 dX9_commandOf_118 rfl ?_
              refine g_iret hZ dX9_commandOf_122 rfl ⟨rfl, by unfold cmdZ; rw [if_neg c1, if_neg c2, if_neg c3, if_neg c4, if_neg c5, if_pos c6]⟩
          · refine g_iconst hZ dX9_commandOf_97 ?_
            refine g_goto hZ 122 dX9_commandOf_98 rfl ?_
            refine g_iret hZ dX9_commandOf_122 rfl ⟨rfl, by unfold cmdZ; rw [if_neg c1, if_neg c2, if_neg c3, if_neg c4, if_pos c5]⟩
        · refine g_iconst hZ dX9_commandOf_77 ?_
          refine g_goto hZ 122 dX9_commandOf_78 rfl ?_
          refine g_iret hZ dX9_commandOf_122 rfl ⟨rfl, by unfold cmdZ; rw [if_neg c1, if_neg c2, if_neg c3, if_pos c4]⟩
      · refine g_iconst hZ dX9_commandOf_57 ?_
        refine g_goto hZ 122 dX9_commandOf_58 rfl ?_
        refine g_iret hZ dX9_commandOf_122 rfl ⟨rfl, by unfold cmdZ; rw [if_neg c1, if_neg c2, if_pos c3]⟩
    · refine g_iconst hZ dX9_commandOf_36 ?_
      refine g_goto hZ 122 dX9_commandOf_37 rfl ?_
      refine g_iret hZ dX9_commandOf_122 rfl ⟨rfl, by unfold cmdZ; rw [if_neg c1, if_pos c2]⟩
  · refine g_iconst hZ dX9_commandOf_16 ?_
    refine g_goto hZ 122 dX9_commandOf_17 rfl ?_
    refine g_iret hZ dX9_commandOf_122 rfl ⟨rfl, by unfold cmdZ; rw [if_pos c1]⟩
