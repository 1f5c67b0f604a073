/-! the class: Script append, BurningFields type, clearText -/
/-- the class's text -/
def XT (S : gS) (tx : List Nat) : Prop := S 41 0 = (tx.length : Int) ∧ tx.length ≤ 60 ∧ HL (fun c : Nat => (c : Int)) (S 42) tx ∧ ∀ c ∈ tx, c < 127
theorem XT.x {vs : List Nat} {S S1 : gS} {tx : List Nat} (hh : XT S tx) (he : Eqx vs S S1) (h1 : vs.contains 41 = false) (h2 : vs.contains 42 = false) : XT S1 tx :=
  ⟨(he 41 0 h1).trans hh.1, hh.2.1, by rw [show S1 42 = S 42 from funext fun j => he 42 j h2]; exact hh.2.2.1, hh.2.2.2⟩
theorem gi_c16 {a : Nat} (h : a < 65536) : ((Int32.ofInt (a : Int)).toUInt32 % 65536).toInt32 = Int32.ofInt (a : Int) := by
  rw [gi_nat, pk_char, pk_tn (by omega), Nat.mod_eq_of_lt (by omega)]
theorem gi_cN {a : Nat} (h : a < 65536) : vp_nar .char (Int32.ofInt (a : Int)) = Int32.ofInt (a : Int) := by
  rw [gi_nat]
  exact Value.int.inj (pk_charN h).1
theorem t_X6_append (E : gE) (S : gS) (tx : List Nat) (hT : XT S tx) (c : Nat) (hc : c < 127) : Ct E LAY mX6_append [.ref (gad E 24), iV (c : Int)] S (fun r S' => Eqx [41, 42] S S' ∧ ((r = some (iV 0) ∧ tx.length = 60 ∧ S = S') ∨ (r = some (iV 1) ∧ tx.length < 60 ∧ S' 41 0 = ((tx.length + 1 : Nat) : Int) ∧ XT S' (tx ++ [c])))) := by
  obtain ⟨h1, h2, h3, h4⟩ := id hT
  refine Ct.intro LAY_ok (by decide +kernel) (Nat.le_of_ble_eq_true rfl) rfl ?_
  intro Z hZ
  refine g_aload_n hZ dX6_append_0 rfl ?_
  refine g_geti hZ fX6_19 rfl rfl dX6_append_1 h1 ?_
  refine g_bipush hZ (z := 60) dX6_append_4 rfl ?_
  refine g_icmp_lt hZ 11 dX6_append_6 rfl (by omega) (fun cc => ?_) (fun cc => ?_)
  · refine g_aload_n hZ dX6_append_11 rfl ?_
    refine g_getr hZ fX6_9 rfl rfl dX6_append_12 ?_
    refine g_aload_n hZ dX6_append_15 rfl ?_
    refine g_geti hZ fX6_19 rfl rfl dX6_append_16 h1 ?_
    refine g_iload_n hZ dX6_append_19 rfl ?_
    refine g_cast hZ (tx.length) rfl dX6_append_20 (rfl) (by omega) (by decide) (gi_cN (by omega)) ?_
    refine g_aload_n hZ dX6_append_21 rfl ?_
    refine g_dup hZ dX6_append_22 rfl ?_
    refine g_geti hZ fX6_19 rfl rfl dX6_append_23 h1 ?_
    refine g_iconst hZ dX6_append_26 ?_
    refine g_iadd hZ dX6_append_27 ?_
    refine g_puti hZ fX6_19 rfl rfl dX6_append_28 ?_
    refine g_iconst hZ dX6_append_31 ?_
    refine g_zret hZ dX6_append_32 rfl (Or.inr rfl) ⟨(Eqx.rf.up rfl).up rfl, Or.inr ⟨rfl, by omega, by rw [upS_eq]; rfl, ?_⟩⟩
    refine ⟨by rw [upS_eq, List.length_append]; simp, by rw [List.length_append]; simp; omega, ?_, fun x hx => ?_⟩
    · refine HL_add h3 (fun j hj => ?_) ?_
      · rw [upS_v _ _ (by decide), upS_j _ _ (by omega)]
      · rw [upS_v _ _ (by decide), upS_eq]
    · rcases List.mem_append.mp hx with z | z
      · exact h4 x z
      · rw [List.mem_singleton] at z; omega
  · refine g_iconst hZ dX6_append_9 ?_
    refine g_zret hZ dX6_append_10 rfl (Or.inl rfl) ⟨Eqx.rf, Or.inl ⟨rfl, by omega, rfl⟩⟩
theorem t_X8_type (E : gE) (S : gS) (tx : List Nat) (hT : XT S tx) (c : Int) (rc : R32 c) : Ct E LAY mX8_type [.ref (gad E 0), iV c] S (fun r S' => Eqx [41, 42] S S' ∧ r = some (iV (aType tx c)) ∧ XT S' (if 0 ≤ aType tx c then tx ++ [c.toNat] else tx)) := by
  have hl := hT.2.1
  refine Ct.intro LAY_ok (by decide +kernel) (Nat.le_of_ble_eq_true rfl) rfl ?_
  intro Z hZ
  have no : ¬ (32 ≤ c ∧ c ≤ 126) → Z S [(0, .ref (gad E 0)), (1, iV c)] 12 [] := by
    intro hno
    have ea : aType tx c = -1001 := by unfold aType; rw [if_neg hno]
    rw [ea] at hZ
    refine g_sipush hZ (z := (-1001)) dX8_type_12 rfl ?_
    refine g_iret hZ dX8_type_15 rfl ⟨Eqx.rf, rfl, by rw [if_neg (by omega)]; exact hT⟩
  refine g_iload_n hZ dX8_type_0 rfl ?_
  refine g_bipush hZ (z := 32) dX8_type_1 rfl ?_
  refine g_icmp_lt hZ 12 dX8_type_3 rfl (by omega) (fun c1 => ?_) (fun c1 => ?_)
  · exact no (by omega)
  · refine g_iload_n hZ dX8_type_6 rfl ?_
    refine g_bipush hZ (z := 126) dX8_type_7 rfl ?_
    refine g_icmp_le hZ 16 dX8_type_9 rfl (by omega) (fun c2 => ?_) (fun c2 => ?_)
    · have ec : c = ((c.toNat : Nat) : Int) := by omega
      have ea : aType tx c = if tx.length = 60 then -1003 else ((tx.length + 1 : Nat) : Int) := by unfold aType; rw [if_pos ⟨by omega, by omega⟩]
      refine g_aload_n hZ dX8_type_16 rfl ?_
      refine g_getr hZ fX8_61 rfl rfl dX8_type_17 ?_
      refine g_iload_n hZ dX8_type_20 rfl ?_
      refine g_i2c hZ dX8_type_21 (by rw [ec]; exact gi_c16 (by omega)) ?_
      refine g_callV hZ (As := [iV ((c.toNat : Nat) : Int)]) (t_X6_append E S tx hT c.toNat (by omega)) kX8_212 ⟨by decide, by decide⟩ rfl rfl rfl rfl (Nat.le_of_ble_eq_true rfl) dX8_type_22 ?_
      rintro _ S₁ ⟨he₁, ⟨rfl, hq, rfl⟩ | ⟨rfl, hq, h41, hT₁⟩⟩
      · rw [ea, if_pos hq] at hZ
        refine g_if_eq hZ 38 dX8_type_25 rfl (by omega) (fun _ => ?_) (fun cX => absurd (by omega) cX)
        refine g_sipush hZ (z := (-1003)) dX8_type_38 rfl ?_
        refine g_iret hZ dX8_type_41 rfl ⟨Eqx.rf, rfl, by rw [if_neg (by omega)]; exact hT⟩
      · rw [ea, if_neg (by omega)] at hZ
        refine g_if_eq hZ 38 dX8_type_25 rfl (by omega) (fun cX => absurd cX (by omega)) (fun _ => ?_)
        refine g_aload_n hZ dX8_type_28 rfl ?_
        refine g_getr hZ fX8_61 rfl rfl dX8_type_29 ?_
        refine g_geti hZ fX8_216 rfl rfl dX8_type_32 h41 ?_
        refine g_goto hZ 41 dX8_type_35 rfl ?_
        refine g_iret hZ dX8_type_41 rfl ⟨he₁, rfl, by rw [if_pos (by omega)]; exact hT₁⟩
    · exact no (by omega)
theorem t_X8_clearText (E : gE) (S : gS) (tx : List Nat) (hT : XT S tx) : Ct E LAY mX8_clearText [.ref (gad E 0)] S (fun r S' => Eqx [41] S S' ∧ r = some (iV (tx.length : Int)) ∧ XT S' []) := by
  refine Ct.intro LAY_ok (by decide +kernel) (Nat.le_of_ble_eq_true rfl) rfl ?_
  intro Z hZ
  refine g_aload_n hZ dX8_clearText_0 rfl ?_
  refine g_getr hZ fX8_61 rfl rfl dX8_clearText_1 ?_
  refine g_geti hZ fX8_216 rfl rfl dX8_clearText_4 hT.1 ?_
  refine g_istore_n hZ dX8_clearText_7 (by decide) ?_
  refine g_aload_n hZ dX8_clearText_8 rfl ?_
  refine g_getr hZ fX8_61 rfl rfl dX8_clearText_9 ?_
  refine g_iconst hZ dX8_clearText_12 ?_
  refine g_puti hZ fX8_216 rfl rfl dX8_clearText_13 ?_
  refine g_iload_n hZ dX8_clearText_16 rfl ?_
  refine g_iret hZ dX8_clearText_17 rfl ⟨Eqx.rf.up rfl, rfl, upS_eq _ _ _ _, by simp, HL_nil _ _, by simp⟩
