/-! bits of longs and of masks; the class: Contents (wb_ rows: a starting text of the kit) -/
theorem wb_tb (n : Nat) : (lN n).toBitVec = BitVec.ofNat 64 n := rfl
theorem wb_inj {a b : Int64} (h : a.toBitVec = b.toBitVec) : a = b := Int64.toBitVec_inj.mp h
theorem wb_tn {n : Nat} (h : n < 2 ^ 64) : (lN n).toBitVec.toNat = n := by rw [wb_tb, BitVec.toNat_ofNat, Nat.mod_eq_of_lt h]
theorem wb_c : ∀ k, k < 64 → ((nI k).toInt64 &&& 63) = lN k := by decide +kernel
theorem wb_cu : ∀ k, k < 64 → ((nI k).toInt64.toUInt64 &&& Int64.toUInt64 63) = UInt64.ofNat k := by decide +kernel
theorem wb_sm : ∀ k, k < 64 → (BitVec.ofNat 64 k).smod 64 = BitVec.ofNat 64 k := by decide +kernel
theorem wb_pw {a b : Nat} (h : a ≤ b) : 2 ^ b = 2 ^ a * 2 ^ (b - a) := by rw [← Nat.pow_add]; congr 1; omega
theorem wb_lt2 {a b : Nat} (h : a < b) : 2 ^ a < 2 ^ b := Nat.pow_lt_pow_right (by decide) h
theorem wb_mod (n : Nat) : lN n = lN (n % 2 ^ 64) := wb_inj (by rw [wb_tb, wb_tb]; apply BitVec.eq_of_toNat_eq; rw [BitVec.toNat_ofNat, BitVec.toNat_ofNat, Nat.mod_mod])
theorem wb_shr {n k : Nat} (hn : n < 2 ^ 64) (hk : k < 64) : ((lN n).toUInt64 >>> ((nI k).toInt64.toUInt64 &&& Int64.toUInt64 63)).toInt64 = lN (n / 2 ^ k) := by
  rw [wb_cu k hk]
  apply wb_inj
  apply BitVec.eq_of_toNat_eq
  show ((lN n).toUInt64 >>> UInt64.ofNat k).toNat = (BitVec.ofNat 64 _).toNat
  have h1 : (UInt64.ofNat k).toNat = k := by
    show (BitVec.ofNat 64 k).toNat = k
    rw [BitVec.toNat_ofNat, Nat.mod_eq_of_lt (by omega)]
  have h2 : (lN n).toUInt64.toNat = n := wb_tn hn
  rw [UInt64.toNat_shiftRight, h1, h2, Nat.mod_eq_of_lt hk, Nat.shiftRight_eq_div_pow, BitVec.toNat_ofNat, Nat.mod_eq_of_lt (Nat.lt_of_le_of_lt (Nat.div_le_self _ _) hn)]
theorem wb_shl (n : Nat) {k : Nat} (hk : k < 64) : lN n <<< ((nI k).toInt64 &&& 63) = lN (n * 2 ^ k) := by
  rw [wb_c k hk]
  apply wb_inj
  rw [Int64.toBitVec_shiftLeft, wb_tb, wb_tb, wb_tb, wb_sm k hk]
  apply BitVec.eq_of_toNat_eq
  rw [BitVec.shiftLeft_eq', BitVec.toNat_shiftLeft, BitVec.toNat_ofNat, BitVec.toNat_ofNat, BitVec.toNat_ofNat, Nat.mod_eq_of_lt (show k < 2 ^ 64 by omega), Nat.shiftLeft_eq, Nat.mul_mod, Nat.mod_mod, ← Nat.mul_mod]
theorem wb_and {a b : Nat} (ha : a < 2 ^ 64) (hb : b < 2 ^ 64) : lN a &&& lN b = lN (a &&& b) := by
  apply wb_inj
  rw [Int64.toBitVec_and, wb_tb, wb_tb, wb_tb]
  apply BitVec.eq_of_toNat_eq
  rw [BitVec.toNat_and, BitVec.toNat_ofNat, BitVec.toNat_ofNat, BitVec.toNat_ofNat, Nat.mod_eq_of_lt ha, Nat.mod_eq_of_lt hb, Nat.mod_eq_of_lt (Nat.and_lt_two_pow _ hb)]
theorem wb_or {a b : Nat} (ha : a < 2 ^ 64) (hb : b < 2 ^ 64) : lN a ||| lN b = lN (a ||| b) := by
  apply wb_inj
  rw [Int64.toBitVec_or, wb_tb, wb_tb, wb_tb]
  apply BitVec.eq_of_toNat_eq
  rw [BitVec.toNat_or, BitVec.toNat_ofNat, BitVec.toNat_ofNat, BitVec.toNat_ofNat, Nat.mod_eq_of_lt ha, Nat.mod_eq_of_lt hb, Nat.mod_eq_of_lt (Nat.or_lt_two_pow ha hb)]
theorem wb_mask {n k : Nat} (hn : n < 2 ^ 64) (hk : k < 64) : lN n &&& lN (2 ^ k - 1) = lN (n % 2 ^ k) := by
  rw [wb_and hn (by have := wb_lt2 hk; omega), Nat.and_two_pow_sub_one_eq_mod]
theorem gj_lushr {x k : Nat} (hx : x < 9223372036854775808) (hk : k < 64) : ((Int64.ofInt (x : Int)).toUInt64 >>> ((Int32.ofInt (k : Int)).toInt64.toUInt64 &&& Int64.toUInt64 63)).toInt64 = Int64.ofInt ((x / 2 ^ k : Nat) : Int) := by
  rw [gj_nat, gi_nat, gj_nat]
  exact wb_shr (by omega) hk
theorem gj_shl {x k : Nat} (hk : k < 64) : Int64.ofInt (x : Int) <<< ((Int32.ofInt (k : Int)).toInt64 &&& 63) = Int64.ofInt ((x * 2 ^ k : Nat) : Int) := by
  rw [gj_nat, gi_nat, gj_nat]
  exact wb_shl x hk
theorem gj_and {a b : Nat} (ha : a < 9223372036854775808) (hb : b < 9223372036854775808) : Int64.ofInt (a : Int) &&& Int64.ofInt (b : Int) = Int64.ofInt ((a &&& b : Nat) : Int) := by
  rw [gj_nat, gj_nat, gj_nat]
  exact wb_and (by omega) (by omega)
theorem gj_or {a b : Nat} (ha : a < 9223372036854775808) (hb : b < 9223372036854775808) : Int64.ofInt (a : Int) ||| Int64.ofInt (b : Int) = Int64.ofInt ((a ||| b : Nat) : Int) := by
  rw [gj_nat, gj_nat, gj_nat]
  exact wb_or (by omega) (by omega)
theorem gj_l2i (x : Nat) : (Int64.ofInt (x : Int)).toInt32 = Int32.ofInt (x : Int) := by
  rw [gj_nat, gi_nat]
  exact lN_i x
def andn (a m : Nat) : Nat := a ^^^ (a &&& m)
theorem andn_tb (a m k : Nat) : (andn a m).testBit k = (a.testBit k && !m.testBit k) := by
  unfold andn
  rw [Nat.testBit_xor, Nat.testBit_and]
  cases a.testBit k <;> cases m.testBit k <;> rfl
theorem andn_le (a m : Nat) : andn a m ≤ a := by
  apply Nat.le_of_testBit
  intro i h
  rw [andn_tb] at h
  exact (Bool.and_eq_true_iff.mp h).1
theorem gi_not (a : Int) : Int32.ofInt a ^^^ Int32.ofInt (-1) = Int32.ofInt (-a - 1) := by
  have e1 : Int32.ofInt (-a - 1) = -Int32.ofInt a - Int32.ofInt 1 := by rw [gi_neg, gi_sub]
  rw [e1]
  generalize Int32.ofInt a = x
  apply Int32.toBitVec_inj.1
  show x.toBitVec ^^^ (Int32.ofInt (-1)).toBitVec = -x.toBitVec - (Int32.ofInt 1).toBitVec
  rw [show (Int32.ofInt (-1)).toBitVec = BitVec.allOnes 32 by decide, show (Int32.ofInt 1).toBitVec = 1#32 by decide, BitVec.xor_allOnes, BitVec.neg_eq_not_add, BitVec.add_sub_cancel]
theorem gj_not (a : Int) : Int64.ofInt a ^^^ Int64.ofInt (-1) = Int64.ofInt (-a - 1) := by
  have e1 : Int64.ofInt (-a - 1) = -Int64.ofInt a - Int64.ofInt 1 := by
    first | (rw [← Int64.ofInt_neg, ← Int64.ofInt_sub]) | (apply Int64.toInt_inj.1; simp)
  rw [e1]
  generalize Int64.ofInt a = x
  apply Int64.toBitVec_inj.1
  show x.toBitVec ^^^ (Int64.ofInt (-1)).toBitVec = -x.toBitVec - (Int64.ofInt 1).toBitVec
  rw [show (Int64.ofInt (-1)).toBitVec = BitVec.allOnes 64 by decide, show (Int64.ofInt 1).toBitVec = 1#64 by decide, BitVec.xor_allOnes, BitVec.neg_eq_not_add, BitVec.add_sub_cancel]
theorem gi_andn (a m : Nat) : Int32.ofInt (a : Int) &&& Int32.ofInt (-(m : Int) - 1) = Int32.ofInt ((andn a m : Nat) : Int) := by
  rw [← gi_not, gi_nat, gi_nat, gi_nat]
  apply Int32.toBitVec_inj.1
  show BitVec.ofNat 32 a &&& (BitVec.ofNat 32 m ^^^ (Int32.ofInt (-1)).toBitVec) = BitVec.ofNat 32 (andn a m)
  rw [show (Int32.ofInt (-1)).toBitVec = BitVec.allOnes 32 by decide, BitVec.xor_allOnes]
  apply BitVec.eq_of_getLsbD_eq
  intro i hi
  rw [BitVec.getLsbD_and, BitVec.getLsbD_not, BitVec.getLsbD_ofNat, BitVec.getLsbD_ofNat, BitVec.getLsbD_ofNat, andn_tb]
  simp [hi]
theorem gj_andn (a m : Nat) : Int64.ofInt (a : Int) &&& Int64.ofInt (-(m : Int) - 1) = Int64.ofInt ((andn a m : Nat) : Int) := by
  rw [← gj_not, gj_nat, gj_nat, gj_nat]
  apply Int64.toBitVec_inj.1
  show BitVec.ofNat 64 a &&& (BitVec.ofNat 64 m ^^^ (Int64.ofInt (-1)).toBitVec) = BitVec.ofNat 64 (andn a m)
  rw [show (Int64.ofInt (-1)).toBitVec = BitVec.allOnes 64 by decide, BitVec.xor_allOnes]
  apply BitVec.eq_of_getLsbD_eq
  intro i hi
  rw [BitVec.getLsbD_and, BitVec.getLsbD_not, BitVec.getLsbD_ofNat, BitVec.getLsbD_ofNat, BitVec.getLsbD_ofNat, andn_tb]
  simp [hi]
theorem tb_div (m k : Nat) : m / 2 ^ k % 2 = if m.testBit k = true then 1 else 0 := by
  rw [Nat.testBit_eq_decide_div_mod_eq]
  have := Nat.mod_lt (m / 2 ^ k) (show 0 < 2 by omega)
  by_cases h : m / 2 ^ k % 2 = 1
  · rw [h]; simp
  · have h0 : m / 2 ^ k % 2 = 0 := by omega
    rw [h0]; simp
theorem lt_of_tb {m k : Nat} (h : ∀ i, k ≤ i → m.testBit i = false) : m < 2 ^ k := Nat.lt_pow_two_of_testBit m h
/-- the bits of a mask -/
def isM (m : Nat) (P : Nat → Bool) : Prop := ∀ k, m.testBit k = P k
theorem isM.eq {m m2 : Nat} {P : Nat → Bool} (h : isM m P) (h2 : isM m2 P) : m = m2 := Nat.eq_of_testBit_eq fun k => (h k).trans (h2 k).symm
theorem isM.lt {m : Nat} {P : Nat → Bool} {n : Nat} (h : isM m P) (hP : ∀ k, n ≤ k → P k = false) : m < 2 ^ n := lt_of_tb fun i hi => (h i).trans (hP i hi)
theorem p2_le {k : Nat} (h : k ≤ 15) : 2 ^ k ≤ 32768 := by
  have := Nat.pow_le_pow_right (show 0 < 2 by omega) h
  have e : 2 ^ 15 = 32768 := by decide
  omega
def msk (x v : Nat) : Nat := x / 2 ^ (15 * (v - 1)) % 32768
theorem msk_lt (x v : Nat) : msk x v < 32768 := Nat.mod_lt _ (by omega)
theorem msk_tb (x v k : Nat) : (msk x v).testBit k = (decide (k < 15) && x.testBit (15 * (v - 1) + k)) := by
  unfold msk
  rw [show 32768 = 2 ^ 15 by decide, Nat.testBit_mod_two_pow, Nat.testBit_div_two_pow, Nat.add_comm]
/-- the contents of a board in one number -/
def repX (x n : Nat) (B : Nat → Int) : Prop := x < 35184372088832 ∧ ∀ v k : Nat, 1 ≤ v → v ≤ 3 → k < 15 → x.testBit (15 * (v - 1) + k) = decide (k < n ∧ B k = (v : Int))
def mkB (n : Nat) (B : Nat → Int) (v : Int) : Nat → Bool := fun k => decide (k < n ∧ B k = v)
theorem mkB_out {n : Nat} {B : Nat → Int} {v : Int} {k : Nat} (h : n ≤ k) : mkB n B v k = false := by
  unfold mkB; exact decide_eq_false (fun q => by omega)
theorem msk_rep {x n : Nat} {B : Nat → Int} (h : repX x n B) (hn : n ≤ 15) {v : Nat} (h1 : 1 ≤ v) (h3 : v ≤ 3) : isM (msk x v) (mkB n B v) := by
  intro k
  rw [msk_tb]
  by_cases q : k < 15
  · rw [h.2 v k h1 h3 q]; simp [q, mkB]
  · rw [mkB_out (by omega)]; simp [q]
theorem rep_eq {x y n : Nat} {B : Nat → Int} (h : repX x n B) (h2 : repX y n B) : x = y := by
  apply Nat.eq_of_testBit_eq
  intro i
  by_cases q : i < 45
  · have e1 := h.2 (i / 15 + 1) (i % 15) (by omega) (by omega) (by omega)
    have e2 := h2.2 (i / 15 + 1) (i % 15) (by omega) (by omega) (by omega)
    rw [show 15 * (i / 15 + 1 - 1) + i % 15 = i by omega] at e1 e2
    rw [e1, e2]
  · have p : 2 ^ 45 ≤ 2 ^ i := Nat.pow_le_pow_right (by omega) (by omega)
    have e : (2 : Nat) ^ 45 = 35184372088832 := by decide
    rw [Nat.testBit_lt_two_pow (by have := h.1; omega), Nat.testBit_lt_two_pow (by have := h2.1; omega)]
theorem rep_cong {x n : Nat} {B B2 : Nat → Int} (h : repX x n B) (hB : ∀ k, k < n → B k = B2 k) : repX x n B2 := by
  refine ⟨h.1, fun v k h1 h3 hk => ?_⟩
  rw [h.2 v k h1 h3 hk]
  by_cases q : k < n
  · simp [q, hB k q]
  · simp [q]
theorem rep_lt {x : Nat} (h : ∀ i, 45 ≤ i → x.testBit i = false) : x < 35184372088832 := by
  have := lt_of_tb h
  have e : (2 : Nat) ^ 45 = 35184372088832 := by decide
  omega
theorem rep_hi {x n : Nat} {B : Nat → Int} (h : repX x n B) {i : Nat} (hi : 45 ≤ i) : x.testBit i = false := by
  have p : 2 ^ 45 ≤ 2 ^ i := Nat.pow_le_pow_right (by omega) hi
  have e : (2 : Nat) ^ 45 = 35184372088832 := by decide
  exact Nat.testBit_lt_two_pow (by have := h.1; omega)
theorem rep_0 (n : Nat) : repX 0 n (fun _ => 0) := ⟨by omega, fun v k h1 h3 hk => by
  rw [Nat.zero_testBit]
  have : ¬ (0 : Int) = (v : Int) := by omega
  simp [this]⟩
theorem tb_p2 (a k : Nat) : (2 ^ a).testBit k = decide (a = k) := Nat.testBit_two_pow
def andM (n : Nat) : Nat := 2 ^ n - 1
theorem andM_tb (n k : Nat) : (andM n).testBit k = decide (k < n) := Nat.testBit_two_pow_sub_one n k
def frM (x n : Nat) : Nat := andn (andM n) (msk x 1 ||| msk x 2 ||| msk x 3)
theorem frM_rep {x n : Nat} {B : Nat → Int} (h : repX x n B) (hn : n ≤ 15) (hB : mBd B n) : isM (frM x n) (mkB n B 0) := by
  intro k
  unfold frM
  rw [andn_tb, andM_tb, Nat.testBit_or, Nat.testBit_or, msk_rep h hn (v := 1) (by omega) (by omega) k, msk_rep h hn (v := 2) (by omega) (by omega) k, msk_rep h hn (v := 3) (by omega) (by omega) k]
  unfold mkB
  by_cases q : k < n
  · have hb := hB k q
    simp only [q, true_and, decide_true, Bool.true_and]
    have : B k = 0 ∨ B k = 1 ∨ B k = 2 ∨ B k = 3 := by omega
    rcases this with e | e | e | e <;> rw [e] <;> rfl
  · simp [q]
theorem t_X0_mask (E : gE) (S : gS) (x v : Nat) (hx : x < 35184372088832) (h1 : 1 ≤ v) (h3 : v ≤ 3) : Ct E LAY mX0_mask [jV (x : Int), iV (v : Int)] S (fun r S' => S = S' ∧ r = some (iV (msk x v : Int))) := by
  refine Ct.intro LAY_ok (by decide +kernel) (Nat.le_of_ble_eq_true rfl) rfl ?_
  intro Z hZ
  have e1 : (15 : Int) * ((v : Int) - 1) = ((15 * (v - 1) : Nat) : Int) := by omega
  refine g_lload_n hZ dX0_mask_0 rfl ?_
  refine g_bipush hZ (z := 15) dX0_mask_1 rfl ?_
  refine g_iload_n hZ dX0_mask_3 rfl ?_
  refine g_iconst hZ dX0_mask_4 ?_
  refine g_isub hZ dX0_mask_5 ?_
  refine g_imul hZ dX0_mask_6 ?_
  rw [e1]
  refine g_lushr hZ dX0_mask_7 (gj_lushr (by omega) (by omega)) ?_
  refine g_l2i hZ dX0_mask_8 (gj_l2i _) ?_
  refine g_sipush hZ (z := 32767) dX0_mask_9 rfl ?_
  refine g_iand hZ dX0_mask_12 (gi_mask _ 15) ?_
  refine g_iret hZ dX0_mask_13 rfl ⟨rfl, rfl⟩
theorem t_X0_freeMask (E : gE) (S : gS) (x n : Nat) (hx : x < 35184372088832) (hn : n ≤ 15) : Ct E LAY mX0_freeMask [jV (x : Int), iV (andM n : Int)] S (fun r S' => S = S' ∧ r = some (iV (frM x n : Int))) := by
  refine Ct.intro LAY_ok (by decide +kernel) (Nat.le_of_ble_eq_true rfl) rfl ?_
  intro Z hZ
  refine g_iload_n hZ dX0_freeMask_0 rfl ?_
  refine g_lload_n hZ dX0_freeMask_1 rfl ?_
  refine g_iconst hZ dX0_freeMask_2 ?_
  refine g_callS hZ (As := [jV (x : Int), iV ((1 : Nat) : Int)]) (t_X0_mask E S x 1 hx (by omega) (by omega)) kX0_11 ⟨by decide, by decide⟩ rfl rfl (Nat.le_of_ble_eq_true rfl) dX0_freeMask_3 ?_
  rintro _ _ ⟨rfl, rfl⟩
  refine g_lload_n hZ dX0_freeMask_6 rfl ?_
  refine g_iconst hZ dX0_freeMask_7 ?_
  refine g_callS hZ (As := [jV (x : Int), iV ((2 : Nat) : Int)]) (t_X0_mask E S x 2 hx (by omega) (by omega)) kX0_11 ⟨by decide, by decide⟩ rfl rfl (Nat.le_of_ble_eq_true rfl) dX0_freeMask_8 ?_
  rintro _ _ ⟨rfl, rfl⟩
  refine g_ior hZ dX0_freeMask_11 (gi_or _ _) ?_
  refine g_lload_n hZ dX0_freeMask_12 rfl ?_
  refine g_iconst hZ dX0_freeMask_13 ?_
  refine g_callS hZ (As := [jV (x : Int), iV ((3 : Nat) : Int)]) (t_X0_mask E S x 3 hx (by omega) (by omega)) kX0_11 ⟨by decide, by decide⟩ rfl rfl (Nat.le_of_ble_eq_true rfl) dX0_freeMask_14 ?_
  rintro _ _ ⟨rfl, rfl⟩
  refine g_ior hZ dX0_freeMask_17 (gi_or _ _) ?_
  refine g_iconst hZ dX0_freeMask_18 ?_
  refine g_ixor hZ dX0_freeMask_19 (gi_not _) ?_
  refine g_iand hZ dX0_freeMask_20 (gi_andn _ _) ?_
  refine g_iret hZ dX0_freeMask_21 rfl ⟨rfl, rfl⟩
theorem t_X0_at (E : gE) (S : gS) (x n : Nat) (B : Nat → Int) (hx : repX x n B) (hn : n ≤ 15) (hB : mBd B n) (f : Nat) (hf : f < n) : Ct E LAY mX0_at [jV (x : Int), iV (f : Int)] S (fun r S' => S = S' ∧ r = some (iV (B f))) := by
  refine Ct.intro LAY_ok (by decide +kernel) (Nat.le_of_ble_eq_true rfl) rfl ?_
  intro Z hZ
  have hbf := hB f hf
  have loop : ∀ (m v : Nat), v + m = 4 → 1 ≤ v → (∀ u : Nat, 1 ≤ u → u < v → B f ≠ (u : Int)) → Z S [(0, jV (x : Int)), (2, iV (f : Int)), (3, iV (v : Int))] 2 [] := by
    intro m
    induction m with
    | zero =>
      intro v hv h1 hno
      refine g_iload_n hZ dX0_at_2 rfl ?_
      refine g_iconst hZ dX0_at_3 ?_
      refine g_icmp_gt hZ 27 dX0_at_4 rfl (by omega) (fun _ => ?_) (fun cX => absurd (by omega) cX)
      have n1 := hno 1 (by omega) (by omega)
      have n2 := hno 2 (by omega) (by omega)
      have n3 := hno 3 (by omega) (by omega)
      refine g_iconst hZ dX0_at_27 ?_
      refine g_iret hZ dX0_at_28 rfl ⟨rfl, by rw [show B f = 0 by omega]⟩
    | succ m ih =>
      intro v hv h1 hno
      refine g_iload_n hZ dX0_at_2 rfl ?_
      refine g_iconst hZ dX0_at_3 ?_
      refine g_icmp_gt hZ 27 dX0_at_4 rfl (by omega) (fun cX => absurd cX (by omega)) (fun _ => ?_)
      refine g_lload_n hZ dX0_at_7 rfl ?_
      refine g_iload_n hZ dX0_at_8 rfl ?_
      refine g_callS hZ (t_X0_mask E S x v hx.1 h1 (by omega)) kX0_11 ⟨by decide, by decide⟩ rfl rfl (Nat.le_of_ble_eq_true rfl) dX0_at_9 ?_
      rintro _ _ ⟨rfl, rfl⟩
      have hm := msk_rep hx hn h1 (show v ≤ 3 by omega) f
      have hl := msk_lt x v
      refine g_iload_n hZ dX0_at_12 rfl ?_
      refine g_ishr hZ dX0_at_13 (gi_shr (by omega) (by omega)) ?_
      refine g_iconst hZ dX0_at_14 ?_
      refine g_iand hZ dX0_at_15 (gi_and1 _) ?_
      rw [tb_div, hm]
      unfold mkB
      by_cases q : B f = (v : Int)
      · have : decide (f < n ∧ B f = (v : Int)) = true := decide_eq_true ⟨hf, q⟩
        rw [if_pos this]
        refine g_if_eq hZ 21 dX0_at_16 rfl (by omega) (fun cX => absurd cX (by decide)) (fun _ => ?_)
        refine g_iload_n hZ dX0_at_19 rfl ?_
        refine g_iret hZ dX0_at_20 rfl ⟨rfl, by rw [q]⟩
      · have : ¬ decide (f < n ∧ B f = (v : Int)) = true := fun e => q (of_decide_eq_true e).2
        rw [if_neg this]
        refine g_if_eq hZ 21 dX0_at_16 rfl (by omega) (fun _ => ?_) (fun cX => absurd (by decide) cX)
        refine g_iinc hZ dX0_at_21 rfl (by decide) ?_
        refine g_goto hZ 2 dX0_at_24 rfl ?_
        refine ih (v + 1) (by omega) (by omega) (fun u hu hu2 => ?_)
        by_cases q2 : u = v
        · rw [q2]; exact q
        · exact hno u hu (by omega)
  refine g_iconst hZ dX0_at_0 ?_
  refine g_istore_n hZ dX0_at_1 (by decide) ?_
  exact loop 3 1 rfl (Nat.le_refl 1) (fun u h1 h2 => by omega)
theorem t_X0_bit (E : gE) (S : gS) (f v : Nat) (hf : f < 15) (h1 : 1 ≤ v) (h3 : v ≤ 3) : Ct E LAY mX0_bit [iV (f : Int), iV (v : Int)] S (fun r S' => S = S' ∧ r = some (jV ((2 ^ (15 * (v - 1) + f) : Nat) : Int))) := by
  refine Ct.intro LAY_ok (by decide +kernel) (Nat.le_of_ble_eq_true rfl) rfl ?_
  intro Z hZ
  have e1 : (15 : Int) * ((v : Int) - 1) + (f : Int) = ((15 * (v - 1) + f : Nat) : Int) := by omega
  refine g_lconst hZ (z := 1) dX0_bit_0 rfl ?_
  refine g_bipush hZ (z := 15) dX0_bit_1 rfl ?_
  refine g_iload_n hZ dX0_bit_3 rfl ?_
  refine g_iconst hZ dX0_bit_4 ?_
  refine g_isub hZ dX0_bit_5 ?_
  refine g_imul hZ dX0_bit_6 ?_
  refine g_iload_n hZ dX0_bit_7 rfl ?_
  refine g_iadd hZ dX0_bit_8 ?_
  rw [e1]
  refine g_lshl hZ dX0_bit_9 (gj_shl (x := 1) (by omega)) ?_
  rw [Nat.one_mul]
  refine g_lret hZ dX0_bit_10 rfl ⟨rfl, rfl⟩
theorem rep_bit {x n f v : Nat} (hf : f < 15) (h1 : 1 ≤ v) (h3 : v ≤ 3) : (2 ^ (15 * (v - 1) + f) : Nat) < 35184372088832 := by
  have := Nat.pow_lt_pow_right (show 1 < 2 by omega) (show 15 * (v - 1) + f < 45 by omega)
  have e : (2 : Nat) ^ 45 = 35184372088832 := by decide
  omega
theorem or_lt45 {a b : Nat} (ha : a < 35184372088832) (hb : b < 35184372088832) : a ||| b < 35184372088832 := by
  have e : (2 : Nat) ^ 45 = 35184372088832 := by decide
  rw [← e] at ha hb ⊢
  exact Nat.or_lt_two_pow ha hb
theorem t_X0_with (E : gE) (S : gS) (x n : Nat) (B : Nat → Int) (hx : repX x n B) (hn : n ≤ 15) (f v : Nat) (hf : f < n) (hv : v ≤ 3) : Ct E LAY mX0_with [jV (x : Int), iV (f : Int), iV (v : Int)] S (fun r S' => S = S' ∧ ∃ y : Nat, r = some (jV (y : Int)) ∧ repX y n (upB B f (v : Int))) := by
  refine Ct.intro LAY_ok (by decide +kernel) (Nat.le_of_ble_eq_true rfl) rfl ?_
  intro Z hZ
  have b1 := rep_bit (x := x) (n := n) (f := f) (v := 1) (by omega) (by omega) (by omega)
  have b2 := rep_bit (x := x) (n := n) (f := f) (v := 2) (by omega) (by omega) (by omega)
  have b3 := rep_bit (x := x) (n := n) (f := f) (v := 3) (by omega) (by omega) (by omega)
  have b12 := or_lt45 b1 b2
  have b123 := or_lt45 b12 b3
  have hcl : ∀ u k : Nat, 1 ≤ u → u ≤ 3 → k < 15 → (andn x (2 ^ (15 * (1 - 1) + f) ||| 2 ^ (15 * (2 - 1) + f) ||| 2 ^ (15 * (3 - 1) + f))).testBit (15 * (u - 1) + k) = decide (k < n ∧ k ≠ f ∧ B k = (u : Int)) := by
    intro u k h1 h3 hk
    rw [andn_tb, Nat.testBit_or, Nat.testBit_or, tb_p2, tb_p2, tb_p2, hx.2 u k h1 h3 hk]
    by_cases q : k = f
    · subst q
      have : u = 1 ∨ u = 2 ∨ u = 3 := by omega
      rcases this with rfl | rfl | rfl <;> simp
    · have e1 : decide (15 * (1 - 1) + f = 15 * (u - 1) + k) = false := decide_eq_false (by omega)
      have e2 : decide (15 * (2 - 1) + f = 15 * (u - 1) + k) = false := decide_eq_false (by omega)
      have e3 : decide (15 * (3 - 1) + f = 15 * (u - 1) + k) = false := decide_eq_false (by omega)
      rw [e1, e2, e3]
      simp [q]
  have hhi : ∀ i, 45 ≤ i → (andn x (2 ^ (15 * (1 - 1) + f) ||| 2 ^ (15 * (2 - 1) + f) ||| 2 ^ (15 * (3 - 1) + f))).testBit i = false := by
    intro i hi
    rw [andn_tb, rep_hi hx hi]; rfl
  refine g_lload_n hZ dX0_with_0 rfl ?_
  refine g_iload_n hZ dX0_with_1 rfl ?_
  refine g_iconst hZ dX0_with_2 ?_
  refine g_callS hZ (As := [iV (f : Int), iV ((1 : Nat) : Int)]) (t_X0_bit E S f 1 (by omega) (by omega) (by omega)) kX0_15 ⟨by decide, by decide⟩ rfl rfl (Nat.le_of_ble_eq_true rfl) dX0_with_3 ?_
  rintro _ _ ⟨rfl, rfl⟩
  refine g_iload_n hZ dX0_with_6 rfl ?_
  refine g_iconst hZ dX0_with_7 ?_
  refine g_callS hZ (As := [iV (f : Int), iV ((2 : Nat) : Int)]) (t_X0_bit E S f 2 (by omega) (by omega) (by omega)) kX0_15 ⟨by decide, by decide⟩ rfl rfl (Nat.le_of_ble_eq_true rfl) dX0_with_8 ?_
  rintro _ _ ⟨rfl, rfl⟩
  refine g_lor hZ dX0_with_11 (gj_or (by omega) (by omega)) ?_
  refine g_iload_n hZ dX0_with_12 rfl ?_
  refine g_iconst hZ dX0_with_13 ?_
  refine g_callS hZ (As := [iV (f : Int), iV ((3 : Nat) : Int)]) (t_X0_bit E S f 3 (by omega) (by omega) (by omega)) kX0_15 ⟨by decide, by decide⟩ rfl rfl (Nat.le_of_ble_eq_true rfl) dX0_with_14 ?_
  rintro _ _ ⟨rfl, rfl⟩
  refine g_lor hZ dX0_with_17 (gj_or (by omega) (by omega)) ?_
  refine g_ldc2 hZ (z := -1) dX0_with_18 (TS_m (by decide +kernel) rfl) ?_
  refine g_lxor hZ dX0_with_21 (gj_not _) ?_
  refine g_land hZ dX0_with_22 (gj_andn _ _) ?_
  refine g_lstore hZ dX0_with_23 (by decide) ?_
  refine g_iload_n hZ dX0_with_25 rfl ?_
  generalize andn x (2 ^ (15 * (1 - 1) + f) ||| 2 ^ (15 * (2 - 1) + f) ||| 2 ^ (15 * (3 - 1) + f)) = y at *
  have hyl := rep_lt hhi
  refine g_if_ne hZ 34 dX0_with_26 rfl (by omega) (fun c => ?_) (fun c => ?_)
  · refine g_lload hZ dX0_with_34 rfl ?_
    refine g_iload_n hZ dX0_with_36 rfl ?_
    refine g_iload_n hZ dX0_with_37 rfl ?_
    have bv := rep_bit (x := x) (n := n) (f := f) (v := v) (by omega) (by omega) hv
    refine g_callS hZ (t_X0_bit E S f v (by omega) (by omega) hv) kX0_15 ⟨by decide, by decide⟩ rfl rfl (Nat.le_of_ble_eq_true rfl) dX0_with_38 ?_
    rintro _ _ ⟨rfl, rfl⟩
    refine g_lor hZ dX0_with_41 (gj_or (by omega) (by omega)) ?_
    refine g_lret hZ dX0_with_42 rfl ⟨rfl, _, rfl, or_lt45 hyl bv, fun u k h1 h3 hk => ?_⟩
    rw [Nat.testBit_or, hcl u k h1 h3 hk, tb_p2]
    unfold upB
    by_cases q : k = f
    · subst q
      by_cases q2 : u = v
      · subst q2; simp; omega
      · have e1 : decide (15 * (v - 1) + k = 15 * (u - 1) + k) = false := decide_eq_false (by omega)
        have e2 : ¬ ((v : Int) = (u : Int)) := by omega
        rw [e1]; simp [e2]
    · have e1 : decide (15 * (v - 1) + f = 15 * (u - 1) + k) = false := decide_eq_false (by omega)
      rw [e1]; simp [q]
  · refine g_lload hZ dX0_with_29 rfl ?_
    refine g_goto hZ 42 dX0_with_31 rfl ?_
    refine g_lret hZ dX0_with_42 rfl ⟨rfl, _, rfl, hyl, fun u k h1 h3 hk => ?_⟩
    rw [hcl u k h1 h3 hk]
    unfold upB
    by_cases q : k = f
    · have e2 : ¬ ((v : Int) = (u : Int)) := by omega
      simp [q, e2]
    · simp [q]
theorem t_X0_of (E : gE) (S : gS) (n : Nat) (B : Nat → Int) (hn : n ≤ 15) (l r b : Nat) (hl : isM l (mkB n B 1)) (hr : isM r (mkB n B 2)) (hb : isM b (mkB n B 3)) : Ct E LAY mX0_of [iV (l : Int), iV (r : Int), iV (b : Int)] S (fun q S' => S = S' ∧ ∃ y : Nat, q = some (jV (y : Int)) ∧ repX y n B) := by
  have l15 := hl.lt (n := 15) (fun k hk => mkB_out (by omega))
  have r15 := hr.lt (n := 15) (fun k hk => mkB_out (by omega))
  have b15 := hb.lt (n := 15) (fun k hk => mkB_out (by omega))
  have e15 : (2 : Nat) ^ 15 = 32768 := by decide
  have e30 : (2 : Nat) ^ 30 = 1073741824 := by decide
  have s1 : l ||| r * 2 ^ 15 < 35184372088832 := or_lt45 (by omega) (by omega)
  have s2 : l ||| r * 2 ^ 15 ||| b * 2 ^ 30 < 35184372088832 := or_lt45 s1 (by omega)
  refine Ct.intro LAY_ok (by decide +kernel) (Nat.le_of_ble_eq_true rfl) rfl ?_
  intro Z hZ
  refine g_iload_n hZ dX0_of_0 rfl ?_
  refine g_i2l hZ dX0_of_1 (by omega) ?_
  refine g_iload_n hZ dX0_of_2 rfl ?_
  refine g_i2l hZ dX0_of_3 (by omega) ?_
  refine g_bipush hZ (z := 15) dX0_of_4 rfl ?_
  refine g_lshl hZ dX0_of_6 (gj_shl (k := 15) (by omega)) ?_
  refine g_lor hZ dX0_of_7 (gj_or (by omega) (by omega)) ?_
  refine g_iload_n hZ dX0_of_8 rfl ?_
  refine g_i2l hZ dX0_of_9 (by omega) ?_
  refine g_bipush hZ (z := 30) dX0_of_10 rfl ?_
  refine g_lshl hZ dX0_of_12 (gj_shl (k := 30) (by omega)) ?_
  refine g_lor hZ dX0_of_13 (gj_or (by omega) (by omega)) ?_
  refine g_lret hZ dX0_of_14 rfl ⟨rfl, _, rfl, s2, fun v k h1 h3 hk => ?_⟩
  have t15 : ∀ i, (r * 2 ^ 15).testBit i = (decide (15 ≤ i) && r.testBit (i - 15)) := fun i => by rw [← Nat.shiftLeft_eq, Nat.testBit_shiftLeft]
  have t30 : ∀ i, (b * 2 ^ 30).testBit i = (decide (30 ≤ i) && b.testBit (i - 30)) := fun i => by rw [← Nat.shiftLeft_eq, Nat.testBit_shiftLeft]
  rw [Nat.testBit_or, Nat.testBit_or, t15, t30, hl, hr, hb]
  have : v = 1 ∨ v = 2 ∨ v = 3 := by omega
  rcases this with rfl | rfl | rfl
  · have e1 : decide (15 ≤ 15 * (1 - 1) + k) = false := decide_eq_false (by omega)
    have e2 : decide (30 ≤ 15 * (1 - 1) + k) = false := decide_eq_false (by omega)
    rw [e1, e2]
    simp [mkB]
  · have e1 : decide (15 ≤ 15 * (2 - 1) + k) = true := decide_eq_true (by omega)
    have e2 : decide (30 ≤ 15 * (2 - 1) + k) = false := decide_eq_false (by omega)
    rw [e1, e2, mkB_out (show n ≤ 15 * (2 - 1) + k by omega), show 15 * (2 - 1) + k - 15 = k by omega]
    simp [mkB]
  · have e1 : decide (15 ≤ 15 * (3 - 1) + k) = true := decide_eq_true (by omega)
    have e2 : decide (30 ≤ 15 * (3 - 1) + k) = true := decide_eq_true (by omega)
    rw [e1, e2, mkB_out (show n ≤ 15 * (3 - 1) + k by omega), mkB_out (show n ≤ 15 * (3 - 1) + k - 15 by omega), show 15 * (3 - 1) + k - 30 = k by omega]
    simp [mkB]
