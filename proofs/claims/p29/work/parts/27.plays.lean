/-! Integer.bitCount, Math.max, Math.min; the class: Play, the small methods -/
section LDCW
variable {Z : gS → List (Nat × Value) → Nat → List Value → Prop} {E : gE} {lay : List gC} {M : gM} {Rt : Option Value → gS → Prop} {S : gS} {L : List (Nat × Value)} {pc : Nat} {st : List Value}
theorem g_ldcw (hZ : Cx Z E lay M Rt) {i : Nat} {z : Int} (d : decode M.2.1 pc = .ok (.ldc_w i, 3)) (hw : Cond.constant M.1.cls i (Int32.ofInt z) ∈ TS) (k : Z S L (pc + 3) (iV z :: st)) : Z S L pc st := by
  obtain ⟨p, e, R, s, m, args, below, meth, c, A, H0, cells, slots, Q, rfl, hx, hb, hml, hown, hts, hK, hA, ho, hR, -, -, -, -⟩ := hZ
  intro H locs ls hP hD hS hl
  exact lv_ldcw hx hb hown (hts _ hw) d (k H locs ls hP hD hS hl)
end LDCW
theorem gi_ushr {x : Nat} {k : Int} {k2 : Nat} (hx : x < 2147483648) (hs : (((Int32.ofInt k).toUInt32 &&& Int32.toUInt32 31).toBitVec % 32).toNat = k2) : ((Int32.ofInt (x : Int)).toUInt32 >>> ((Int32.ofInt k).toUInt32 &&& Int32.toUInt32 31)).toInt32 = Int32.ofInt ((x / 2 ^ k2 : Nat) : Int) := by
  rw [gi_nat, gi_nat]
  exact pk_ushrN (by omega) _ k2 hs
/-- the number of ones, as the library counts it -/
def bcA (m : Nat) : Nat := m - (m / 2 ^ 1 &&& 1431655765)
def bcB (a : Nat) : Nat := (a &&& 858993459) + (a / 2 ^ 2 &&& 858993459)
def bcC (b : Nat) : Nat := (b + b / 2 ^ 4) &&& 252645135
def bcD (c : Nat) : Nat := (c + c / 2 ^ 8) + (c + c / 2 ^ 8) / 2 ^ 16
def bc (m : Nat) : Nat := bcD (bcC (bcB (bcA m))) % 2 ^ 6
def pcN (m : Nat) : Nat := m / 1 % 2 + m / 2 % 2 + m / 4 % 2 + m / 8 % 2 + m / 16 % 2 + m / 32 % 2 + m / 64 % 2 + m / 128 % 2 + m / 256 % 2 + m / 512 % 2 + m / 1024 % 2 + m / 2048 % 2 + m / 4096 % 2 + m / 8192 % 2 + m / 16384 % 2
theorem bc_c0 : ∀ a, a < 16 → ∀ b, b < 64 → bc (64 * a + b + 0) = pcN (64 * a + b + 0) := by decide +kernel
theorem bc_c1 : ∀ a, a < 16 → ∀ b, b < 64 → bc (64 * a + b + 1024) = pcN (64 * a + b + 1024) := by decide +kernel
theorem bc_c2 : ∀ a, a < 16 → ∀ b, b < 64 → bc (64 * a + b + 2048) = pcN (64 * a + b + 2048) := by decide +kernel
theorem bc_c3 : ∀ a, a < 16 → ∀ b, b < 64 → bc (64 * a + b + 3072) = pcN (64 * a + b + 3072) := by decide +kernel
theorem bc_c4 : ∀ a, a < 16 → ∀ b, b < 64 → bc (64 * a + b + 4096) = pcN (64 * a + b + 4096) := by decide +kernel
theorem bc_c5 : ∀ a, a < 16 → ∀ b, b < 64 → bc (64 * a + b + 5120) = pcN (64 * a + b + 5120) := by decide +kernel
theorem bc_c6 : ∀ a, a < 16 → ∀ b, b < 64 → bc (64 * a + b + 6144) = pcN (64 * a + b + 6144) := by decide +kernel
theorem bc_c7 : ∀ a, a < 16 → ∀ b, b < 64 → bc (64 * a + b + 7168) = pcN (64 * a + b + 7168) := by decide +kernel
theorem bc_c8 : ∀ a, a < 16 → ∀ b, b < 64 → bc (64 * a + b + 8192) = pcN (64 * a + b + 8192) := by decide +kernel
theorem bc_c9 : ∀ a, a < 16 → ∀ b, b < 64 → bc (64 * a + b + 9216) = pcN (64 * a + b + 9216) := by decide +kernel
theorem bc_c10 : ∀ a, a < 16 → ∀ b, b < 64 → bc (64 * a + b + 10240) = pcN (64 * a + b + 10240) := by decide +kernel
theorem bc_c11 : ∀ a, a < 16 → ∀ b, b < 64 → bc (64 * a + b + 11264) = pcN (64 * a + b + 11264) := by decide +kernel
theorem bc_c12 : ∀ a, a < 16 → ∀ b, b < 64 → bc (64 * a + b + 12288) = pcN (64 * a + b + 12288) := by decide +kernel
theorem bc_c13 : ∀ a, a < 16 → ∀ b, b < 64 → bc (64 * a + b + 13312) = pcN (64 * a + b + 13312) := by decide +kernel
theorem bc_c14 : ∀ a, a < 16 → ∀ b, b < 64 → bc (64 * a + b + 14336) = pcN (64 * a + b + 14336) := by decide +kernel
theorem bc_c15 : ∀ a, a < 16 → ∀ b, b < 64 → bc (64 * a + b + 15360) = pcN (64 * a + b + 15360) := by decide +kernel
theorem bc_c16 : ∀ a, a < 16 → ∀ b, b < 64 → bc (64 * a + b + 16384) = pcN (64 * a + b + 16384) := by decide +kernel
theorem bc_c17 : ∀ a, a < 16 → ∀ b, b < 64 → bc (64 * a + b + 17408) = pcN (64 * a + b + 17408) := by decide +kernel
theorem bc_c18 : ∀ a, a < 16 → ∀ b, b < 64 → bc (64 * a + b + 18432) = pcN (64 * a + b + 18432) := by decide +kernel
theorem bc_c19 : ∀ a, a < 16 → ∀ b, b < 64 → bc (64 * a + b + 19456) = pcN (64 * a + b + 19456) := by decide +kernel
theorem bc_c20 : ∀ a, a < 16 → ∀ b, b < 64 → bc (64 * a + b + 20480) = pcN (64 * a + b + 20480) := by decide +kernel
theorem bc_c21 : ∀ a, a < 16 → ∀ b, b < 64 → bc (64 * a + b + 21504) = pcN (64 * a + b + 21504) := by decide +kernel
theorem bc_c22 : ∀ a, a < 16 → ∀ b, b < 64 → bc (64 * a + b + 22528) = pcN (64 * a + b + 22528) := by decide +kernel
theorem bc_c23 : ∀ a, a < 16 → ∀ b, b < 64 → bc (64 * a + b + 23552) = pcN (64 * a + b + 23552) := by decide +kernel
theorem bc_c24 : ∀ a, a < 16 → ∀ b, b < 64 → bc (64 * a + b + 24576) = pcN (64 * a + b + 24576) := by decide +kernel
theorem bc_c25 : ∀ a, a < 16 → ∀ b, b < 64 → bc (64 * a + b + 25600) = pcN (64 * a + b + 25600) := by decide +kernel
theorem bc_c26 : ∀ a, a < 16 → ∀ b, b < 64 → bc (64 * a + b + 26624) = pcN (64 * a + b + 26624) := by decide +kernel
theorem bc_c27 : ∀ a, a < 16 → ∀ b, b < 64 → bc (64 * a + b + 27648) = pcN (64 * a + b + 27648) := by decide +kernel
theorem bc_c28 : ∀ a, a < 16 → ∀ b, b < 64 → bc (64 * a + b + 28672) = pcN (64 * a + b + 28672) := by decide +kernel
theorem bc_c29 : ∀ a, a < 16 → ∀ b, b < 64 → bc (64 * a + b + 29696) = pcN (64 * a + b + 29696) := by decide +kernel
theorem bc_c30 : ∀ a, a < 16 → ∀ b, b < 64 → bc (64 * a + b + 30720) = pcN (64 * a + b + 30720) := by decide +kernel
theorem bc_c31 : ∀ a, a < 16 → ∀ b, b < 64 → bc (64 * a + b + 31744) = pcN (64 * a + b + 31744) := by decide +kernel
theorem bc_pcN {m : Nat} (h : m < 32768) : bc m = pcN m := by
  have hc : (0 ≤ m ∧ m < 1024) ∨ (1024 ≤ m ∧ m < 2048) ∨ (2048 ≤ m ∧ m < 3072) ∨ (3072 ≤ m ∧ m < 4096) ∨ (4096 ≤ m ∧ m < 5120) ∨ (5120 ≤ m ∧ m < 6144) ∨ (6144 ≤ m ∧ m < 7168) ∨ (7168 ≤ m ∧ m < 8192) ∨ (8192 ≤ m ∧ m < 9216) ∨ (9216 ≤ m ∧ m < 10240) ∨ (10240 ≤ m ∧ m < 11264) ∨ (11264 ≤ m ∧ m < 12288) ∨ (12288 ≤ m ∧ m < 13312) ∨ (13312 ≤ m ∧ m < 14336) ∨ (14336 ≤ m ∧ m < 15360) ∨ (15360 ≤ m ∧ m < 16384) ∨ (16384 ≤ m ∧ m < 17408) ∨ (17408 ≤ m ∧ m < 18432) ∨ (18432 ≤ m ∧ m < 19456) ∨ (19456 ≤ m ∧ m < 20480) ∨ (20480 ≤ m ∧ m < 21504) ∨ (21504 ≤ m ∧ m < 22528) ∨ (22528 ≤ m ∧ m < 23552) ∨ (23552 ≤ m ∧ m < 24576) ∨ (24576 ≤ m ∧ m < 25600) ∨ (25600 ≤ m ∧ m < 26624) ∨ (26624 ≤ m ∧ m < 27648) ∨ (27648 ≤ m ∧ m < 28672) ∨ (28672 ≤ m ∧ m < 29696) ∨ (29696 ≤ m ∧ m < 30720) ∨ (30720 ≤ m ∧ m < 31744) ∨ (31744 ≤ m ∧ m < 32768) := by omega
  rcases hc with h | h | h | h | h | h | h | h | h | h | h | h | h | h | h | h | h | h | h | h | h | h | h | h | h | h | h | h | h | h | h | h
  · have := bc_c0 ((m - 0) / 64) (by omega) ((m - 0) % 64) (by omega)
    rwa [show 64 * ((m - 0) / 64) + (m - 0) % 64 + 0 = m by omega] at this
  · have := bc_c1 ((m - 1024) / 64) (by omega) ((m - 1024) % 64) (by omega)
    rwa [show 64 * ((m - 1024) / 64) + (m - 1024) % 64 + 1024 = m by omega] at this
  · have := bc_c2 ((m - 2048) / 64) (by omega) ((m - 2048) % 64) (by omega)
    rwa [show 64 * ((m - 2048) / 64) + (m - 2048) % 64 + 2048 = m by omega] at this
  · have := bc_c3 ((m - 3072) / 64) (by omega) ((m - 3072) % 64) (by omega)
    rwa [show 64 * ((m - 3072) / 64) + (m - 3072) % 64 + 3072 = m by omega] at this
  · have := bc_c4 ((m - 4096) / 64) (by omega) ((m - 4096) % 64) (by omega)
    rwa [show 64 * ((m - 4096) / 64) + (m - 4096) % 64 + 4096 = m by omega] at this
  · have := bc_c5 ((m - 5120) / 64) (by omega) ((m - 5120) % 64) (by omega)
    rwa [show 64 * ((m - 5120) / 64) + (m - 5120) % 64 + 5120 = m by omega] at this
  · have := bc_c6 ((m - 6144) / 64) (by omega) ((m - 6144) % 64) (by omega)
    rwa [show 64 * ((m - 6144) / 64) + (m - 6144) % 64 + 6144 = m by omega] at this
  · have := bc_c7 ((m - 7168) / 64) (by omega) ((m - 7168) % 64) (by omega)
    rwa [show 64 * ((m - 7168) / 64) + (m - 7168) % 64 + 7168 = m by omega] at this
  · have := bc_c8 ((m - 8192) / 64) (by omega) ((m - 8192) % 64) (by omega)
    rwa [show 64 * ((m - 8192) / 64) + (m - 8192) % 64 + 8192 = m by omega] at this
  · have := bc_c9 ((m - 9216) / 64) (by omega) ((m - 9216) % 64) (by omega)
    rwa [show 64 * ((m - 9216) / 64) + (m - 9216) % 64 + 9216 = m by omega] at this
  · have := bc_c10 ((m - 10240) / 64) (by omega) ((m - 10240) % 64) (by omega)
    rwa [show 64 * ((m - 10240) / 64) + (m - 10240) % 64 + 10240 = m by omega] at this
  · have := bc_c11 ((m - 11264) / 64) (by omega) ((m - 11264) % 64) (by omega)
    rwa [show 64 * ((m - 11264) / 64) + (m - 11264) % 64 + 11264 = m by omega] at this
  · have := bc_c12 ((m - 12288) / 64) (by omega) ((m - 12288) % 64) (by omega)
    rwa [show 64 * ((m - 12288) / 64) + (m - 12288) % 64 + 12288 = m by omega] at this
  · have := bc_c13 ((m - 13312) / 64) (by omega) ((m - 13312) % 64) (by omega)
    rwa [show 64 * ((m - 13312) / 64) + (m - 13312) % 64 + 13312 = m by omega] at this
  · have := bc_c14 ((m - 14336) / 64) (by omega) ((m - 14336) % 64) (by omega)
    rwa [show 64 * ((m - 14336) / 64) + (m - 14336) % 64 + 14336 = m by omega] at this
  · have := bc_c15 ((m - 15360) / 64) (by omega) ((m - 15360) % 64) (by omega)
    rwa [show 64 * ((m - 15360) / 64) + (m - 15360) % 64 + 15360 = m by omega] at this
  · have := bc_c16 ((m - 16384) / 64) (by omega) ((m - 16384) % 64) (by omega)
    rwa [show 64 * ((m - 16384) / 64) + (m - 16384) % 64 + 16384 = m by omega] at this
  · have := bc_c17 ((m - 17408) / 64) (by omega) ((m - 17408) % 64) (by omega)
    rwa [show 64 * ((m - 17408) / 64) + (m - 17408) % 64 + 17408 = m by omega] at this
  · have := bc_c18 ((m - 18432) / 64) (by omega) ((m - 18432) % 64) (by omega)
    rwa [show 64 * ((m - 18432) / 64) + (m - 18432) % 64 + 18432 = m by omega] at this
  · have := bc_c19 ((m - 19456) / 64) (by omega) ((m - 19456) % 64) (by omega)
    rwa [show 64 * ((m - 19456) / 64) + (m - 19456) % 64 + 19456 = m by omega] at this
  · have := bc_c20 ((m - 20480) / 64) (by omega) ((m - 20480) % 64) (by omega)
    rwa [show 64 * ((m - 20480) / 64) + (m - 20480) % 64 + 20480 = m by omega] at this
  · have := bc_c21 ((m - 21504) / 64) (by omega) ((m - 21504) % 64) (by omega)
    rwa [show 64 * ((m - 21504) / 64) + (m - 21504) % 64 + 21504 = m by omega] at this
  · have := bc_c22 ((m - 22528) / 64) (by omega) ((m - 22528) % 64) (by omega)
    rwa [show 64 * ((m - 22528) / 64) + (m - 22528) % 64 + 22528 = m by omega] at this
  · have := bc_c23 ((m - 23552) / 64) (by omega) ((m - 23552) % 64) (by omega)
    rwa [show 64 * ((m - 23552) / 64) + (m - 23552) % 64 + 23552 = m by omega] at this
  · have := bc_c24 ((m - 24576) / 64) (by omega) ((m - 24576) % 64) (by omega)
    rwa [show 64 * ((m - 24576) / 64) + (m - 24576) % 64 + 24576 = m by omega] at this
  · have := bc_c25 ((m - 25600) / 64) (by omega) ((m - 25600) % 64) (by omega)
    rwa [show 64 * ((m - 25600) / 64) + (m - 25600) % 64 + 25600 = m by omega] at this
  · have := bc_c26 ((m - 26624) / 64) (by omega) ((m - 26624) % 64) (by omega)
    rwa [show 64 * ((m - 26624) / 64) + (m - 26624) % 64 + 26624 = m by omega] at this
  · have := bc_c27 ((m - 27648) / 64) (by omega) ((m - 27648) % 64) (by omega)
    rwa [show 64 * ((m - 27648) / 64) + (m - 27648) % 64 + 27648 = m by omega] at this
  · have := bc_c28 ((m - 28672) / 64) (by omega) ((m - 28672) % 64) (by omega)
    rwa [show 64 * ((m - 28672) / 64) + (m - 28672) % 64 + 28672 = m by omega] at this
  · have := bc_c29 ((m - 29696) / 64) (by omega) ((m - 29696) % 64) (by omega)
    rwa [show 64 * ((m - 29696) / 64) + (m - 29696) % 64 + 29696 = m by omega] at this
  · have := bc_c30 ((m - 30720) / 64) (by omega) ((m - 30720) % 64) (by omega)
    rwa [show 64 * ((m - 30720) / 64) + (m - 30720) % 64 + 30720 = m by omega] at this
  · have := bc_c31 ((m - 31744) / 64) (by omega) ((m - 31744) % 64) (by omega)
    rwa [show 64 * ((m - 31744) / 64) + (m - 31744) % 64 + 31744 = m by omega] at this
theorem pcN_tb (m : Nat) : pcN m = cntB (fun k => m.testBit k) 15 := by
  have key : ∀ k, m / 2 ^ k % 2 = if m.testBit k = true then 1 else 0 := tb_div m
  have k0 := key 0
  have k1 := key 1
  have k2 := key 2
  have k3 := key 3
  have k4 := key 4
  have k5 := key 5
  have k6 := key 6
  have k7 := key 7
  have k8 := key 8
  have k9 := key 9
  have k10 := key 10
  have k11 := key 11
  have k12 := key 12
  have k13 := key 13
  have k14 := key 14
  simp only [cntB, ← k0, ← k1, ← k2, ← k3, ← k4, ← k5, ← k6, ← k7, ← k8, ← k9, ← k10, ← k11, ← k12, ← k13, ← k14]
  unfold pcN
  show _ = 0 + _ + _ + _ + _ + _ + _ + _ + _ + _ + _ + _ + _ + _ + _ + _
  rw [Nat.zero_add]
theorem bc_eq {m : Nat} (h : m < 32768) : bc m = cntB (fun k => m.testBit k) 15 := (bc_pcN h).trans (pcN_tb m)
theorem t_J6_bitCount (E : gE) (S : gS) (m : Nat) (hm : m < 32768) : Ct E LAY mJ6_bitCount_0f7a4 [iV (m : Int)] S (fun r S' => S = S' ∧ r = some (iV (bc m : Int))) := by
  have l1 : m / 2 ^ 1 &&& 1431655765 ≤ m / 2 ^ 1 := Nat.and_le_left
  have lA : bcA m < 32768 := by unfold bcA; omega
  have l2 : bcA m &&& 858993459 ≤ 858993459 := Nat.and_le_right
  have l3 : bcA m / 2 ^ 2 &&& 858993459 ≤ 858993459 := Nat.and_le_right
  have lB : bcB (bcA m) ≤ 1717986918 := by unfold bcB; omega
  have lC : bcC (bcB (bcA m)) ≤ 252645135 := Nat.and_le_right
  refine Ct.intro LAY_ok (by decide +kernel) (Nat.le_of_ble_eq_true rfl) rfl ?_
  intro Z hZ
  refine g_iload_n hZ dJ6_bitCount_0f7a4_0 rfl ?_
  refine g_iload_n hZ dJ6_bitCount_0f7a4_1 rfl ?_
  refine g_iconst hZ dJ6_bitCount_0f7a4_2 ?_
  refine g_iushr hZ dJ6_bitCount_0f7a4_3 (gi_ushr (k := 1) (k2 := 1) (by omega) (by decide)) ?_
  refine g_ldcw hZ (z := 1431655765) dJ6_bitCount_0f7a4_4 (TS_m (by decide +kernel) rfl) ?_
  refine g_iand hZ dJ6_bitCount_0f7a4_7 (gi_and _ 1431655765) ?_
  refine g_isub hZ dJ6_bitCount_0f7a4_8 ?_
  rw [show (m : Int) - ((m / 2 ^ 1 &&& 1431655765 : Nat) : Int) = ((bcA m : Nat) : Int) by unfold bcA; omega]
  refine g_istore_n hZ dJ6_bitCount_0f7a4_9 (by decide) ?_
  refine g_iload_n hZ dJ6_bitCount_0f7a4_10 rfl ?_
  refine g_ldcw hZ (z := 858993459) dJ6_bitCount_0f7a4_11 (TS_m (by decide +kernel) rfl) ?_
  refine g_iand hZ dJ6_bitCount_0f7a4_14 (gi_and _ 858993459) ?_
  refine g_iload_n hZ dJ6_bitCount_0f7a4_15 rfl ?_
  refine g_iconst hZ dJ6_bitCount_0f7a4_16 ?_
  refine g_iushr hZ dJ6_bitCount_0f7a4_17 (gi_ushr (k := 2) (k2 := 2) (by omega) (by decide)) ?_
  refine g_ldcw hZ (z := 858993459) dJ6_bitCount_0f7a4_18 (TS_m (by decide +kernel) rfl) ?_
  refine g_iand hZ dJ6_bitCount_0f7a4_21 (gi_and _ 858993459) ?_
  refine g_iadd hZ dJ6_bitCount_0f7a4_22 ?_
  rw [show ((bcA m &&& 858993459 : Nat) : Int) + ((bcA m / 2 ^ 2 &&& 858993459 : Nat) : Int) = ((bcB (bcA m) : Nat) : Int) by unfold bcB; omega]
  refine g_istore_n hZ dJ6_bitCount_0f7a4_23 (by decide) ?_
  refine g_iload_n hZ dJ6_bitCount_0f7a4_24 rfl ?_
  refine g_iload_n hZ dJ6_bitCount_0f7a4_25 rfl ?_
  refine g_iconst hZ dJ6_bitCount_0f7a4_26 ?_
  refine g_iushr hZ dJ6_bitCount_0f7a4_27 (gi_ushr (k := 4) (k2 := 4) (by omega) (by decide)) ?_
  refine g_iadd hZ dJ6_bitCount_0f7a4_28 ?_
  rw [show ((bcB (bcA m) : Nat) : Int) + ((bcB (bcA m) / 2 ^ 4 : Nat) : Int) = ((bcB (bcA m) + bcB (bcA m) / 2 ^ 4 : Nat) : Int) by omega]
  refine g_ldcw hZ (z := 252645135) dJ6_bitCount_0f7a4_29 (TS_m (by decide +kernel) rfl) ?_
  refine g_iand hZ dJ6_bitCount_0f7a4_32 (gi_and _ 252645135) ?_
  show Z S [(0, iV (bcB (bcA m) : Int))] 33 [iV ((bcC (bcB (bcA m)) : Nat) : Int)]
  refine g_istore_n hZ dJ6_bitCount_0f7a4_33 (by decide) ?_
  refine g_iload_n hZ dJ6_bitCount_0f7a4_34 rfl ?_
  refine g_iload_n hZ dJ6_bitCount_0f7a4_35 rfl ?_
  refine g_bipush hZ (z := 8) dJ6_bitCount_0f7a4_36 rfl ?_
  refine g_iushr hZ dJ6_bitCount_0f7a4_38 (gi_ushr (k := 8) (k2 := 8) (by omega) (by decide)) ?_
  refine g_iadd hZ dJ6_bitCount_0f7a4_39 ?_
  rw [show ((bcC (bcB (bcA m)) : Nat) : Int) + ((bcC (bcB (bcA m)) / 2 ^ 8 : Nat) : Int) = ((bcC (bcB (bcA m)) + bcC (bcB (bcA m)) / 2 ^ 8 : Nat) : Int) by omega]
  refine g_istore_n hZ dJ6_bitCount_0f7a4_40 (by decide) ?_
  refine g_iload_n hZ dJ6_bitCount_0f7a4_41 rfl ?_
  refine g_iload_n hZ dJ6_bitCount_0f7a4_42 rfl ?_
  refine g_bipush hZ (z := 16) dJ6_bitCount_0f7a4_43 rfl ?_
  refine g_iushr hZ dJ6_bitCount_0f7a4_45 (gi_ushr (k := 16) (k2 := 16) (by omega) (by decide)) ?_
  refine g_iadd hZ dJ6_bitCount_0f7a4_46 ?_
  rw [show ((bcC (bcB (bcA m)) + bcC (bcB (bcA m)) / 2 ^ 8 : Nat) : Int) + (((bcC (bcB (bcA m)) + bcC (bcB (bcA m)) / 2 ^ 8) / 2 ^ 16 : Nat) : Int) = ((bcD (bcC (bcB (bcA m))) : Nat) : Int) by unfold bcD; omega]
  refine g_istore_n hZ dJ6_bitCount_0f7a4_47 (by decide) ?_
  refine g_iload_n hZ dJ6_bitCount_0f7a4_48 rfl ?_
  refine g_bipush hZ (z := 63) dJ6_bitCount_0f7a4_49 rfl ?_
  refine g_iand hZ dJ6_bitCount_0f7a4_51 (gi_mask _ 6) ?_
  refine g_iret hZ dJ6_bitCount_0f7a4_52 rfl ⟨rfl, rfl⟩
theorem kX4_79 : gSt RX4 79 mJ9_max_7cf53 2 := ⟨TS_in 441 (by decide +kernel) rfl, TS_in 33 (by decide +kernel) rfl, TS_in 439 (by decide +kernel) rfl, TS_in 440 (by decide +kernel) rfl, by decide +kernel⟩
theorem kX4_85 : gSt RX4 85 mJ9_min_7cf53 2 := ⟨TS_in 471 (by decide +kernel) rfl, TS_in 33 (by decide +kernel) rfl, TS_in 469 (by decide +kernel) rfl, TS_in 470 (by decide +kernel) rfl, by decide +kernel⟩
section MINMAX
variable {Z : gS → List (Nat × Value) → Nat → List Value → Prop} {E : gE} {lay : List gC} {M : gM} {Rt : Option Value → gS → Prop} {S : gS} {L : List (Nat × Value)} {pc : Nat} {st : List Value}
theorem g_mmax (hZ : Cx Z E lay M Rt) {i : Nat} {x y : Int} (hw : gSt M.1.cls i mJ9_max_7cf53 2) (hR2 : 1 ≤ M.2.2.2.2.1 ∧ 21 ≤ M.2.2.2.2.2) (hcat : (st.map fun v => v.category).sum ≤ 8) (rx : R32 x) (ry : R32 y) (d : decode M.2.1 pc = .ok (.invokestatic i, 3)) (k : Z S L (pc + 3) (iV (if x < y then y else x) :: st)) : Z S L pc (iV y :: iV x :: st) := by
  obtain ⟨p, e, R, s, m, args, below, meth, c, A, H0, cells, slots, Q, rfl, hx, hb, hml, hown, hts, hK, hA, ho, hR, -, -, -, -⟩ := hZ
  intro H locs ls hP hD hS hl
  obtain ⟨w1, w2, w3, w4, w6⟩ := hw
  refine va_mmax hx hb (by rw [hml]; first | exact hl.1 | exact hl.1.symm) hown (hts _ w3) (hts _ w4) (hts _ w2) (hts _ w1) (by rw [hR.1]; exact hR2.1) (by rw [hR.2.1]; have := hR2.2; omega) hR.2.2.1 hR.2.2.2 d ?_
  have e : (if Int32.ofInt x < Int32.ofInt y then Int32.ofInt y else Int32.ofInt x) = Int32.ofInt (if x < y then y else x) := by
    by_cases q : x < y
    · rw [if_pos q, if_pos ((gi_lt rx ry).mpr q)]
    · rw [if_neg q, if_neg (fun h => q ((gi_lt rx ry).mp h))]
  rw [e]
  exact k H locs ls hP hD hS hl
theorem g_mmin (hZ : Cx Z E lay M Rt) {i : Nat} {x y : Int} (hw : gSt M.1.cls i mJ9_min_7cf53 2) (hR2 : 1 ≤ M.2.2.2.2.1 ∧ 21 ≤ M.2.2.2.2.2) (hcat : (st.map fun v => v.category).sum ≤ 8) (rx : R32 x) (ry : R32 y) (d : decode M.2.1 pc = .ok (.invokestatic i, 3)) (k : Z S L (pc + 3) (iV (if y < x then y else x) :: st)) : Z S L pc (iV y :: iV x :: st) := by
  obtain ⟨p, e, R, s, m, args, below, meth, c, A, H0, cells, slots, Q, rfl, hx, hb, hml, hown, hts, hK, hA, ho, hR, -, -, -, -⟩ := hZ
  intro H locs ls hP hD hS hl
  obtain ⟨w1, w2, w3, w4, w6⟩ := hw
  refine va_mmin hx hb (by rw [hml]; first | exact hl.1 | exact hl.1.symm) hown (hts _ w3) (hts _ w4) (hts _ w2) (hts _ w1) (by rw [hR.1]; exact hR2.1) (by rw [hR.2.1]; have := hR2.2; omega) hR.2.2.1 hR.2.2.2 d ?_
  have e : (if Int32.ofInt y < Int32.ofInt x then Int32.ofInt y else Int32.ofInt x) = Int32.ofInt (if y < x then y else x) := by
    by_cases q : y < x
    · rw [if_pos q, if_pos ((gi_lt ry rx).mpr q)]
    · rw [if_neg q, if_neg (fun h => q ((gi_lt ry rx).mp h))]
  rw [e]
  exact k H locs ls hP hD hS hl
end MINMAX
