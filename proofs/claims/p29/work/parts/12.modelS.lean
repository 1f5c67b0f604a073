/-! the reference: boards as numbers, what is reached -/
theorem gi_shl4 {a k : Nat} (hk : k ≤ 14) (h : a ≤ 3) : Int32.ofInt (a : Int) <<< (Int32.ofInt (2 * (k : Int)) &&& 31) = Int32.ofInt ((a * 4 ^ k : Nat) : Int) := by
  have e : (2 * (k : Int)) = ((2 * k : Nat) : Int) := by omega
  have p := p4_lt hk
  have e2 : 2 ^ (2 * k) = 4 ^ k := by rw [Nat.pow_mul]
  rw [e, gi_shl (by omega) (by rw [e2]; have : a * 4 ^ k ≤ 3 * 4 ^ k := Nat.mul_le_mul_right _ h; omega), e2]
theorem gi_or4 {a b k : Nat} (h : a < 4 ^ k) : Int32.ofInt (a : Int) ||| Int32.ofInt ((b * 4 ^ k : Nat) : Int) = Int32.ofInt ((a + b * 4 ^ k : Nat) : Int) := by
  have e2 : 2 ^ (2 * k) = 4 ^ k := by rw [Nat.pow_mul]
  rw [← e2] at h ⊢
  exact gi_ors h
theorem gi_shr4 {a k : Nat} (hk : k ≤ 14) (h : a < 2147483648) : Int32.ofInt (a : Int) >>> (Int32.ofInt (2 * (k : Int)) &&& 31) = Int32.ofInt ((a / 4 ^ k : Nat) : Int) := by
  have e : (2 * (k : Int)) = ((2 * k : Nat) : Int) := by omega
  have e2 : 2 ^ (2 * k) = 4 ^ k := by rw [Nat.pow_mul]
  rw [e, gi_shr (by omega) h, e2]
theorem gi_and3 (a : Nat) : Int32.ofInt (a : Int) &&& Int32.ofInt 3 = Int32.ofInt ((a % 4 : Nat) : Int) := gi_mask a 2
theorem gi_and1 (a : Nat) : Int32.ofInt (a : Int) &&& Int32.ofInt 1 = Int32.ofInt ((a % 2 : Nat) : Int) := gi_mask a 1
/-- the board of a region alone; root -1: the whole board -/
def alnB (r B : Nat → Int) (root : Int) : Nat → Int := fun k => if 0 ≤ root ∧ r k ≠ root then 3 else B k
theorem alnB_bd {r B : Nat → Int} {root : Int} {n : Nat} (h : mBd B n) : mBd (alnB r B root) n := fun k hk => by
  have := h k hk
  unfold alnB; split <;> omega
def hR (c : Nat) : Nat := (Int32.ofInt ((c : Int) * 40503)).toBitVec.toNat / 128 % 8192
theorem hR_lt (c : Nat) : hR c < 8192 := Nat.mod_lt _ (by omega)
theorem modsep_R : modsep 8192 := ⟨by omega, fun a i j h1 h2 e => by omega⟩
theorem gi_ush7 (x : Int32) : (x.toUInt32 >>> ((Int32.ofInt 7).toUInt32 &&& Int32.toUInt32 31)).toInt32 = Int32.ofInt ((x.toBitVec.toNat / 128 : Nat) : Int) := by
  have h := pk_ushr x (Int32.ofInt 7) 7 (by decide)
  have hx : x.toBitVec.toNat < 2 ^ 32 := x.toBitVec.isLt
  rw [gi_nat]
  apply Int32.toBitVec_inj.1
  apply BitVec.eq_of_toNat_eq
  rw [h, pk_tn (by omega)]
/-- the reference's list of what is reached -/
def RS (S : gS) (L : List Nat) : Prop := S 56 0 = (L.length : Int) ∧ HL (fun p : Nat => (p : Int)) (S 67) L ∧ htI (S 68) 8192 hR L ∧ L.Nodup ∧ L.length ≤ 1500
theorem RS.x {vs : List Nat} {S S1 : gS} {L : List Nat} (hh : RS S L) (he : Eqx vs S S1) (h1 : vs.contains 56 = false) (h2 : vs.contains 67 = false) (h3 : vs.contains 68 = false) : RS S1 L := by
  have e1 : S1 67 = S 67 := funext fun j => he 67 j h2
  have e2 : S1 68 = S 68 := funext fun j => he 68 j h3
  exact ⟨(he 56 0 h1).trans hh.1, by rw [e1]; exact hh.2.1, by rw [e2]; exact hh.2.2.1, hh.2.2.2⟩
/-- where a number lies, or where it is to lie -/
def plP (f : Nat → Int) (L : List Nat) (c : Nat) (z : Int) : Prop := (∃ i : Nat, L[i]? = some c ∧ z = (i : Int)) ∨ (c ∉ L ∧ ∃ d, d < 8192 ∧ z = -1 - (((hR c + d) % 8192 : Nat) : Int) ∧ f ((hR c + d) % 8192) = 0 ∧ ∀ e, e < d → 0 < f ((hR c + e) % 8192))
