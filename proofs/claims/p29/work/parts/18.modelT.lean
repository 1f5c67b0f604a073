/-! the reference: texts -/
def chA (tx : List Nat) (k : Nat) : Nat := (tx[k]?).getD 0
def mTx (S : gS) (tx : List Nat) : Prop := S 58 0 = (tx.length : Int) ∧ tx.length ≤ 60 ∧ HL (fun c : Nat => (c : Int)) (S 73) tx ∧ ∀ c ∈ tx, c < 127
theorem mTx.x {vs : List Nat} {S S1 : gS} {tx : List Nat} (hh : mTx S tx) (he : Eqx vs S S1) (h1 : vs.contains 58 = false) (h2 : vs.contains 73 = false) : mTx S1 tx :=
  ⟨(he 58 0 h1).trans hh.1, hh.2.1, by rw [show S1 73 = S 73 from funext fun j => he 73 j h2]; exact hh.2.2.1, hh.2.2.2⟩
theorem chA_lt {tx : List Nat} (h : ∀ c ∈ tx, c < 127) (k : Nat) : chA tx k < 127 := by
  unfold chA
  cases e : tx[k]? with
  | none => simp
  | some c => exact h c (List.mem_of_getElem? e)
theorem chA_out {tx : List Nat} {k : Nat} (h : tx.length ≤ k) : chA tx k = 0 := by
  unfold chA
  rw [List.getElem?_eq_none h]; rfl
theorem chA_in {tx : List Nat} {k : Nat} (h : chA tx k ≠ 0) : k < tx.length := by
  rcases Nat.lt_or_ge k tx.length with q | q
  · exact q
  · exact absurd (chA_out q) h
def aType (tx : List Nat) (c : Int) : Int := if 32 ≤ c ∧ c ≤ 126 then (if tx.length = 60 then -1003 else ((tx.length + 1 : Nat) : Int)) else -1001
abbrev isL (c : Nat) : Prop := 97 ≤ c ∧ c ≤ 122
def pkL (tx : List Nat) (i : Nat) : Nat → Nat
  | 0 => 0
  | m + 1 => pkL tx i m * 32 + (chA tx (i + m) - 96)
theorem pkL_lt {tx : List Nat} {i : Nat} : ∀ {m : Nat}, (∀ j, j < m → isL (chA tx (i + j))) → pkL tx i m < 32 ^ m
  | 0, _ => by simp [pkL]
  | m + 1, h => by
    have ih := pkL_lt (tx := tx) (i := i) (m := m) (fun j hj => h j (by omega))
    have h1 := h m (by omega)
    unfold isL at h1
    rw [pkL, Nat.pow_succ]
    omega
def runP (tx : List Nat) (i m : Nat) : Prop := (∀ j, j < m → isL (chA tx (i + j))) ∧ ¬ isL (chA tx (i + m))
theorem gi_orh {a b k : Nat} (h : b < 2 ^ k) : Int32.ofInt ((a * 2 ^ k : Nat) : Int) ||| Int32.ofInt (b : Int) = Int32.ofInt ((a * 2 ^ k + b : Nat) : Int) := by
  rw [gi_or, Nat.or_comm, ← gi_or, gi_ors h, Nat.add_comm]
def pkd (a b c d e : Nat) : Nat := if e = 0 then (a - 96) * 32768 + (b - 96) * 1024 + (c - 96) * 32 + (d - 96) else ((a - 96) * 32768 + (b - 96) * 1024 + (c - 96) * 32 + (d - 96)) * 32 + (e - 96)
def cmdZ (z : Int) : Int := if z = 215205 then 0 else if z = 398548 then 1 else if z = 19176724 then 2 else if z = 87630 then 3 else if z = 442053 then 4 else if z = 525939 then 5 else -1
