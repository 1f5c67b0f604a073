/-! the reference: moves made, history, the board's calls -/
/-- what noMove answers -/
def mNo (S : gS) (w n : Nat) (s a t u z : Int) : Prop := (¬ ((s = 1 ∨ s = 2) ∧ 0 ≤ a ∧ a < n ∧ 0 ≤ t ∧ t < n ∧ 0 ≤ u ∧ u < n) ∧ z = -1001) ∨ (((s = 1 ∨ s = 2) ∧ 0 ≤ a ∧ a < n ∧ 0 ≤ t ∧ t < n ∧ 0 ≤ u ∧ u < n) ∧ (a.toNat, t.toNat, u.toNat) ∈ mvs w n (S 61) s ∧ z = 0) ∨ (((s = 1 ∨ s = 2) ∧ 0 ≤ a ∧ a < n ∧ 0 ≤ t ∧ t < n ∧ 0 ≤ u ∧ u < n) ∧ (a.toNat, t.toNat, u.toNat) ∉ mvs w n (S 61) s ∧ z = -1002)
/-- the sides have at most three pieces each -/
def mC3 (B : Nat → Int) (n : Nat) : Prop := cntZ B 1 n ≤ 3 ∧ cntZ B 2 n ≤ 3
theorem mC3.s {B : Nat → Int} {n : Nat} {s : Int} (h : mC3 B n) (hs : s = 1 ∨ s = 2) : cntZ B s n ≤ 3 := by rcases hs with rfl | rfl; exact h.1; exact h.2
abbrev hEn : Type := Nat × Nat × (Nat → Int)
/-- the reference's history -/
def mHs (S : gS) (hs : List hEn) : Prop := S 52 0 = (hs.length : Int) ∧ hs.length ≤ 8 ∧ ∀ (i : Nat) (e : hEn), hs[i]? = some e → S 63 (17 * i) = (e.1 : Int) ∧ S 63 (17 * i + 1) = (e.2.1 : Int) ∧ ∀ k, k < 15 → S 63 (17 * i + 2 + k) = e.2.2 k
def hpush (hs : List hEn) (e : hEn) : List hEn := (if hs.length = 8 then hs.tail else hs) ++ [e]
theorem mHs.x {vs : List Nat} {S S1 : gS} {hs : List hEn} (hh : mHs S hs) (he : Eqx vs S S1) (h1 : vs.contains 52 = false) (h2 : vs.contains 63 = false) : mHs S1 hs := by
  refine ⟨(he 52 0 h1).trans hh.1, hh.2.1, fun i e hi => ?_⟩
  obtain ⟨a1, a2, a3⟩ := hh.2.2 i e hi
  exact ⟨(he 63 _ h2).trans a1, (he 63 _ h2).trans a2, fun k hk => (he 63 _ h2).trans (a3 k hk)⟩
