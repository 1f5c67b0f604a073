/-! the reference: board, sight, moves -/
/-- the reference's size -/
def mG (S : gS) (w h n : Nat) : Prop := S 50 0 = (w : Int) ∧ S 51 0 = (h : Int) ∧ gOK w h n
theorem mG.n15 {S : gS} {w h n : Nat} (hg : mG S w h n) : n ≤ 15 := hg.2.2.2.2.2.2.2
theorem mG.x {vs : List Nat} {S S1 : gS} {w h n : Nat} (hg : mG S w h n) (he : Eqx vs S S1) (h1 : vs.contains 50 = false) (h2 : vs.contains 51 = false) : mG S1 w h n := ⟨(he 50 0 h1).trans hg.1, (he 51 0 h2).trans hg.2.1, hg.2.2⟩
/-- a board's numbers -/
def mBd (f : Nat → Int) (n : Nat) : Prop := ∀ k, k < n → 0 ≤ f k ∧ f k ≤ 3
