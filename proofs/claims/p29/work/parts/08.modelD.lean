/-! the reference: the board's calls -/
def aSet (n : Nat) (B : Nat → Int) (f v : Int) : Int := if 0 ≤ f ∧ f < n ∧ 0 ≤ v ∧ v ≤ 3 then (if (v = 1 ∨ v = 2) ∧ B f.toNat ≠ v ∧ cntZ B v n = 3 then -1003 else B f.toNat) else -1001
def upB (B : Nat → Int) (f : Nat) (v : Int) : Nat → Int := fun j => if j = f then v else B j
theorem upS_61 (S : gS) (v f : Nat) (z : Int) : upS S v f z v = upB (S v) f z := by
  funext j
  rw [upS_if]
  unfold upB
  by_cases q : j = f
  · rw [if_pos ⟨rfl, q⟩, if_pos q]
  · rw [if_neg (fun e => q e.2), if_neg q]
def aMove (w n : Nat) (B : Nat → Int) (s a t u : Int) : Int := if (s = 1 ∨ s = 2) ∧ 0 ≤ a ∧ a < n ∧ 0 ≤ t ∧ t < n ∧ 0 ≤ u ∧ u < n then (if (a.toNat, t.toNat, u.toNat) ∈ mvs w n B s then ((mvs w n (aftB B (a.toNat, t.toNat, u.toNat) s) (3 - s)).length : Int) else -1002) else -1001
/-- what moveAt answers of a move -/
def mpart (q : Nat × Nat × Nat) (v : Int) : Int := if v = 0 then (q.1 : Int) else if v = 1 then (q.2.1 : Int) else (q.2.2 : Int)
def aMoveAt (w n : Nat) (B : Nat → Int) (s i v : Int) : Int := if (s = 1 ∨ s = 2) ∧ 0 ≤ i ∧ 0 ≤ v ∧ v ≤ 2 then (match (mvs w n B s)[i.toNat]? with | some q => mpart q v | none => -1005) else -1001
def aReset (w h : Nat) (W H : Int) : Int := if 1 ≤ W ∧ W ≤ 5 ∧ 1 ≤ H ∧ H ≤ 5 ∧ W * H ≤ 15 then 10 * (w : Int) + h else -1001
