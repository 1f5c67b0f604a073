/-! the reference: what regions are asked -/
def rootB (r : Nat → Int) (k : Nat) : Bool := decide (r k = (k : Int))
def rts (r : Nat → Int) (n : Nat) : List Nat := (List.range n).filter (rootB r)
theorem flt_at {p : Nat → Bool} {k : Nat} (hp : p k = true) : ∀ {n : Nat}, k < n → ((List.range n).filter p)[cntB p k]? = some k
  | 0, h => absurd h (Nat.not_lt_zero k)
  | n + 1, h => by
    rw [List.range_succ, List.filter_append]
    by_cases q : k = n
    · subst q
      rw [List.getElem?_append_right (by rw [cntB_len]; exact Nat.le_refl _), cntB_len]
      simp [hp]
    · have ih := flt_at hp (n := n) (by omega)
      rw [List.getElem?_append_left (List.getElem?_eq_some_iff.mp ih).1]
      exact ih
theorem rts_len (r : Nat → Int) (n : Nat) : (rts r n).length = cntB (rootB r) n := cntB_len _ _
def wthB (r B : Nat → Int) (root v : Int) : Nat → Bool := fun k => decide (r k = root) && (decide (v < 0) || decide (B k = v))
def kindF (r B : Nat → Int) (n : Nat) (root : Int) : Int := (if 0 < cntB (wthB r B root 1) n then 1 else 0) + (if 0 < cntB (wthB r B root 2) n then 2 else 0)
def aLow (r : Nat → Int) (n : Nat) (i : Int) : Int := if i < 0 then -1 else match (rts r n)[i.toNat]? with | some k => (k : Int) | none => -1
theorem aLow_bd {r : Nat → Int} {n : Nat} {i : Int} : (aLow r n i = -1 ∧ ¬ (0 ≤ i ∧ i < (rts r n).length)) ∨ ∃ k : Nat, aLow r n i = (k : Int) ∧ k < n ∧ r k = (k : Int) ∧ 0 ≤ i ∧ (rts r n)[i.toNat]? = some k := by
  unfold aLow
  by_cases q : i < 0
  · rw [if_pos q]; exact Or.inl ⟨rfl, by omega⟩
  · rw [if_neg q]
    cases e : (rts r n)[i.toNat]? with
    | none => exact Or.inl ⟨rfl, by have := List.getElem?_eq_none_iff.mp e; omega⟩
    | some k =>
      refine Or.inr ⟨k, rfl, ?_⟩
      obtain ⟨h1, h2⟩ := List.mem_filter.mp (List.mem_of_getElem? e)
      exact ⟨List.mem_range.mp h1, by simpa [rootB] using h2, by omega, rfl⟩
/-- the reference's row of regions stands -/
def mRg (S : gS) (w n : Nat) : Prop := ∀ f, f < n → S 72 f = rg w n (S 61) f
def aRegOf (r : Nat → Int) (n : Nat) (f : Int) : Int := if 0 ≤ f ∧ f < n then (if r f.toNat < 0 then -1005 else (cntB (rootB r) (r f.toNat).toNat : Int)) else -1001
theorem kindF_bd {r B : Nat → Int} {n : Nat} {root : Int} : 0 ≤ kindF r B n root ∧ kindF r B n root ≤ 3 := by unfold kindF; split <;> split <;> omega
def aInfo (r B : Nat → Int) (n : Nat) (i v : Int) : Int := if 0 ≤ aLow r n i ∧ 0 ≤ v ∧ v ≤ 5 then (if v = 0 then kindF r B n (aLow r n i) else if v = 5 then aLow r n i else (cntB (wthB r B (aLow r n i) (if v = 1 then -1 else v - 2)) n : Int)) else -1001
