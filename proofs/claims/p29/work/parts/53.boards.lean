/-! the boards of isParted: five fields in a row -/
def pT (a b : Nat) : Nat → Int := upB (upB (upB Z0 2 3) a 1) b 2
def pU (a b : Nat) : Nat → Int := upB (pT a b) (1 - a) 3
noncomputable def rT (a b : Nat) : Nat → Int := fun k => if k < 5 then (if k = 2 then -1 else if k < 2 then 0 else 3) else rg 5 5 (pT a b) k
noncomputable def rU (a b : Nat) : Nat → Int := fun k => if k < 5 then (if k = 2 ∨ k = 1 - a then -1 else if k < 2 then (a : Int) else 3) else rg 5 5 (pU a b) k
def rlb (w n : Nat) (B r : Nat → Int) : Bool := (List.range n).all fun f => (if B f = 3 then decide (r f = -1) else (decide (r f = (f : Int)) || (decide (1 ≤ f) && decide (r f = ((f - 1 : Nat) : Int)) && !decide (B (f - 1) = 3) && nearB w f (f - 1)))) && (List.range n).all fun g => decide (B f = 3) || decide (B g = 3) || !nearB w f g || decide (r f = r g)
theorem rlb_ok {w n : Nat} {B r : Nat → Int} (h : rlb w n B r = true) : isRL w n B r := by
  have h := List.all_eq_true.mp h
  refine ⟨fun f hf hb => ?_, fun f hf hb => ?_, fun f g hf hg hb hb2 hn => ?_⟩
  · have z := h f (List.mem_range.mpr hf)
    rw [Bool.and_eq_true, if_pos hb] at z
    exact of_decide_eq_true z.1
  · have z := h f (List.mem_range.mpr hf)
    rw [Bool.and_eq_true, if_neg hb] at z
    have z := z.1
    simp only [Bool.or_eq_true, Bool.and_eq_true, decide_eq_true_eq, Bool.not_eq_true', decide_eq_false_iff_not] at z
    rcases z with z | ⟨⟨⟨z1, z2⟩, z3⟩, z4⟩
    · exact ⟨f, z, Nat.le_refl f, hb, cn.rf⟩
    · exact ⟨f - 1, z2, by omega, z3, fun Q q st => st f (f - 1) hf (by omega) hb z3 z4 q⟩
  · have z := h f (List.mem_range.mpr hf)
    rw [Bool.and_eq_true] at z
    have z := List.all_eq_true.mp z.2 g (List.mem_range.mpr hg)
    simp only [Bool.or_eq_true, decide_eq_true_eq, Bool.not_eq_true'] at z
    rcases z with ((z | z) | z) | z
    · exact absurd z hb
    · exact absurd z hb2
    · rw [hn] at z; cases z
    · exact z
theorem rg_is {B r : Nat → Int} (h : rlb 5 5 B r = true) (h2 : ∀ k, ¬ k < 5 → r k = rg 5 5 B k) : rg 5 5 B = r := by
  funext k
  by_cases q : k < 5
  · exact (rg_ok 5 5 B).un (rlb_ok h) q
  · exact (h2 k q).symm
theorem rT_is (a b : Nat) (h : rlb 5 5 (pT a b) (rT a b) = true) : rg 5 5 (pT a b) = rT a b := rg_is h (fun k q => by unfold rT; rw [if_neg q])
theorem rU_is (a b : Nat) (h : rlb 5 5 (pU a b) (rU a b) = true) : rg 5 5 (pU a b) = rU a b := rg_is h (fun k q => by unfold rU; rw [if_neg q])
noncomputable def k1 (r B : Nat → Int) : List (Nat × Nat) := (aValue 5 5 r B [] 0).2.1
noncomputable def k2 (r B : Nat → Int) : List (Nat × Nat) := (aValue 5 5 r B (k1 r B) 1).2.1
noncomputable def k3 (r B : Nat → Int) : List (Nat × Nat) := (aLead 5 5 r B (k2 r B)).2.1
/-- what isParted asks of its boards -/
def PF (a b : Nat) (r B r2 B2 : Nat → Int) : Prop :=
  (cntZ (upB Z0 2 3) 1 5 ≠ 3 ∧ upB Z0 2 3 a = 0 ∧ cntZ (upB (upB Z0 2 3) a 1) 2 5 ≠ 3 ∧ upB (upB Z0 2 3) a 1 b = 0 ∧ pT a b (1 - a) = 0) ∧
  (cntB (rootB r) 5 = 2 ∧ (aValue 5 5 r B [] 0).1 = 1 ∧ (aValue 5 5 r B (k1 r B) 1).1 = 1 ∧ (aLead 5 5 r B (k2 r B)).1 = 0 ∧ aOut 5 5 (cod B 5) = 3) ∧
  ((aValue 5 5 r2 B2 (k3 r B) 0).1 = 0 ∧ (aLead 5 5 r2 B2 (aValue 5 5 r2 B2 (k3 r B) 0).2.1).1 = -1 ∧ aOut 5 5 (cod B2 5) = 1 ∧ aOutOf 5 5 r2 B2 0 = 3 ∧ aOutOf 5 5 r2 B2 1 = 1 ∧ 0 ≤ aZug 5 5 B2 ∧ aZug 5 5 B2 < 100) ∧
  ((aLead 5 5 r B (aLead 5 5 r2 B2 (aValue 5 5 r2 B2 (k3 r B) 0).2.1).2.1).1 = 0 ∧ aOutOf 5 5 r B 0 = 0 ∧ aLen 5 5 B 1 = 2 ∧ aBest 5 5 B 1 = -1005 ∧ aWins 5 5 B 2 = 0)
theorem pf_03 : PF 0 3 (rT 0 3) (pT 0 3) (rU 0 3) (pU 0 3) := by
  unfold PF
  refine ⟨⟨?_, ?_, ?_, ?_, ?_⟩, ⟨?_, ?_, ?_, ?_, ?_⟩, ⟨?_, ?_, ?_, ?_, ?_, ?_, ?_⟩, ⟨?_, ?_, ?_, ?_, ?_⟩⟩ <;> decide +kernel
theorem pf_04 : PF 0 4 (rT 0 4) (pT 0 4) (rU 0 4) (pU 0 4) := by
  unfold PF
  refine ⟨⟨?_, ?_, ?_, ?_, ?_⟩, ⟨?_, ?_, ?_, ?_, ?_⟩, ⟨?_, ?_, ?_, ?_, ?_, ?_, ?_⟩, ⟨?_, ?_, ?_, ?_, ?_⟩⟩ <;> decide +kernel
theorem pf_13 : PF 1 3 (rT 1 3) (pT 1 3) (rU 1 3) (pU 1 3) := by
  unfold PF
  refine ⟨⟨?_, ?_, ?_, ?_, ?_⟩, ⟨?_, ?_, ?_, ?_, ?_⟩, ⟨?_, ?_, ?_, ?_, ?_, ?_, ?_⟩, ⟨?_, ?_, ?_, ?_, ?_⟩⟩ <;> decide +kernel
theorem pf_14 : PF 1 4 (rT 1 4) (pT 1 4) (rU 1 4) (pU 1 4) := by
  unfold PF
  refine ⟨⟨?_, ?_, ?_, ?_, ?_⟩, ⟨?_, ?_, ?_, ?_, ?_⟩, ⟨?_, ?_, ?_, ?_, ?_, ?_, ?_⟩, ⟨?_, ?_, ?_, ?_, ?_⟩⟩ <;> decide +kernel
theorem pf_ok (a b : Nat) (ha : a < 2) (hb : b = 3 ∨ b = 4) : PF a b (rg 5 5 (pT a b)) (pT a b) (rg 5 5 (pU a b)) (pU a b) := by
  rcases (show a = 0 ∨ a = 1 by omega) with rfl | rfl <;> rcases hb with rfl | rfl
  · rw [rT_is 0 3 (by decide +kernel), rU_is 0 3 (by decide +kernel)]; exact pf_03
  · rw [rT_is 0 4 (by decide +kernel), rU_is 0 4 (by decide +kernel)]; exact pf_04
  · rw [rT_is 1 3 (by decide +kernel), rU_is 1 3 (by decide +kernel)]; exact pf_13
  · rw [rT_is 1 4 (by decide +kernel), rU_is 1 4 (by decide +kernel)]; exact pf_14
