/-! the reference: moves, history -/
theorem seenB_free {w h n a b : Nat} {F : Nat → Bool} (hg : gOK w h n) (ha : a < n) (hb : b < n) (hs : seenB w F a b = true) : F b = true ∧ a ≠ b := by
  unfold seenB at hs
  obtain ⟨h1, h2⟩ := Bool.and_eq_true_iff.mp hs
  obtain ⟨g1, g2⟩ := gst_ok hg ha hb h1
  have h3 := List.all_eq_true.mp h2 (gm w a b - 1) (List.mem_range.mpr (by omega))
  rw [show gm w a b - 1 + 1 = gm w a b by omega, ((g2 _ (Nat.le_refl _)).2.2).mpr rfl] at h3
  exact ⟨h3, (galg_iff.mp h1).1⟩
theorem cntZ_set (B : Nat → Int) (x : Nat) (v z : Int) : ∀ n, cntZ (fun f => if f = x then v else B f) z n + (if x < n ∧ B x = z then 1 else 0) = cntZ B z n + (if x < n ∧ v = z then 1 else 0)
  | 0 => by simp [cntZ]
  | n + 1 => by
    have ih := cntZ_set B x v z n
    rw [cntZ, cntZ]
    by_cases h1 : n = x
    · subst h1
      simp only [Nat.lt_irrefl, false_and, if_false, Nat.lt_succ_self, true_and, if_true] at ih ⊢
      omega
    · have h2 : (x < n + 1) = (x < n) := by rw [eq_iff_iff]; omega
      simp only [h2, if_neg h1] at ih ⊢
      omega
/-- the board behind a move -/
def aftB (B : Nat → Int) (q : Nat × Nat × Nat) (s : Int) : Nat → Int := fun f => if f = q.2.2 then 3 else if f = q.2.1 then s else if f = q.1 then 0 else B f
theorem mvs_facts {w h n : Nat} {B : Nat → Int} {s : Int} {q : Nat × Nat × Nat} (hg : gOK w h n) (hs : s ≠ 0) (hq : q ∈ mvs w n B s) : q.1 < n ∧ q.2.1 < n ∧ q.2.2 < n ∧ B q.1 = s ∧ B q.2.1 = 0 ∧ q.1 ≠ q.2.1 ∧ q.2.1 ≠ q.2.2 ∧ (q.2.2 = q.1 ∨ B q.2.2 = 0) := by
  obtain ⟨h1, h2, h3, h4, h5, h6⟩ := mvs_in hq
  have f1 := seenB_free hg h1 h2 h5
  have f2 := seenB_free hg h2 h3 h6
  refine ⟨h1, h2, h3, h4, by simpa [frB] using f1.1, f1.2, f2.2, ?_⟩
  have f3 := f2.1
  unfold frB brB at f3
  have nne : ¬ q.2.2 = q.2.1 := fun e => f2.2 e.symm
  simp only [decide_eq_true_eq, nne, if_false] at f3
  by_cases e : q.2.2 = q.1
  · exact Or.inl e
  · rw [if_neg e] at f3; exact Or.inr f3
theorem aftB_cnt {w h n : Nat} {B : Nat → Int} {s v : Int} {q : Nat × Nat × Nat} (hg : gOK w h n) (hs : s = 1 ∨ s = 2) (hq : q ∈ mvs w n B s) (hv : v = 1 ∨ v = 2) : cntZ (aftB B q s) v n = cntZ B v n := by
  obtain ⟨h1, h2, h3, h4, h5, h6, h7, h8⟩ := mvs_facts hg (by omega) hq
  have e1 := cntZ_set B q.1 0 v n
  have e2 := cntZ_set (fun f => if f = q.1 then 0 else B f) q.2.1 s v n
  have e3 := cntZ_set (fun f => if f = q.2.1 then s else if f = q.1 then 0 else B f) q.2.2 3 v n
  have e4 : (fun f => if f = q.2.2 then 3 else (fun f => if f = q.2.1 then s else if f = q.1 then 0 else B f) f) = aftB B q s := rfl
  have z1 : (if q.2.1 = q.1 then (0 : Int) else B q.2.1) = 0 := by split <;> omega
  have z2 : (if q.2.2 = q.2.1 then s else if q.2.2 = q.1 then (0 : Int) else B q.2.2) = 0 := by
    rw [if_neg (fun e => h7 e.symm)]
    rcases h8 with h8 | h8
    · rw [if_pos h8]
    · split <;> omega
  simp only [z1] at e2
  simp only [z2] at e3
  rw [e4] at e3
  rw [h4] at e1
  have n0 : ¬ ((0 : Int) = v) := by omega
  have n3 : ¬ ((3 : Int) = v) := by omega
  simp only [n0, n3, and_false, if_false, h1, h2, h3, true_and] at e1 e2 e3
  omega
theorem aftB_bd {n : Nat} {B : Nat → Int} {s : Int} {q : Nat × Nat × Nat} (hB : mBd B n) (hs : s = 1 ∨ s = 2) : mBd (aftB B q s) n := by
  intro k hk
  have := hB k hk
  unfold aftB
  split
  · omega
  · split
    · omega
    · split <;> omega
theorem brB_bd {n : Nat} {B : Nat → Int} {s : Int} {a t : Nat} (hB : mBd B n) (hs : s = 1 ∨ s = 2) : mBd (brB B a t s) n := by
  intro k hk
  have := hB k hk
  unfold brB
  split
  · omega
  · split <;> omega
/-- the list of moves as far as l -/
def MV (S S1 : gS) (l : List (Nat × Nat × Nat)) : Prop := Eqx [55, 62, 66] S S1 ∧ S1 55 0 = (l.length : Int) ∧ HL menc (S1 66) l
theorem MV.to {S S1 : gS} {l l2 : List (Nat × Nat × Nat)} (h : MV S S1 l) (e : l = l2) : MV S S1 l2 := e ▸ h
theorem MV.b {S S1 : gS} {l : List (Nat × Nat × Nat)} {j : Nat} {z : Int} (h : MV S S1 l) : MV S (upS S1 62 j z) l := ⟨h.1.up rfl, h.2.1, h.2.2⟩
