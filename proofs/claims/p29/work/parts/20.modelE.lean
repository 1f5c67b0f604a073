/-! the reference: a command, the fault, run -/
def cntW (w : Nat) : Nat := if w = 4 then 4 else if w = 5 then 0 else 1
def rdNs (tx : List Nat) : Nat → Nat → Option (List Nat × Nat)
  | 0, a => some ([], a)
  | k + 1, a => match rdN tx a with
    | none => none
    | some (v, b) => match rdNs tx k b with
      | none => none
      | some (vs, c) => some (v :: vs, c)
/-- a command that stands at i: word, numbers, where the next one begins -/
def pcmd (tx : List Nat) (i : Nat) : Option (Nat × List Nat × Nat) := match wrd tx i with
  | none => none
  | some (w, l) => match rdNs tx (cntW w) (i + l) with
    | none => none
    | some (vs, b) => if chA tx b = 59 then some (w, vs, b + 1) else none
theorem rdNs_ok {tx : List Nat} : ∀ {k a : Nat} {vs : List Nat} {b : Nat}, rdNs tx k a = some (vs, b) → vs.length = k ∧ a ≤ b ∧ b ≤ a + 3 * k ∧ ∀ v ∈ vs, v ≤ 99
  | 0, a, vs, b, h => by cases h; exact ⟨rfl, Nat.le_refl _, by omega, by simp⟩
  | k + 1, a, vs, b, h => by
    rw [rdNs] at h
    cases e : rdN tx a with
    | none => simp [e] at h
    | some q =>
      obtain ⟨v, c⟩ := q
      simp only [e] at h
      obtain ⟨r1, r2, r3, r4⟩ := rdN_ok e
      cases e2 : rdNs tx k c with
      | none => simp [e2] at h
      | some q2 =>
        obtain ⟨ws, d⟩ := q2
        simp only [e2, Option.some.injEq, Prod.mk.injEq] at h
        obtain ⟨h1, h2⟩ := h
        obtain ⟨i1, i2, i3, i4⟩ := rdNs_ok e2
        subst h1; subst h2
        refine ⟨by simp [i1], by omega, by omega, fun x hx => ?_⟩
        rcases List.mem_cons.mp hx with z | z
        · omega
        · exact i4 x z
theorem wrd_ok {tx : List Nat} {i w l : Nat} (h : wrd tx i = some (w, l)) : w ≤ 5 ∧ 4 ≤ l ∧ l ≤ 5 := by
  unfold wrd at h
  split at h
  · cases h; omega
  · split at h
    · cases h; omega
    · split at h
      · cases h; omega
      · split at h
        · cases h; omega
        · split at h
          · cases h; omega
          · split at h
            · cases h; omega
            · cases h
theorem pcmd_ok {tx : List Nat} {i : Nat} {q : Nat × List Nat × Nat} (h : pcmd tx i = some q) : q.1 ≤ 5 ∧ q.2.1.length = cntW q.1 ∧ (∀ v ∈ q.2.1, v ≤ 99) ∧ i + 5 ≤ q.2.2 ∧ q.2.2 ≤ tx.length := by
  unfold pcmd at h
  cases e : wrd tx i with
  | none => simp [e] at h
  | some p =>
    obtain ⟨w, l⟩ := p
    simp only [e] at h
    obtain ⟨w1, w2, w3⟩ := wrd_ok e
    cases e2 : rdNs tx (cntW w) (i + l) with
    | none => simp [e2] at h
    | some p2 =>
      obtain ⟨vs, b⟩ := p2
      simp only [e2] at h
      obtain ⟨n1, n2, n3, n4⟩ := rdNs_ok e2
      split at h
      · rename_i hc
        simp only [Option.some.injEq] at h
        subst h
        have := chA_in (tx := tx) (k := b) (by omega)
        refine ⟨w1, n1, n4, ?_, ?_⟩
        · show i + 5 ≤ b + 1; omega
        · show b + 1 ≤ tx.length; omega
      · cases h
def flt (tx : List Nat) : Nat → Nat → Int
  | 0, _ => -1005
  | f + 1, i => if i < tx.length then (match pcmd tx i with | none => (i : Int) | some q => flt tx f q.2.2) else -1005
def exC (w n : Nat) (B : Nat → Int) (wd : Nat) (vs : List Nat) : Option (Nat → Int) :=
  if wd = 5 then some B else if wd < 4 then (if aSet n B (vs.getD 0 0 : Nat) (wd : Int) < 0 then none else some (upB B (vs.getD 0 0) (wd : Int))) else
    (if aMove w n B (vs.getD 0 0 : Nat) (vs.getD 1 0 : Nat) (vs.getD 2 0 : Nat) (vs.getD 3 0 : Nat) < 0 then none else some (aftB B (vs.getD 1 0, vs.getD 2 0, vs.getD 3 0) (vs.getD 0 0 : Nat)))
theorem upB_cnt (B : Nat → Int) (f : Nat) (v z : Int) (n : Nat) : cntZ (upB B f v) z n + (if f < n ∧ B f = z then 1 else 0) = cntZ B z n + (if f < n ∧ v = z then 1 else 0) := cntZ_set B f v z n
theorem aSet_ok {n : Nat} {B : Nat → Int} {f v : Int} (hB : mBd B n) (hc : mC3 B n) (h : ¬ aSet n B f v < 0) : (0 ≤ f ∧ f < n ∧ 0 ≤ v ∧ v ≤ 3) ∧ mBd (upB B f.toNat v) n ∧ mC3 (upB B f.toNat v) n := by
  unfold aSet at h
  by_cases c1 : 0 ≤ f ∧ f < n ∧ 0 ≤ v ∧ v ≤ 3
  · rw [if_pos c1] at h
    by_cases c2 : (v = 1 ∨ v = 2) ∧ B f.toNat ≠ v ∧ cntZ B v n = 3
    · rw [if_pos c2] at h; omega
    · refine ⟨c1, fun k hk => ?_, ?_, ?_⟩
      · have := hB k hk
        unfold upB; split <;> omega
      · have e1 := upB_cnt B f.toNat v 1 n
        have h1 := hc.1
        by_cases q : v = 1
        · subst q
          by_cases q2 : B f.toNat = 1
          · simp only [q2, and_true] at e1; omega
          · have : cntZ B 1 n ≠ 3 := fun e => c2 ⟨Or.inl rfl, q2, e⟩
            split at e1 <;> split at e1 <;> omega
        · simp only [q, and_false, if_false] at e1; omega
      · have e1 := upB_cnt B f.toNat v 2 n
        have h1 := hc.2
        by_cases q : v = 2
        · subst q
          by_cases q2 : B f.toNat = 2
          · simp only [q2, and_true] at e1; omega
          · have : cntZ B 2 n ≠ 3 := fun e => c2 ⟨Or.inr rfl, q2, e⟩
            split at e1 <;> split at e1 <;> omega
        · simp only [q, and_false, if_false] at e1; omega
  · rw [if_neg c1] at h; omega
theorem aMove_ok {w h n : Nat} {B : Nat → Int} {s a t u : Int} (hg : gOK w h n) (hB : mBd B n) (hc : mC3 B n) (hm : ¬ aMove w n B s a t u < 0) : ((s = 1 ∨ s = 2) ∧ 0 ≤ a ∧ a < n ∧ 0 ≤ t ∧ t < n ∧ 0 ≤ u ∧ u < n) ∧ (a.toNat, t.toNat, u.toNat) ∈ mvs w n B s ∧ mBd (aftB B (a.toNat, t.toNat, u.toNat) s) n ∧ mC3 (aftB B (a.toNat, t.toNat, u.toNat) s) n := by
  unfold aMove at hm
  by_cases c1 : (s = 1 ∨ s = 2) ∧ 0 ≤ a ∧ a < n ∧ 0 ≤ t ∧ t < n ∧ 0 ≤ u ∧ u < n
  · rw [if_pos c1] at hm
    by_cases c2 : (a.toNat, t.toNat, u.toNat) ∈ mvs w n B s
    · refine ⟨c1, c2, aftB_bd hB c1.1, ?_, ?_⟩
      · rw [aftB_cnt hg c1.1 c2 (Or.inl rfl)]; exact hc.1
      · rw [aftB_cnt hg c1.1 c2 (Or.inr rfl)]; exact hc.2
    · rw [if_neg c2] at hm; omega
  · rw [if_neg c1] at hm; omega
theorem exC_ok {w h n : Nat} {B B2 : Nat → Int} {wd : Nat} {vs : List Nat} (hg : gOK w h n) (hB : mBd B n) (hc : mC3 B n) (he : exC w n B wd vs = some B2) : mBd B2 n ∧ mC3 B2 n := by
  unfold exC at he
  split at he
  · cases he; exact ⟨hB, hc⟩
  · split at he
    · split at he
      · cases he
      · rename_i hs
        cases he
        have := aSet_ok hB hc hs
        simp only [Int.toNat_natCast] at this
        exact this.2
    · split at he
      · cases he
      · rename_i hs
        cases he
        have := aMove_ok hg hB hc hs
        simp only [Int.toNat_natCast] at this
        exact this.2.2
def rnF (w n : Nat) (tx : List Nat) : Nat → Nat → (Nat → Int) → Nat → Nat × (Nat → Int)
  | 0, _, B, k => (k, B)
  | f + 1, i, B, k => if i < tx.length then (match pcmd tx i with
    | none => (k, B)
    | some q => match exC w n B q.1 q.2.1 with
      | none => (k, B)
      | some B2 => rnF w n tx f q.2.2 B2 (k + 1)) else (k, B)
theorem rnF_mono (w n : Nat) (tx : List Nat) : ∀ (g g2 j : Nat) (B : Nat → Int) (k : Nat), tx.length < j + g → tx.length < j + g2 → rnF w n tx g j B k = rnF w n tx g2 j B k := by
  intro g
  induction g with
  | zero =>
    intro g2 j B k a1 a2
    cases g2 with
    | zero => rfl
    | succ g2 => rw [rnF, rnF, if_neg (by omega)]
  | succ g ihg =>
    intro g2 j B k a1 a2
    cases g2 with
    | zero => rw [rnF, rnF, if_neg (by omega)]
    | succ g2 =>
      rw [rnF, rnF]
      by_cases e : j < tx.length
      · rw [if_pos e, if_pos e]
        cases hp : pcmd tx j with
        | none => rfl
        | some q =>
          have := pcmd_ok hp
          simp only
          cases exC w n B q.1 q.2.1 with
          | none => rfl
          | some B2 => exact ihg g2 q.2.2 B2 (k + 1) (by omega) (by omega)
      · rw [if_neg e, if_neg e]
