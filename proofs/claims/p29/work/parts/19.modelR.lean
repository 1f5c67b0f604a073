/-! the reference: commands, run -/
abbrev isD (c : Nat) : Prop := 48 ≤ c ∧ c ≤ 57
def dct (tx : List Nat) (a : Nat) : Nat := if isD (chA tx a) then (if isD (chA tx (a + 1)) then (if isD (chA tx (a + 2)) then 3 else 2) else 1) else 0
def nvT (tx : List Nat) (a : Nat) : Nat → Nat
  | 0 => 0
  | m + 1 => 10 * nvT tx a m + (chA tx (a + m) - 48)
/-- a space and a number of one or two digits from a on: its value, and where it ends -/
def rdN (tx : List Nat) (a : Nat) : Option (Nat × Nat) := if chA tx a = 32 ∧ (dct tx (a + 1) = 1 ∨ dct tx (a + 1) = 2) then some (nvT tx (a + 1) (dct tx (a + 1)), a + 1 + dct tx (a + 1)) else none
theorem dct_of {tx : List Nat} {a m : Nat} (h1 : ∀ j, j < m → isD (chA tx (a + j))) (h2 : m ≤ 3) (h3 : m = 3 ∨ ¬ isD (chA tx (a + m))) : dct tx a = m := by
  unfold dct
  match m, h2 with
  | 0, _ => rw [if_neg (by rcases h3 with h3 | h3; omega; exact h3)]
  | 1, _ => rw [if_pos (show isD (chA tx a) from h1 0 (by omega)), if_neg (by rcases h3 with h3 | h3; omega; exact h3)]
  | 2, _ => rw [if_pos (show isD (chA tx a) from h1 0 (by omega)), if_pos (h1 1 (by omega)), if_neg (by rcases h3 with h3 | h3; omega; exact h3)]
  | 3, _ => rw [if_pos (show isD (chA tx a) from h1 0 (by omega)), if_pos (h1 1 (by omega)), if_pos (h1 2 (by omega))]
theorem nvT_lt {tx : List Nat} {a m : Nat} (h1 : ∀ j, j < m → isD (chA tx (a + j))) (h2 : m ≤ 3) : nvT tx a m ≤ 999 ∧ (m ≤ 2 → nvT tx a m ≤ 99) := by
  match m, h2 with
  | 0, _ => simp [nvT]
  | 1, _ =>
    have e0 := h1 0 (by omega)
    simp only [nvT]
    constructor <;> intros <;> omega
  | 2, _ =>
    have e0 := h1 0 (by omega)
    have e1 := h1 1 (by omega)
    simp only [nvT]
    constructor <;> intros <;> omega
  | 3, _ =>
    have e0 := h1 0 (by omega)
    have e1 := h1 1 (by omega)
    have e2 := h1 2 (by omega)
    simp only [nvT]
    constructor <;> intros <;> omega
theorem rdN_ok {tx : List Nat} {a v b : Nat} (h : rdN tx a = some (v, b)) : v ≤ 99 ∧ a + 2 ≤ b ∧ b ≤ a + 3 ∧ chA tx (b - 1) ≠ 0 := by
  unfold rdN at h
  split at h
  · rename_i hc
    obtain ⟨h1, h2⟩ := hc
    simp only [Option.some.injEq, Prod.mk.injEq] at h
    obtain ⟨e1, e2⟩ := h
    have hd : ∀ j, j < dct tx (a + 1) → isD (chA tx (a + 1 + j)) := by
      intro j hj
      unfold dct at h2 hj
      split at hj
      · rename_i d0
        split at hj
        · rename_i d1
          split at hj
          · rename_i d2
            rw [if_pos d0, if_pos d1, if_pos d2] at h2
            omega
          · have : j = 0 ∨ j = 1 := by omega
            rcases this with rfl | rfl
            · exact d0
            · exact d1
        · have : j = 0 := by omega
          subst this
          exact d0
      · omega
    have hv := nvT_lt hd (by omega)
    refine ⟨by rw [← e1]; exact hv.2 (by omega), by omega, by omega, ?_⟩
    have := hd (dct tx (a + 1) - 1) (by omega)
    rw [show a + 1 + (dct tx (a + 1) - 1) = b - 1 by omega] at this
    omega
  · cases h
/-! commands -/
def wm (tx : List Nat) (i : Nat) (l : List Nat) : Bool := ((List.range l.length).all fun j => decide (chA tx (i + j) = l.getD j 0)) && !decide (isL (chA tx (i + l.length)))
/-- the word that stands at i, and its length -/
def wrd (tx : List Nat) (i : Nat) : Option (Nat × Nat) :=
  if wm tx i [102, 114, 101, 101] = true then some (0, 4) else if wm tx i [108, 101, 102, 116] = true then some (1, 4) else if wm tx i [114, 105, 103, 104, 116] = true then some (2, 5) else if wm tx i [98, 117, 114, 110] = true then some (3, 4) else if wm tx i [109, 111, 118, 101] = true then some (4, 4) else if wm tx i [112, 97, 115, 115] = true then some (5, 4) else none
theorem wm4 {tx : List Nat} {i a b c d : Nat} : wm tx i [a, b, c, d] = true ↔ chA tx i = a ∧ chA tx (i + 1) = b ∧ chA tx (i + 2) = c ∧ chA tx (i + 3) = d ∧ ¬ isL (chA tx (i + 4)) := by
  unfold wm
  rw [Bool.and_eq_true, List.all_eq_true]
  constructor
  · rintro ⟨h1, h2⟩
    have e0 := h1 0 (List.mem_range.mpr (Nat.le_of_ble_eq_true rfl))
    have e1 := h1 1 (List.mem_range.mpr (Nat.le_of_ble_eq_true rfl))
    have e2 := h1 2 (List.mem_range.mpr (Nat.le_of_ble_eq_true rfl))
    have e3 := h1 3 (List.mem_range.mpr (Nat.le_of_ble_eq_true rfl))
    simp only [decide_eq_true_eq] at e0 e1 e2 e3
    refine ⟨e0, e1, e2, e3, ?_⟩
    rw [Bool.not_eq_true', decide_eq_false_iff_not] at h2
    exact h2
  · rintro ⟨e0, e1, e2, e3, h2⟩
    refine ⟨fun j hj => ?_, by rw [Bool.not_eq_true', decide_eq_false_iff_not]; exact h2⟩
    have hj := List.mem_range.mp hj
    have hj : j < 4 := hj
    have : j = 0 ∨ j = 1 ∨ j = 2 ∨ j = 3 := by omega
    rcases this with rfl | rfl | rfl | rfl <;> simp only [decide_eq_true_eq]
    · exact e0
    · exact e1
    · exact e2
    · exact e3
theorem wm5 {tx : List Nat} {i a b c d e : Nat} : wm tx i [a, b, c, d, e] = true ↔ chA tx i = a ∧ chA tx (i + 1) = b ∧ chA tx (i + 2) = c ∧ chA tx (i + 3) = d ∧ chA tx (i + 4) = e ∧ ¬ isL (chA tx (i + 5)) := by
  unfold wm
  rw [Bool.and_eq_true, List.all_eq_true]
  constructor
  · rintro ⟨h1, h2⟩
    have e0 := h1 0 (List.mem_range.mpr (Nat.le_of_ble_eq_true rfl))
    have e1 := h1 1 (List.mem_range.mpr (Nat.le_of_ble_eq_true rfl))
    have e2 := h1 2 (List.mem_range.mpr (Nat.le_of_ble_eq_true rfl))
    have e3 := h1 3 (List.mem_range.mpr (Nat.le_of_ble_eq_true rfl))
    have e4 := h1 4 (List.mem_range.mpr (Nat.le_of_ble_eq_true rfl))
    simp only [decide_eq_true_eq] at e0 e1 e2 e3 e4
    refine ⟨e0, e1, e2, e3, e4, ?_⟩
    rw [Bool.not_eq_true', decide_eq_false_iff_not] at h2
    exact h2
  · rintro ⟨e0, e1, e2, e3, e4, h2⟩
    refine ⟨fun j hj => ?_, by rw [Bool.not_eq_true', decide_eq_false_iff_not]; exact h2⟩
    have hj := List.mem_range.mp hj
    have hj : j < 5 := hj
    have : j = 0 ∨ j = 1 ∨ j = 2 ∨ j = 3 ∨ j = 4 := by omega
    rcases this with rfl | rfl | rfl | rfl | rfl <;> simp only [decide_eq_true_eq]
    · exact e0
    · exact e1
    · exact e2
    · exact e3
    · exact e4
theorem cmdZ_no {z : Int} (h : z ≠ 215205 ∧ z ≠ 398548 ∧ z ≠ 19176724 ∧ z ≠ 87630 ∧ z ≠ 442053 ∧ z ≠ 525939) : cmdZ z = -1 := by
  unfold cmdZ
  rw [if_neg h.1, if_neg h.2.1, if_neg h.2.2.1, if_neg h.2.2.2.1, if_neg h.2.2.2.2.1, if_neg h.2.2.2.2.2]
theorem wrd_no {tx : List Nat} {i : Nat} (h0 : ¬ (chA tx i = 102 ∧ chA tx (i + 1) = 114 ∧ chA tx (i + 2) = 101 ∧ chA tx (i + 3) = 101 ∧ ¬ isL (chA tx (i + 4)))) (h1 : ¬ (chA tx i = 108 ∧ chA tx (i + 1) = 101 ∧ chA tx (i + 2) = 102 ∧ chA tx (i + 3) = 116 ∧ ¬ isL (chA tx (i + 4)))) (h2 : ¬ (chA tx i = 114 ∧ chA tx (i + 1) = 105 ∧ chA tx (i + 2) = 103 ∧ chA tx (i + 3) = 104 ∧ chA tx (i + 4) = 116 ∧ ¬ isL (chA tx (i + 5)))) (h3 : ¬ (chA tx i = 98 ∧ chA tx (i + 1) = 117 ∧ chA tx (i + 2) = 114 ∧ chA tx (i + 3) = 110 ∧ ¬ isL (chA tx (i + 4)))) (h4 : ¬ (chA tx i = 109 ∧ chA tx (i + 1) = 111 ∧ chA tx (i + 2) = 118 ∧ chA tx (i + 3) = 101 ∧ ¬ isL (chA tx (i + 4)))) (h5 : ¬ (chA tx i = 112 ∧ chA tx (i + 1) = 97 ∧ chA tx (i + 2) = 115 ∧ chA tx (i + 3) = 115 ∧ ¬ isL (chA tx (i + 4)))) : wrd tx i = none := by
  unfold wrd
  simp only [wm4, wm5]
  rw [if_neg h0, if_neg h1, if_neg h2, if_neg h3, if_neg h4, if_neg h5]
theorem wrd_y0 {tx : List Nat} {i : Nat} (h : chA tx i = 102 ∧ chA tx (i + 1) = 114 ∧ chA tx (i + 2) = 101 ∧ chA tx (i + 3) = 101 ∧ ¬ isL (chA tx (i + 4))) : wrd tx i = some (0, 4) := by
  unfold wrd
  simp only [wm4, wm5]
  rw [if_pos h]
theorem wrd_y1 {tx : List Nat} {i : Nat} (h : chA tx i = 108 ∧ chA tx (i + 1) = 101 ∧ chA tx (i + 2) = 102 ∧ chA tx (i + 3) = 116 ∧ ¬ isL (chA tx (i + 4))) : wrd tx i = some (1, 4) := by
  unfold wrd
  simp only [wm4, wm5]
  rw [if_neg (by omega), if_pos h]
theorem wrd_y2 {tx : List Nat} {i : Nat} (h : chA tx i = 114 ∧ chA tx (i + 1) = 105 ∧ chA tx (i + 2) = 103 ∧ chA tx (i + 3) = 104 ∧ chA tx (i + 4) = 116 ∧ ¬ isL (chA tx (i + 5))) : wrd tx i = some (2, 5) := by
  unfold wrd
  simp only [wm4, wm5]
  rw [if_neg (by omega), if_neg (by omega), if_pos h]
theorem wrd_y3 {tx : List Nat} {i : Nat} (h : chA tx i = 98 ∧ chA tx (i + 1) = 117 ∧ chA tx (i + 2) = 114 ∧ chA tx (i + 3) = 110 ∧ ¬ isL (chA tx (i + 4))) : wrd tx i = some (3, 4) := by
  unfold wrd
  simp only [wm4, wm5]
  rw [if_neg (by omega), if_neg (by omega), if_neg (by omega), if_pos h]
theorem wrd_y4 {tx : List Nat} {i : Nat} (h : chA tx i = 109 ∧ chA tx (i + 1) = 111 ∧ chA tx (i + 2) = 118 ∧ chA tx (i + 3) = 101 ∧ ¬ isL (chA tx (i + 4))) : wrd tx i = some (4, 4) := by
  unfold wrd
  simp only [wm4, wm5]
  rw [if_neg (by omega), if_neg (by omega), if_neg (by omega), if_neg (by omega), if_pos h]
theorem wrd_y5 {tx : List Nat} {i : Nat} (h : chA tx i = 112 ∧ chA tx (i + 1) = 97 ∧ chA tx (i + 2) = 115 ∧ chA tx (i + 3) = 115 ∧ ¬ isL (chA tx (i + 4))) : wrd tx i = some (5, 4) := by
  unfold wrd
  simp only [wm4, wm5]
  rw [if_neg (by omega), if_neg (by omega), if_neg (by omega), if_neg (by omega), if_neg (by omega), if_pos h]
theorem wrd_run {tx : List Nat} {i m : Nat} (h : runP tx i m) : (cmdZ (if m ≤ 5 then (pkL tx i m : Int) else 0) = -1 ∧ wrd tx i = none) ∨ ∃ w : Nat, cmdZ (if m ≤ 5 then (pkL tx i m : Int) else 0) = (w : Int) ∧ wrd tx i = some (w, m) ∧ w ≤ 5 := by
  obtain ⟨h1, h2⟩ := h
  rcases Nat.lt_or_ge 5 m with q | q
  · have e4 := h1 4 (by omega)
    have e5 := h1 5 (by omega)
    left
    rw [if_neg (by omega)]
    exact ⟨rfl, wrd_no (fun q => q.2.2.2.2 e4) (fun q => q.2.2.2.2 e4) (fun q => q.2.2.2.2.2 e5) (fun q => q.2.2.2.2 e4) (fun q => q.2.2.2.2 e4) (fun q => q.2.2.2.2 e4)⟩
  · rw [if_pos q]
    have hm6 : m = 0 ∨ m = 1 ∨ m = 2 ∨ m = 3 ∨ m = 4 ∨ m = 5 := by omega
    rcases hm6 with rfl | rfl | rfl | rfl | rfl | rfl
    · left
      have h2 : ¬ isL (chA tx i) := h2
      refine ⟨cmdZ_no ?_, wrd_no (by omega) (by omega) (by omega) (by omega) (by omega) (by omega)⟩
      simp only [pkL, Nat.add_zero]
      omega
    · left
      have d0 : isL (chA tx i) := h1 0 (by omega)
      refine ⟨cmdZ_no ?_, wrd_no (by omega) (by omega) (by omega) (by omega) (by omega) (by omega)⟩
      simp only [pkL, Nat.add_zero]
      omega
    · left
      have d0 : isL (chA tx i) := h1 0 (by omega)
      have d1 : isL (chA tx (i + 1)) := h1 1 (by omega)
      refine ⟨cmdZ_no ?_, wrd_no (by omega) (by omega) (by omega) (by omega) (by omega) (by omega)⟩
      simp only [pkL, Nat.add_zero]
      omega
    · left
      have d0 : isL (chA tx i) := h1 0 (by omega)
      have d1 : isL (chA tx (i + 1)) := h1 1 (by omega)
      have d2 : isL (chA tx (i + 2)) := h1 2 (by omega)
      refine ⟨cmdZ_no ?_, wrd_no (by omega) (by omega) (by omega) (by omega) (by omega) (by omega)⟩
      simp only [pkL, Nat.add_zero]
      omega
    · have h2 := h2
      have d0 : isL (chA tx i) := h1 0 (by omega)
      have d1 : isL (chA tx (i + 1)) := h1 1 (by omega)
      have d2 : isL (chA tx (i + 2)) := h1 2 (by omega)
      have d3 : isL (chA tx (i + 3)) := h1 3 (by omega)
      by_cases q0 : chA tx i = 102 ∧ chA tx (i + 1) = 114 ∧ chA tx (i + 2) = 101 ∧ chA tx (i + 3) = 101
      · right
        refine ⟨0, ?_, wrd_y0 ⟨q0.1, q0.2.1, q0.2.2.1, q0.2.2.2, h2⟩, by omega⟩
        have ez : (pkL tx i 4 : Int) = 215205 := by simp only [pkL, Nat.add_zero]; omega
        rw [ez]; rfl
      by_cases q1 : chA tx i = 108 ∧ chA tx (i + 1) = 101 ∧ chA tx (i + 2) = 102 ∧ chA tx (i + 3) = 116
      · right
        refine ⟨1, ?_, wrd_y1 ⟨q1.1, q1.2.1, q1.2.2.1, q1.2.2.2, h2⟩, by omega⟩
        have ez : (pkL tx i 4 : Int) = 398548 := by simp only [pkL, Nat.add_zero]; omega
        rw [ez]; rfl
      by_cases q3 : chA tx i = 98 ∧ chA tx (i + 1) = 117 ∧ chA tx (i + 2) = 114 ∧ chA tx (i + 3) = 110
      · right
        refine ⟨3, ?_, wrd_y3 ⟨q3.1, q3.2.1, q3.2.2.1, q3.2.2.2, h2⟩, by omega⟩
        have ez : (pkL tx i 4 : Int) = 87630 := by simp only [pkL, Nat.add_zero]; omega
        rw [ez]; rfl
      by_cases q4 : chA tx i = 109 ∧ chA tx (i + 1) = 111 ∧ chA tx (i + 2) = 118 ∧ chA tx (i + 3) = 101
      · right
        refine ⟨4, ?_, wrd_y4 ⟨q4.1, q4.2.1, q4.2.2.1, q4.2.2.2, h2⟩, by omega⟩
        have ez : (pkL tx i 4 : Int) = 442053 := by simp only [pkL, Nat.add_zero]; omega
        rw [ez]; rfl
      by_cases q5 : chA tx i = 112 ∧ chA tx (i + 1) = 97 ∧ chA tx (i + 2) = 115 ∧ chA tx (i + 3) = 115
      · right
        refine ⟨5, ?_, wrd_y5 ⟨q5.1, q5.2.1, q5.2.2.1, q5.2.2.2, h2⟩, by omega⟩
        have ez : (pkL tx i 4 : Int) = 525939 := by simp only [pkL, Nat.add_zero]; omega
        rw [ez]; rfl
      left
      refine ⟨cmdZ_no ?_, wrd_no (fun q => q0 ⟨q.1, q.2.1, q.2.2.1, q.2.2.2.1⟩) (fun q => q1 ⟨q.1, q.2.1, q.2.2.1, q.2.2.2.1⟩) (fun q => h2 (by have := q.2.2.2.2.1; omega)) (fun q => q3 ⟨q.1, q.2.1, q.2.2.1, q.2.2.2.1⟩) (fun q => q4 ⟨q.1, q.2.1, q.2.2.1, q.2.2.2.1⟩) (fun q => q5 ⟨q.1, q.2.1, q.2.2.1, q.2.2.2.1⟩)⟩
      simp only [pkL, Nat.add_zero]
      omega
    · have h2 := h2
      have d0 : isL (chA tx i) := h1 0 (by omega)
      have d1 : isL (chA tx (i + 1)) := h1 1 (by omega)
      have d2 : isL (chA tx (i + 2)) := h1 2 (by omega)
      have d3 : isL (chA tx (i + 3)) := h1 3 (by omega)
      have d4 : isL (chA tx (i + 4)) := h1 4 (by omega)
      by_cases q2 : chA tx i = 114 ∧ chA tx (i + 1) = 105 ∧ chA tx (i + 2) = 103 ∧ chA tx (i + 3) = 104 ∧ chA tx (i + 4) = 116
      · right
        refine ⟨2, ?_, wrd_y2 ⟨q2.1, q2.2.1, q2.2.2.1, q2.2.2.2.1, q2.2.2.2.2, h2⟩, by omega⟩
        have ez : (pkL tx i 5 : Int) = 19176724 := by simp only [pkL, Nat.add_zero]; omega
        rw [ez]; rfl
      left
      refine ⟨cmdZ_no ?_, wrd_no (fun q => q.2.2.2.2 d4) (fun q => q.2.2.2.2 d4) (fun q => q2 ⟨q.1, q.2.1, q.2.2.1, q.2.2.2.1, q.2.2.2.2.1⟩) (fun q => q.2.2.2.2 d4) (fun q => q.2.2.2.2 d4) (fun q => q.2.2.2.2 d4)⟩
      simp only [pkL, Nat.add_zero]
      omega

