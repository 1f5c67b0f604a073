/-! the reference: zugzwangs -/
def colS (w n : Nat) (acc : List Nat) (p : Nat) : List Nat := if (GV w n true p).1 = false ∧ p ∉ acc then acc ++ [p] else acc
def mLo (S : gS) (Lo : List Nat) : Prop := S 57 0 = (Lo.length : Int) ∧ HL (fun p : Nat => (p : Int)) (S 71) Lo
theorem colS_in {w n : Nat} {acc : List Nat} {p x : Nat} (h : x ∈ colS w n acc p) : x ∈ acc ∨ x = p := by
  unfold colS at h
  split at h
  · rcases List.mem_append.mp h with z | z
    · exact Or.inl z
    · exact Or.inr (List.mem_singleton.mp z)
  · exact Or.inl h
theorem col_in {w n : Nat} : ∀ (L acc : List Nat) (x : Nat), x ∈ L.foldl (colS w n) acc → x ∈ acc ∨ x ∈ L
  | [], acc, x, h => Or.inl h
  | p :: L, acc, x, h => by
    rw [List.foldl_cons] at h
    rcases col_in L _ x h with z | z
    · rcases colS_in z with z | z
      · exact Or.inl z
      · exact Or.inr (by rw [z]; exact List.mem_cons_self)
    · exact Or.inr (List.mem_cons_of_mem _ z)
theorem colS_len (w n : Nat) (acc : List Nat) (p : Nat) : (colS w n acc p).length ≤ acc.length + 1 := by
  unfold colS; split
  · simp
  · omega
theorem col_len (w n : Nat) : ∀ (L acc : List Nat), (L.foldl (colS w n) acc).length ≤ acc.length + L.length
  | [], acc => Nat.le_refl _
  | p :: L, acc => by
    have h1 := col_len w n L (colS w n acc p)
    have h2 := colS_len w n acc p
    rw [List.foldl_cons, List.length_cons]
    omega
def zc (Lo : List Nat) (y : Nat) : Nat := Lo.countP (fun z => decide (z = y))
def zS (Lo : List Nat) (a x : Nat) : Nat := a + (if sdP x = 1 then zc Lo (x + 1073741824) else 0)
def zN (Lo : List Nat) : Nat := Lo.foldl (zS Lo) 0
def aZug (w n : Nat) (B : Nat → Int) : Int := match bfs (scP w n true) 1501 0 [stP n B 1] with
  | none => -1004
  | some L1 => match bfs (scP w n true) 1501 0 [stP n B 2] with
    | none => -1004
    | some L2 => (zN (L2.foldl (colS w n) (L1.foldl (colS w n) [])) : Int)
theorem gi_or30 {x : Nat} (h : x < 1073741824) : Int32.ofInt (x : Int) ||| Int32.ofInt 1073741824 = Int32.ofInt ((x + 1073741824 : Nat) : Int) := by
  have := gi_ors (a := x) (b := 1) (k := 30) (by omega)
  exact this
