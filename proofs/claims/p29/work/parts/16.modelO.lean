/-! the reference: the play -/
def WR (w n : Nat) (S : gS) (L : List Nat) : Prop := ∀ (i p : Nat), L[i]? = some p → S 69 i = b2i (GV w n true p).1 ∧ S 70 i = ((GV w n true p).2 : Int)
def winF (w n c s : Nat) : Int := match bfs (scP w n true) 1501 0 [c + 1073741824 * (s - 1)] with | none => -1004 | some _ => b2i (GV w n true (c + 1073741824 * (s - 1))).1
theorem winF_bd {w n c s : Nat} : winF w n c s = -1004 ∨ winF w n c s = 0 ∨ winF w n c s = 1 := by
  unfold winF
  split
  · left; rfl
  · right; exact b2i_01 _
theorem cod_c3 {B : Nat → Int} {n : Nat} (hB : mBd B n) (hc : mC3 B n) : mC3 (bdP (cod B n)) n := by
  have := alnB_c3 (r := B) (root := -1) hB hc
  rw [alnB_m1] at this
  exact this
def stP (n : Nat) (B : Nat → Int) (s : Nat) : Nat := cod B n + 1073741824 * (s - 1)
def aPos (w n : Nat) (B : Nat → Int) (s : Int) : Int := if s = 1 ∨ s = 2 then (match bfs (scP w n true) 1501 0 [stP n B s.toNat] with | none => -1004 | some L => (L.length : Int)) else -1001
def aWins (w n : Nat) (B : Nat → Int) (s : Int) : Int := if s = 1 ∨ s = 2 then winF w n (cod B n) s.toNat else -1001
def aOut (w n c : Nat) : Int := if winF w n c 1 < 0 ∨ winF w n c 2 < 0 then -1004 else if winF w n c 1 = 1 then (if winF w n c 2 = 1 then 2 else 0) else (if winF w n c 2 = 1 then 1 else 3)
def aOutOf (w n : Nat) (r B : Nat → Int) (i : Int) : Int := if aLow r n i < 0 then -1001 else aOut w n (cod (alnB r B (aLow r n i)) n)
def ffl {α : Type} (P : α → Bool) : List α → Int → Int
  | [], _ => -1005
  | q :: r, k => if P q = true then k else ffl P r (k + 1)
def aBest (w n : Nat) (B : Nat → Int) (s : Int) : Int := if s = 1 ∨ s = 2 then (match bfs (scP w n true) 1501 0 [stP n B s.toNat] with | none => -1004 | some _ => ffl (fun q => !(GV w n true (nxP n true (stP n B s.toNat) q)).1) (mvs w n B s) 0) else -1001
theorem stP_bd {n : Nat} {B : Nat → Int} {s k : Nat} (hn : n ≤ 15) (hB : mBd B n) (hk : k < n) : bdP (stP n B s) k = B k := by
  unfold stP
  rw [bdP_side (by omega), bdP_cod hB hk]
theorem stP_sd {n : Nat} {B : Nat → Int} {s : Nat} (hn : n ≤ 15) (hB : mBd B n) (hs : s = 1 ∨ s = 2) : sdP (stP n B s) = s := by
  unfold stP
  rw [sdP_side (cod_lt30 hn hB) (by omega)]
  omega
def aLen (w n : Nat) (B : Nat → Int) (s : Int) : Int := if s = 1 ∨ s = 2 then (match bfs (scP w n true) 1501 0 [stP n B s.toNat] with | none => -1004 | some _ => ((GV w n true (stP n B s.toNat)).2 : Int)) else -1001
