/-! the reference: weighing -/
def qkF (alt : Bool) (q : Int) (v : Bool × Nat) : Int := if alt = true ∧ v.1 = false ∧ (q < 0 ∨ (v.2 : Int) + 1 < q) then (v.2 : Int) + 1 else q
def frF (m : Nat) (v : Bool × Nat) : Nat := if m < v.2 + 1 then v.2 + 1 else m
def gvl (alt : Bool) (vs : List (Bool × Nat)) : Bool × Nat := if 0 ≤ vs.foldl (qkF alt) (-1) then (true, (vs.foldl (qkF alt) (-1)).toNat) else (false, vs.foldl frF 0)
def gv (w n : Nat) (alt : Bool) : Nat → Nat → Bool × Nat
  | 0, _ => (false, 0)
  | f + 1, p => gvl alt ((scP w n alt p).map (gv w n alt f))
/-- who wins, and how long it takes; or the most moves of one side -/
def GV (w n : Nat) (alt : Bool) (p : Nat) : Bool × Nat := gv w n alt (n - bcP n p + 1) p
theorem GV_eq {w h n : Nat} (hg : gOK w h n) (alt : Bool) (p : Nat) : GV w n alt p = gvl alt ((scP w n alt p).map (GV w n alt)) := by
  unfold GV
  rw [gv]
  congr 1
  refine List.map_congr_left fun c hc => ?_
  have h1 := bcP_nx hg c hc
  have h2 : bcP n c ≤ n := cntZ_le _ _ _
  rw [show n - bcP n p = n - bcP n c + 1 by omega]
theorem qk_b {alt : Bool} {b : Nat} : ∀ (vs : List (Bool × Nat)) (q : Int), (∀ v ∈ vs, v.2 ≤ b) → -1 ≤ q → q ≤ b + 1 → -1 ≤ vs.foldl (qkF alt) q ∧ vs.foldl (qkF alt) q ≤ b + 1
  | [], q, _, h1, h2 => ⟨h1, h2⟩
  | v :: vs, q, h, h1, h2 => by
    have hv := h v List.mem_cons_self
    rw [List.foldl_cons]
    refine qk_b vs _ (fun x hx => h x (List.mem_cons_of_mem _ hx)) ?_ ?_
    · unfold qkF; split <;> omega
    · unfold qkF; split <;> omega
theorem fr_b {b : Nat} : ∀ (vs : List (Bool × Nat)) (m : Nat), (∀ v ∈ vs, v.2 ≤ b) → m ≤ b + 1 → vs.foldl frF m ≤ b + 1
  | [], m, _, h1 => h1
  | v :: vs, m, h, h1 => by
    have hv := h v List.mem_cons_self
    rw [List.foldl_cons]
    refine fr_b vs _ (fun x hx => h x (List.mem_cons_of_mem _ hx)) ?_
    unfold frF; split <;> omega
theorem gv_b {w n : Nat} {alt : Bool} : ∀ (f p : Nat), (gv w n alt f p).2 ≤ f
  | 0, p => Nat.le_refl _
  | f + 1, p => by
    rw [gv]
    have h : ∀ v ∈ (scP w n alt p).map (gv w n alt f), v.2 ≤ f := fun v hv => by
      obtain ⟨c, -, rfl⟩ := List.mem_map.mp hv
      exact gv_b f c
    unfold gvl
    split
    · have := (qk_b (alt := alt) _ (-1) h (by omega) (by omega)).2
      show ((List.map (gv w n alt f) (scP w n alt p)).foldl (qkF alt) (-1)).toNat ≤ f + 1
      omega
    · exact fr_b _ 0 h (by omega)
theorem GV_b {w n : Nat} {alt : Bool} {p : Nat} : (GV w n alt p).2 ≤ n + 1 := by
  unfold GV
  have := gv_b (w := w) (n := n) (alt := alt) (n - bcP n p + 1) p
  omega
def b2i (b : Bool) : Int := cond b 1 0
theorem b2i_01 (b : Bool) : b2i b = 0 ∨ b2i b = 1 := by cases b; exact Or.inl rfl; exact Or.inr rfl
