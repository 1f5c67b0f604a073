/-! the reference: values -/
theorem cntZ_sub {f g : Nat → Int} {z : Int} : ∀ {n : Nat}, (∀ k, k < n → f k = z → g k = z) → cntZ f z n ≤ cntZ g z n
  | 0, _ => Nat.le_refl _
  | n + 1, h => by
    have ih := cntZ_sub (f := f) (g := g) (z := z) (n := n) (fun k hk => h k (by omega))
    have h1 := h n (by omega)
    rw [cntZ, cntZ]
    by_cases q : f n = z
    · rw [if_pos q, if_pos (h1 q)]; omega
    · rw [if_neg q]; omega
theorem alnB_c3 {r B : Nat → Int} {root : Int} {n : Nat} (hB : mBd B n) (hc : mC3 B n) : mC3 (bdP (cod (alnB r B root) n)) n := by
  have hA := alnB_bd (r := r) (root := root) hB
  have key : ∀ v : Int, v ≠ 3 → ∀ k, k < n → bdP (cod (alnB r B root) n) k = v → B k = v := by
    intro v hv k hk e
    rw [bdP_cod hA hk] at e
    unfold alnB at e
    split at e
    · omega
    · exact e
  exact ⟨Nat.le_trans (cntZ_sub (key 1 (by omega))) hc.1, Nat.le_trans (cntZ_sub (key 2 (by omega))) hc.2⟩
theorem alnB_m1 (r B : Nat → Int) : alnB r B (-1) = B := by
  funext k
  unfold alnB
  rw [if_neg (by omega)]
/-- the reference's table of kept values -/
def mKp (S : gS) (kp : List (Nat × Nat)) : Prop := S 53 0 = (kp.length : Int) ∧ kp.length ≤ 40 ∧ (∀ (i : Nat) (e : Nat × Nat), kp[i]? = some e → S 64 i = (e.1 : Int) ∧ S 65 i = (e.2 : Int)) ∧ ∀ e ∈ kp, e.1 < 1073741824 ∧ e.2 ≤ 16
theorem mKp.x {vs : List Nat} {S S1 : gS} {kp : List (Nat × Nat)} (hh : mKp S kp) (he : Eqx vs S S1) (h1 : vs.contains 53 = false) (h2 : vs.contains 64 = false) (h3 : vs.contains 65 = false) : mKp S1 kp :=
  ⟨(he 53 0 h1).trans hh.1, hh.2.1, fun i e hi => ⟨(he 64 i h2).trans (hh.2.2.1 i e hi).1, (he 65 i h3).trans (hh.2.2.1 i e hi).2⟩, hh.2.2.2⟩
def kfind : List (Nat × Nat) → Nat → Option Nat
  | [], _ => none
  | e :: r, c => if e.1 = c then some e.2 else kfind r c
theorem kfind_drop {c : Nat} : ∀ {kp : List (Nat × Nat)} {i : Nat} {e : Nat × Nat}, (∀ (j : Nat) (x : Nat × Nat), j < i → kp[j]? = some x → x.1 ≠ c) → kp[i]? = some e → e.1 = c → kfind kp c = some e.2
  | [], i, e, _, h, _ => by simp at h
  | x :: kp, i, e, hn, h, he => by
    rw [kfind]
    cases i with
    | zero =>
      simp at h
      rw [h, if_pos he]
    | succ i =>
      rw [if_neg (hn 0 x (by omega) (by simp))]
      exact kfind_drop (fun j y hj hy => hn (j + 1) y (Nat.succ_lt_succ hj) (by simpa using hy)) (by simpa using h) he
theorem kfind_no {c : Nat} : ∀ {kp : List (Nat × Nat)}, (∀ (j : Nat) (x : Nat × Nat), kp[j]? = some x → x.1 ≠ c) → kfind kp c = none
  | [], _ => rfl
  | x :: kp, hn => by
    rw [kfind, if_neg (hn 0 x (by simp))]
    exact kfind_no (fun j y hy => hn (j + 1) y (by simpa using hy))
def kpush (kp : List (Nat × Nat)) (e : Nat × Nat) : List (Nat × Nat) := (if kp.length = 40 then [] else kp) ++ [e]
/-- a value asked for: answer, table, hits -/
def askV (w n : Nat) (r B : Nat → Int) (kp : List (Nat × Nat)) (root : Int) : Int × List (Nat × Nat) × Int :=
  if kindF r B n root = 0 then (0, kp, 0) else
  match kfind kp (cod (alnB r B root) n) with
  | some v => ((v : Int), kp, 1)
  | none => match bfs (scP w n false) 1501 0 [cod (alnB r B root) n + 1073741824 * ((kindF r B n root).toNat - 1)] with
    | none => (-1004, kp, 0)
    | some _ => (((GV w n false (cod (alnB r B root) n + 1073741824 * ((kindF r B n root).toNat - 1))).2 : Int), kpush kp (cod (alnB r B root) n, (GV w n false (cod (alnB r B root) n + 1073741824 * ((kindF r B n root).toNat - 1))).2), 0)
theorem bfs_ok0 {w h n p0 : Nat} {alt : Bool} (hg : gOK w h n) (hp : vP n p0) {L : List Nat} (hb : bfs (scP w n alt) 1501 0 [p0] = some L) : bOK (scP w n alt) (vP n) L ∧ L[0]? = some p0 := by
  refine ⟨bfs_ok (rk := bcP n) (Q := vP n) (fun p hp c hc => ⟨vP_nx hg hp c hc, bcP_nx hg c hc⟩) rfl (bI_0 hp) hb, ?_⟩
  obtain ⟨N, hN⟩ := bfs_pre (by simp) (by simp) hb
  rw [hN]; rfl
theorem vP_start {n c s : Nat} (hn : n ≤ 15) (hc : c < 1073741824) (hC : mC3 (bdP c) n) (hs : s = 1 ∨ s = 2) : vP n (c + 1073741824 * (s - 1)) := ⟨by omega, by rw [cntZ_cong (fun k hk => bdP_side (by omega))]; exact hC.1, by rw [cntZ_cong (fun k hk => bdP_side (by omega))]; exact hC.2⟩
theorem mRg.x {vs : List Nat} {S S1 : gS} {w n : Nat} (hh : mRg S w n) (he : Eqx vs S S1) (h1 : vs.contains 61 = false) (h2 : vs.contains 72 = false) : mRg S1 w n := by
  have e : S1 61 = S 61 := funext fun j => he 61 j h1
  intro f hf
  rw [he 72 f h2, e]
  exact hh f hf
theorem askV_bd {w n : Nat} {r B : Nat → Int} {kp : List (Nat × Nat)} {root : Int} (hn : n ≤ 15) (hk : ∀ e ∈ kp, e.1 < 1073741824 ∧ e.2 ≤ 16) : ((askV w n r B kp root).1 = -1004 ∨ (0 ≤ (askV w n r B kp root).1 ∧ (askV w n r B kp root).1 ≤ 16)) := by
  unfold askV
  split
  · right; simp
  · split
    · rename_i v hv
      right
      have : ∀ (kp : List (Nat × Nat)), (∀ e ∈ kp, e.1 < 1073741824 ∧ e.2 ≤ 16) → kfind kp (cod (alnB r B root) n) = some v → v ≤ 16 := by
        intro kp
        induction kp with
        | nil => intro _ h; cases h
        | cons e kp ih =>
          intro h1 h2
          rw [kfind] at h2
          split at h2
          · cases h2; exact (h1 e List.mem_cons_self).2
          · exact ih (fun x hx => h1 x (List.mem_cons_of_mem _ hx)) h2
      have := this kp hk hv
      show 0 ≤ (v : Int) ∧ (v : Int) ≤ 16
      omega
    · split
      · left; rfl
      · right
        have := GV_b (w := w) (n := n) (alt := false) (p := cod (alnB r B root) n + 1073741824 * ((kindF r B n root).toNat - 1))
        constructor
        · exact Int.natCast_nonneg _
        · show ((GV w n false (cod (alnB r B root) n + 1073741824 * ((kindF r B n root).toNat - 1))).2 : Int) ≤ 16
          omega
/-- value(i): answer, table, hits -/
def aValue (w n : Nat) (r B : Nat → Int) (kp : List (Nat × Nat)) (i : Int) : Int × List (Nat × Nat) × Int := if aLow r n i < 0 then (-1001, kp, 0) else if kindF r B n (aLow r n i) = 3 then (-1002, kp, 0) else askV w n r B kp (aLow r n i)
def leadL (w n : Nat) (r B : Nat → Int) : List Nat → Int → List (Nat × Nat) → Int → Int × List (Nat × Nat) × Int
  | [], sum, kp, hh => (sum, kp, hh)
  | k :: rs, sum, kp, hh => if (askV w n r B kp k).1 < 0 then (-1004, (askV w n r B kp k).2.1, hh + (askV w n r B kp k).2.2) else leadL w n r B rs (sum + (if kindF r B n k = 1 then (askV w n r B kp k).1 else -(askV w n r B kp k).1)) (askV w n r B kp k).2.1 (hh + (askV w n r B kp k).2.2)
def aLead (w n : Nat) (r B : Nat → Int) (kp : List (Nat × Nat)) : Int × List (Nat × Nat) × Int := if (rts r n).any (fun k => decide (kindF r B n k = 3)) = true then (-1002, kp, 0) else leadL w n r B (rts r n) 0 kp 0
