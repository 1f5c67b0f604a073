/-! pure facts: rows, frames, geometry, moves -/
/-- z is 1 where p holds, else 0 -/
def isB (z : Int) (p : Prop) : Prop := (z = 1 ∧ p) ∨ (z = 0 ∧ ¬ p)
theorem isB_01 {z : Int} {p : Prop} (h : isB z p) : z = 0 ∨ z = 1 := by rcases h with ⟨h, -⟩ | ⟨h, -⟩ <;> simp [h]
theorem isB_iff {z : Int} {p q : Prop} (h : isB z p) (hpq : p ↔ q) : isB z q := by rcases h with ⟨h, g⟩ | ⟨h, g⟩; exact Or.inl ⟨h, hpq.mp g⟩; exact Or.inr ⟨h, fun k => g (hpq.mpr k)⟩
def setRow (S : gS) (v n : Nat) (f : Nat → Int) : gS := fun a j => cond (Nat.beq a v) (cond (Nat.blt j n) (f j) (S a j)) (S a j)
theorem setRow_in (S : gS) {v n j : Nat} (f : Nat → Int) (h : j < n) : setRow S v n f v j = f j := by
  have h1 : Nat.blt j n = true := by rw [Nat.blt_eq]; exact h
  have h2 : Nat.beq v v = true := by simp
  simp only [setRow, h1, h2, cond_true]
theorem setRow_j (S : gS) {v n j a : Nat} (f : Nat → Int) (h : n ≤ j) : setRow S v n f a j = S a j := by
  have h1 : Nat.blt j n = false := by cases q : Nat.blt j n with | false => rfl | true => rw [Nat.blt_eq] at q; omega
  simp only [setRow, h1, cond_false]
  cases Nat.beq a v <;> rfl
theorem setRow_v (S : gS) {v n j a : Nat} (f : Nat → Int) (h : a ≠ v) : setRow S v n f a j = S a j := by
  have h1 : Nat.beq a v = false := by cases q : Nat.beq a v with | false => rfl | true => exact absurd (Nat.eq_of_beq_eq_true q) h
  simp only [setRow, h1, cond_false]
theorem setRow_0 (S : gS) (v : Nat) (f : Nat → Int) : setRow S v 0 f = S := by
  funext a j; exact setRow_j S f (Nat.zero_le j)
theorem setRow_succ (S : gS) (v k : Nat) (f : Nat → Int) : upS (setRow S v k f) v k (f k) = setRow S v (k + 1) f := by
  funext a j
  by_cases ha : a = v
  · subst ha
    by_cases hj : j = k
    · subst hj; rw [upS_eq, setRow_in S f (Nat.lt_succ_self j)]
    · rw [upS_j _ _ hj]
      by_cases hk : j < k
      · rw [setRow_in S f hk, setRow_in S f (by omega)]
      · rw [setRow_j S f (by omega), setRow_j S f (by omega)]
  · rw [upS_v _ _ ha, setRow_v S f ha, setRow_v S f ha]
/-- all is as before but the variables named -/
def Eqx (vs : List Nat) (S S' : gS) : Prop := ∀ a j, vs.contains a = false → S' a j = S a j
theorem Eqx.rf {vs : List Nat} {S : gS} : Eqx vs S S := fun _ _ _ => rfl
theorem Eqx.tr {vs : List Nat} {S S1 S2 : gS} (h : Eqx vs S S1) (h2 : Eqx vs S1 S2) : Eqx vs S S2 := fun a j q => (h2 a j q).trans (h a j q)
theorem Eqx.mono {vs ws : List Nat} {S S1 : gS} (h : Eqx vs S S1) (hm : vs.all (fun v => ws.contains v) = true) : Eqx ws S S1 := fun a j q => h a j (by
  cases e : vs.contains a with
  | false => rfl
  | true =>
    have h1 := List.all_eq_true.mp hm a (by simpa using e)
    rw [h1] at q; cases q)
theorem Eqx.up {vs : List Nat} {S S1 : gS} {v j : Nat} {z : Int} (h : Eqx vs S S1) (hv : vs.contains v = true) : Eqx vs S (upS S1 v j z) := fun a i q => by
  rw [upS_v S1 z (fun e => by rw [e, hv] at q; cases q)]; exact h a i q
theorem Eqx.row {vs : List Nat} {S S1 : gS} {v n : Nat} {f : Nat → Int} (h : Eqx vs S S1) (hv : vs.contains v = true) : Eqx vs S (setRow S1 v n f) := fun a i q => by
  rw [setRow_v S1 f (fun e => by rw [e, hv] at q; cases q)]; exact h a i q
/-- how many of the first n places of a row hold z -/
def cntZ (f : Nat → Int) (z : Int) : Nat → Nat
  | 0 => 0
  | n + 1 => cntZ f z n + (if f n = z then 1 else 0)
theorem cntZ_le (f : Nat → Int) (z : Int) : ∀ n, cntZ f z n ≤ n
  | 0 => Nat.le_refl _
  | n + 1 => by
    have := cntZ_le f z n
    rw [cntZ]; split <;> omega
theorem cntZ_cong {f g : Nat → Int} {z : Int} : ∀ {n : Nat}, (∀ k, k < n → f k = g k) → cntZ f z n = cntZ g z n
  | 0, _ => rfl
  | n + 1, h => by rw [cntZ, cntZ, cntZ_cong (fun k hk => h k (by omega)), h n (by omega)]
theorem cntZ_mono (f : Nat → Int) (z : Int) {m : Nat} : ∀ {n : Nat}, m ≤ n → cntZ f z m ≤ cntZ f z n
  | 0, h => by have : m = 0 := by omega
               subst this; exact Nat.le_refl _
  | n + 1, h => by
    rcases Nat.lt_or_ge n m with q | q
    · have : m = n + 1 := by omega
      subst this; exact Nat.le_refl _
    · have h1 := cntZ_mono f z q
      have h2 : cntZ f z (n + 1) = cntZ f z n + (if f n = z then 1 else 0) := rfl
      omega
/-! geometry -/
def sgz (z : Int) : Int := if 0 < z then 1 else if z < 0 then -1 else 0
def gdx (w a b : Nat) : Int := ((b % w : Nat) : Int) - ((a % w : Nat) : Int)
def gdy (w a b : Nat) : Int := ((b / w : Nat) : Int) - ((a / w : Nat) : Int)
def gdl (w a b : Nat) : Int := sgz (gdx w a b) + (w : Int) * sgz (gdy w a b)
def gm (w a b : Nat) : Nat := max (gdx w a b).natAbs (gdy w a b).natAbs
def galg (w a b : Nat) : Bool := decide (a ≠ b) && (decide (gdx w a b = 0) || decide (gdy w a b = 0) || decide (gdx w a b * sgz (gdx w a b) = gdy w a b * sgz (gdy w a b)))
def gst (w a b i : Nat) : Nat := ((a : Int) + (i : Int) * gdl w a b).toNat
def seenB (w : Nat) (F : Nat → Bool) (a b : Nat) : Bool := galg w a b && (List.range (gm w a b)).all fun i => F (gst w a b (i + 1))
def gOK (w h n : Nat) : Prop := 1 ≤ w ∧ w ≤ 5 ∧ 1 ≤ h ∧ h ≤ 5 ∧ w * h = n ∧ n ≤ 15
def gchk1 (w h : Nat) : Bool := (List.range (w * h)).all fun a => (List.range (w * h)).all fun b => !galg w a b || (decide (1 ≤ gm w a b) && (List.range (gm w a b + 1)).all fun i => decide (0 ≤ (a : Int) + (i : Int) * gdl w a b) && decide ((a : Int) + (i : Int) * gdl w a b < ((w * h : Nat) : Int)) && (decide ((a : Int) + (i : Int) * gdl w a b = (b : Int)) == decide (i = gm w a b)))
def gall (P : Nat → Nat → Bool) : Bool := (List.range 5).all fun w => (List.range 5).all fun h => decide (15 < (w + 1) * (h + 1)) || P (w + 1) (h + 1)
theorem gall_use {P : Nat → Nat → Bool} (hP : gall P = true) {w h n : Nat} (hg : gOK w h n) : P w h = true := by
  obtain ⟨h1, h2, h3, h4, h5, h6⟩ := hg
  have q := List.all_eq_true.mp (List.all_eq_true.mp hP (w - 1) (List.mem_range.mpr (by omega))) (h - 1) (List.mem_range.mpr (by omega))
  rw [show w - 1 + 1 = w by omega, show h - 1 + 1 = h by omega, h5] at q
  simp only [Bool.or_eq_true, decide_eq_true_eq] at q
  rcases q with q | q
  · omega
  · exact q
theorem gchk1_ok : gall gchk1 = true := by decide +kernel
theorem gst_ok {w h n a b : Nat} (hg : gOK w h n) (ha : a < n) (hb : b < n) (hal : galg w a b = true) : 1 ≤ gm w a b ∧ ∀ i, i ≤ gm w a b → ((gst w a b i : Nat) : Int) = (a : Int) + (i : Int) * gdl w a b ∧ gst w a b i < n ∧ (gst w a b i = b ↔ i = gm w a b) := by
  have q := gall_use gchk1_ok hg
  unfold gchk1 at q
  rw [hg.2.2.2.2.1] at q
  have q2 := List.all_eq_true.mp (List.all_eq_true.mp q a (List.mem_range.mpr ha)) b (List.mem_range.mpr hb)
  rw [hal] at q2
  simp only [Bool.not_true, Bool.false_or, Bool.and_eq_true, decide_eq_true_eq, List.all_eq_true, List.mem_range, beq_iff_eq] at q2
  refine ⟨q2.1, fun i hi => ?_⟩
  obtain ⟨⟨z1, z2⟩, z3⟩ := q2.2 i (by omega)
  have e : ((gst w a b i : Nat) : Int) = (a : Int) + (i : Int) * gdl w a b := Int.toNat_of_nonneg z1
  refine ⟨e, by omega, ?_⟩
  rw [decide_eq_decide] at z3
  constructor
  · intro h1; exact z3.mp (by rw [← e, h1])
  · intro h1
    have := z3.mpr h1
    omega
theorem gst_0 (w a b : Nat) : gst w a b 0 = a := by simp [gst]
theorem gst_step {w h n a b i : Nat} (hg : gOK w h n) (ha : a < n) (hb : b < n) (hal : galg w a b = true) (hi : i < gm w a b) : ((gst w a b i : Nat) : Int) + (sgz (gdx w a b) + (w : Int) * sgz (gdy w a b)) = ((gst w a b (i + 1) : Nat) : Int) := by
  have h1 := ((gst_ok hg ha hb hal).2 i (by omega)).1
  have h2 := ((gst_ok hg ha hb hal).2 (i + 1) (by omega)).1
  rw [h1, h2]
  show (a : Int) + (i : Int) * gdl w a b + gdl w a b = (a : Int) + ((i + 1 : Nat) : Int) * gdl w a b
  have e : ((i + 1 : Nat) : Int) * gdl w a b = (i : Int) * gdl w a b + gdl w a b := by
    rw [Int.natCast_succ, Int.add_mul, Int.one_mul]
  omega
theorem gdx_b {w a b : Nat} (h : 1 ≤ w) (h5 : w ≤ 5) : -4 ≤ gdx w a b ∧ gdx w a b ≤ 4 := by
  have h1 := Nat.mod_lt a (show 0 < w by omega)
  have h2 := Nat.mod_lt b (show 0 < w by omega)
  unfold gdx; omega
theorem gdy_b {w h n a b : Nat} (hg : gOK w h n) (ha : a < n) (hb : b < n) : -4 ≤ gdy w a b ∧ gdy w a b ≤ 4 := by
  obtain ⟨h1, h2, h3, h4, h5, h6⟩ := hg
  have g1 : a / w < h := Nat.div_lt_of_lt_mul (by omega)
  have g2 : b / w < h := Nat.div_lt_of_lt_mul (by omega)
  unfold gdy
  generalize a / w = y1 at *
  generalize b / w = y2 at *
  omega
theorem sgz_b (z : Int) : -1 ≤ sgz z ∧ sgz z ≤ 1 := by unfold sgz; split <;> (try split) <;> omega
theorem sgz_m {z : Int} (h : -4 ≤ z ∧ z ≤ 4) : 0 ≤ z * sgz z ∧ z * sgz z ≤ 4 := by
  unfold sgz
  split
  · omega
  · split <;> omega
theorem galg_iff {w a b : Nat} : galg w a b = true ↔ a ≠ b ∧ (gdx w a b = 0 ∨ gdy w a b = 0 ∨ gdx w a b * sgz (gdx w a b) = gdy w a b * sgz (gdy w a b)) := by
  simp only [galg, Bool.and_eq_true, Bool.or_eq_true, decide_eq_true_eq, or_assoc]
theorem seenB_self (w : Nat) (F : Nat → Bool) (a : Nat) : seenB w F a a = false := by
  have : galg w a a = false := by simp [galg]
  simp [seenB, this]
theorem seenB_cong {w h n a b : Nat} {F G : Nat → Bool} (hg : gOK w h n) (ha : a < n) (hb : b < n) (hF : ∀ f, f < n → F f = G f) : seenB w F a b = seenB w G a b := by
  unfold seenB
  cases hal : galg w a b with
  | false => rfl
  | true =>
    simp only [Bool.true_and]
    rw [Bool.eq_iff_iff, List.all_eq_true, List.all_eq_true]
    constructor
    · intro q i hi
      rw [← hF _ ((gst_ok hg ha hb hal).2 (i + 1) (by have := List.mem_range.mp hi; omega)).2.1]; exact q i hi
    · intro q i hi
      rw [hF _ ((gst_ok hg ha hb hal).2 (i + 1) (by have := List.mem_range.mp hi; omega)).2.1]; exact q i hi
/-! moves -/
def brB (B : Nat → Int) (a t : Nat) (s : Int) : Nat → Int := fun f => if f = t then s else if f = a then 0 else B f
def frB (B : Nat → Int) : Nat → Bool := fun f => decide (B f = 0)
def burns (w n : Nat) (B : Nat → Int) (s : Int) (a t : Nat) : List Nat := (List.range n).filter (seenB w (frB (brB B a t s)) t)
def mvT (w n : Nat) (B : Nat → Int) (s : Int) (a t : Nat) : List (Nat × Nat × Nat) := if seenB w (frB B) a t = true then (burns w n B s a t).map (fun u => (a, t, u)) else []
def mvA (w n : Nat) (B : Nat → Int) (s : Int) (a : Nat) : List (Nat × Nat × Nat) := if B a = s then (List.range n).flatMap (mvT w n B s a) else []
def mvs (w n : Nat) (B : Nat → Int) (s : Int) : List (Nat × Nat × Nat) := (List.range n).flatMap (mvA w n B s)
theorem flt_len (p : Nat → Bool) {x : Nat} (hx : p x = false) : ∀ n, ((List.range n).filter p).length ≤ if x < n then n - 1 else n
  | 0 => by simp
  | n + 1 => by
    have ih := flt_len p hx n
    rw [List.range_succ, List.filter_append, List.length_append]
    by_cases hn : x = n
    · subst hn
      have : ([x].filter p).length = 0 := by simp [hx]
      rw [this, if_pos (by omega)]
      rw [if_neg (by omega)] at ih
      omega
    · have : ([n].filter p).length ≤ 1 := List.length_filter_le _ _
      by_cases h1 : x < n
      · rw [if_pos h1] at ih; rw [if_pos (by omega)]; omega
      · rw [if_neg h1] at ih; rw [if_neg (by omega)]; omega
theorem fm_len {α : Type} (f : Nat → List α) (c x : Nat) (hf : ∀ t, (f t).length ≤ c) (hx : f x = []) : ∀ n, ((List.range n).flatMap f).length ≤ (if x < n then n - 1 else n) * c
  | 0 => by simp
  | n + 1 => by
    have ih := fm_len f c x hf hx n
    rw [List.range_succ, List.flatMap_append, List.length_append]
    by_cases hn : x = n
    · subst hn
      have : (([x] : List Nat).flatMap f).length = 0 := by simp [hx]
      rw [this, if_pos (by omega)]
      rw [if_neg (by omega)] at ih
      simpa using ih
    · have h2 : (([n] : List Nat).flatMap f).length ≤ c := by simpa using hf n
      by_cases h1 : x < n
      · rw [if_pos h1] at ih; rw [if_pos (by omega), show n + 1 - 1 = (n - 1) + 1 by omega, Nat.add_mul, Nat.one_mul]; omega
      · rw [if_neg h1] at ih; rw [if_neg (by omega), Nat.add_mul, Nat.one_mul]; omega
theorem burns_len {w n : Nat} {B : Nat → Int} {s : Int} {a t : Nat} {m : Nat} (hn : n ≤ 15) (ht : t < n) (hm : m ≤ n) : ((List.range m).filter (seenB w (frB (brB B a t s)) t)).length ≤ 14 := by
  have := flt_len (seenB w (frB (brB B a t s)) t) (x := t) (seenB_self _ _ _) m
  split at this <;> omega
theorem mvT_len {w n : Nat} {B : Nat → Int} {s : Int} {a t : Nat} (hn : n ≤ 15) (ht : t < n) : (mvT w n B s a t).length ≤ 14 := by
  unfold mvT
  split
  · rw [List.length_map]; exact burns_len hn ht (Nat.le_refl n)
  · simp
theorem mvT_self {w n : Nat} {B : Nat → Int} {s : Int} {a : Nat} : mvT w n B s a a = [] := by
  unfold mvT; rw [seenB_self]; rfl
theorem mvAp_len {w n : Nat} {B : Nat → Int} {s : Int} {a m : Nat} (hn : n ≤ 15) (ha : a < n) (hm : m ≤ n) : ((List.range m).flatMap (mvT w n B s a)).length ≤ 14 * 14 := by
  have h1 : (List.range m).flatMap (mvT w n B s a) = (List.range m).flatMap (fun t => if t < n then mvT w n B s a t else []) := by
    unfold List.flatMap
    congr 1
    refine List.map_congr_left fun t ht => ?_
    rw [if_pos (by have := List.mem_range.mp ht; omega)]
  rw [h1]
  have := fm_len (fun t => if t < n then mvT w n B s a t else []) 14 a (fun t => by
    by_cases q : t < n
    · simp only [q, if_true]; exact mvT_len hn q
    · simp [q]) (by simp [ha, mvT_self]) m
  split at this <;> omega
theorem mvsp_len {w n : Nat} {B : Nat → Int} {s : Int} (hn : n ≤ 15) : ∀ m, m ≤ n → ((List.range m).flatMap (mvA w n B s)).length ≤ 196 * cntZ B s m
  | 0, _ => by simp [cntZ]
  | m + 1, hm => by
    have ih := mvsp_len (w := w) (n := n) (B := B) (s := s) hn m (by omega)
    rw [List.range_succ, List.flatMap_append, List.length_append, cntZ]
    have h2 : (([m] : List Nat).flatMap (mvA w n B s)).length ≤ 196 * (if B m = s then 1 else 0) := by
      rw [show (([m] : List Nat).flatMap (mvA w n B s)) = mvA w n B s m by simp]
      unfold mvA
      split
      · exact mvAp_len hn (by omega) (Nat.le_refl n)
      · simp
    omega
/-- a row holds a list, each entry as e writes it -/
def HL {α : Type} (e : α → Int) (f : Nat → Int) (l : List α) : Prop := ∀ (k : Nat) (q : α), l[k]? = some q → f k = e q
theorem HL_nil {α : Type} (e : α → Int) (f : Nat → Int) : HL e f [] := fun k q h => by simp at h
theorem HL_add {α : Type} {e : α → Int} {f g : Nat → Int} {l : List α} {x : α} (h : HL e f l) (hg : ∀ k, k < l.length → g k = f k) (hx : g l.length = e x) : HL e g (l ++ [x]) := by
  intro k q hk
  by_cases h1 : k < l.length
  · rw [List.getElem?_append_left h1] at hk
    rw [hg k h1]; exact h k q hk
  · have h2 : k < (l ++ [x]).length := (List.getElem?_eq_some_iff.mp hk).1
    rw [List.length_append] at h2
    have h3 : k = l.length := by have : [x].length = 1 := rfl
                                 omega
    subst h3
    rw [List.getElem?_append_right (Nat.le_refl _)] at hk
    simp at hk
    rw [← hk]; exact hx
theorem HL_cong {α : Type} {e : α → Int} {f g : Nat → Int} {l : List α} (h : HL e f l) (hg : ∀ k, k < l.length → g k = f k) : HL e g l := fun k q hk => by
  rw [hg k (List.getElem?_eq_some_iff.mp hk).1]; exact h k q hk
def menc (q : Nat × Nat × Nat) : Int := 225 * (q.1 : Int) + 15 * (q.2.1 : Int) + (q.2.2 : Int)
theorem mvs_in {w n : Nat} {B : Nat → Int} {s : Int} {q : Nat × Nat × Nat} (h : q ∈ mvs w n B s) : q.1 < n ∧ q.2.1 < n ∧ q.2.2 < n ∧ B q.1 = s ∧ seenB w (frB B) q.1 q.2.1 = true ∧ seenB w (frB (brB B q.1 q.2.1 s)) q.2.1 q.2.2 = true := by
  unfold mvs at h
  obtain ⟨a, ha, h1⟩ := List.mem_flatMap.mp h
  unfold mvA at h1
  split at h1
  · rename_i hB
    obtain ⟨t, ht, h2⟩ := List.mem_flatMap.mp h1
    unfold mvT at h2
    split at h2
    · rename_i hs
      obtain ⟨u, hu, rfl⟩ := List.mem_map.mp h2
      obtain ⟨hu1, hu2⟩ := List.mem_filter.mp hu
      exact ⟨List.mem_range.mp ha, List.mem_range.mp ht, List.mem_range.mp hu1, hB, hs, hu2⟩
    · simp at h2
  · simp at h1
theorem mem_mvs {w n : Nat} {B : Nat → Int} {s : Int} {q : Nat × Nat × Nat} : q ∈ mvs w n B s ↔ q.1 < n ∧ q.2.1 < n ∧ q.2.2 < n ∧ B q.1 = s ∧ seenB w (frB B) q.1 q.2.1 = true ∧ seenB w (frB (brB B q.1 q.2.1 s)) q.2.1 q.2.2 = true := by
  refine ⟨mvs_in, fun ⟨h1, h2, h3, h4, h5, h6⟩ => ?_⟩
  obtain ⟨a, t, u⟩ := q
  refine List.mem_flatMap.mpr ⟨a, List.mem_range.mpr h1, ?_⟩
  unfold mvA
  rw [if_pos h4]
  refine List.mem_flatMap.mpr ⟨t, List.mem_range.mpr h2, ?_⟩
  unfold mvT
  rw [if_pos h5]
  exact List.mem_map.mpr ⟨u, List.mem_filter.mpr ⟨List.mem_range.mpr h3, h6⟩, rfl⟩
theorem mvs_cong {w h n : Nat} {B B2 : Nat → Int} {s : Int} (hg : gOK w h n) (hB : ∀ f, f < n → B f = B2 f) : mvs w n B s = mvs w n B2 s := by
  unfold mvs List.flatMap
  congr 1
  refine List.map_congr_left fun a ha => ?_
  have ha := List.mem_range.mp ha
  unfold mvA
  rw [hB a ha]
  by_cases q : B2 a = s
  · rw [if_pos q, if_pos q]
    unfold List.flatMap
    congr 1
    refine List.map_congr_left fun t ht => ?_
    have ht := List.mem_range.mp ht
    unfold mvT
    rw [seenB_cong hg ha ht (F := frB B) (G := frB B2) (fun f hf => by simp [frB, hB f hf])]
    split
    · congr 1
      unfold burns
      refine List.filter_congr fun u hu => ?_
      exact seenB_cong hg ht (List.mem_range.mp hu) (fun f hf => congrArg (fun z : Int => decide (z = 0)) (show brB B a t s f = brB B2 a t s f by unfold brB; rw [hB f hf]))
    · rfl
  · rw [if_neg q, if_neg q]
theorem mvs_bound {w n : Nat} {B : Nat → Int} {s : Int} (hn : n ≤ 15) (hc : cntZ B s n ≤ 3) : (mvs w n B s).length ≤ 588 := by
  have := mvsp_len (w := w) (n := n) (B := B) (s := s) hn n (Nat.le_refl n)
  unfold mvs
  omega

