/-! boards as numbers, tables by linear probing, the list of what is reached (fb_holes: a starting text of the kit) -/
theorem fb_holes : ∀ (m n : Nat) (f : Nat → Nat), (∀ i, i < n → f i < m) → (∀ i j, i < j → j < n → f i ≠ f j) → n ≤ m := by
  intro m
  induction m with
  | zero =>
    intro n f h1 _
    rcases Nat.eq_zero_or_pos n with h | h
    · omega
    · exact absurd (h1 0 h) (Nat.not_lt_zero _)
  | succ m ih =>
    intro n f h1 h2
    by_cases hx : ∃ i, i < n ∧ f i = m
    · obtain ⟨a, ha, hfa⟩ := hx
      have hg := ih (n - 1) (fun i => if i < a then f i else f (i + 1)) (by
        intro i hi
        by_cases q : i < a
        · simp only [if_pos q]
          have b1 := h1 i (by omega)
          have b2 := h2 i a q ha
          omega
        · simp only [if_neg q]
          have b1 := h1 (i + 1) (by omega)
          have b2 := h2 a (i + 1) (by omega) (by omega)
          omega) (by
        intro i j hij hj
        by_cases q : i < a
        · by_cases r : j < a
          · simp only [if_pos q, if_pos r]
            exact h2 i j hij (by omega)
          · simp only [if_pos q, if_neg r]
            exact h2 i (j + 1) (by omega) (by omega)
        · have r : ¬ j < a := by omega
          simp only [if_neg q, if_neg r]
          exact h2 (i + 1) (j + 1) (by omega) (by omega))
      omega
    · have hg := ih n f (fun i hi => by
        have b1 := h1 i hi
        have b2 : f i ≠ m := fun e => hx ⟨i, hi, e⟩
        omega) h2
      omega
def cod (x : Nat → Int) : Nat → Nat
  | 0 => 0
  | n + 1 => cod x n + (x n).toNat * 4 ^ n
theorem cod_lt {x : Nat → Int} : ∀ {n : Nat}, mBd x n → cod x n < 4 ^ n
  | 0, _ => Nat.one_pos
  | n + 1, h => by
    have ih := cod_lt (x := x) (n := n) (fun k hk => h k (by omega))
    have h1 := h n (by omega)
    have h2 : (x n).toNat * 4 ^ n ≤ 3 * 4 ^ n := Nat.mul_le_mul_right _ (by omega)
    rw [cod, Nat.pow_succ]
    omega
theorem cod_cong {x y : Nat → Int} : ∀ {n : Nat}, (∀ k, k < n → x k = y k) → cod x n = cod y n
  | 0, _ => rfl
  | n + 1, h => by rw [cod, cod, cod_cong (fun k hk => h k (by omega)), h n (by omega)]
theorem p4_lt {k : Nat} (h : k ≤ 14) : 0 < 4 ^ k ∧ 4 ^ k ≤ 268435456 := by
  constructor
  · exact Nat.pow_pos (by omega)
  · have := Nat.pow_le_pow_right (show 0 < 4 by omega) h
    have e : 4 ^ 14 = 268435456 := by decide
    omega
theorem cod_dig {x : Nat → Int} : ∀ {n : Nat}, mBd x n → ∀ (b k : Nat), k < n → (cod x n + 4 ^ n * b) / 4 ^ k % 4 = (x k).toNat
  | 0, _, _, k, hk => absurd hk (Nat.not_lt_zero k)
  | n + 1, h, b, k, hk => by
    have hl := cod_lt (x := x) (n := n) (fun k hk => h k (by omega))
    have hxn := h n (by omega)
    have e1 : cod x (n + 1) + 4 ^ (n + 1) * b = cod x n + 4 ^ n * ((x n).toNat + 4 * b) := by
      rw [cod, Nat.pow_succ, Nat.mul_add, Nat.mul_comm (4 ^ n) (x n).toNat, Nat.mul_assoc]
      omega
    rw [e1]
    by_cases q : k = n
    · subst q
      rw [Nat.add_mul_div_left _ _ (Nat.pow_pos (by omega)), Nat.div_eq_of_lt hl]
      omega
    · exact cod_dig (x := x) (n := n) (fun k hk => h k (by omega)) _ k (by omega)
theorem cod_hi {x : Nat → Int} {n k : Nat} (h : mBd x n) (hk : n ≤ k) : cod x n / 4 ^ k % 4 = 0 := by
  have hl := cod_lt h
  have h2 := Nat.pow_le_pow_right (show 0 < 4 by omega) hk
  rw [Nat.div_eq_of_lt (by omega)]
theorem cod_lt30 {x : Nat → Int} {n : Nat} (hn : n ≤ 15) (h : mBd x n) : cod x n < 1073741824 := by
  have h1 := cod_lt h
  have h2 := Nat.pow_le_pow_right (show 0 < 4 by omega) hn
  have e : 4 ^ 15 = 1073741824 := by decide
  omega
def bdP (p k : Nat) : Int := ((p / 4 ^ k % 4 : Nat) : Int)
def sdP (p : Nat) : Nat := p / 1073741824 % 2 + 1
theorem bdP_bd (p n : Nat) : mBd (bdP p) n := fun k _ => by unfold bdP; omega
theorem sdP_12 (p : Nat) : ((sdP p : Nat) : Int) = 1 ∨ ((sdP p : Nat) : Int) = 2 := by unfold sdP; omega
theorem bdP_side {c b k : Nat} (hk : k < 15) : bdP (c + 1073741824 * b) k = bdP c k := by
  unfold bdP
  have e : 1073741824 * b = 4 ^ k * (4 * (4 ^ (14 - k) * b)) := by
    rw [← Nat.mul_assoc, ← Nat.mul_assoc, Nat.mul_comm (4 ^ k) 4, ← Nat.pow_succ']
    have : 4 ^ (k + 1) * 4 ^ (14 - k) = 4 ^ 15 := by rw [← Nat.pow_add]; congr 1; omega
    rw [this]
  rw [e, Nat.add_mul_div_left _ _ (Nat.pow_pos (by omega))]
  congr 1
  omega
theorem sdP_side {c b : Nat} (hc : c < 1073741824) (hb : b < 2) : sdP (c + 1073741824 * b) = b + 1 := by unfold sdP; omega
theorem bdP_cod {x : Nat → Int} {n k : Nat} (h : mBd x n) (hk : k < n) : bdP (cod x n) k = x k := by
  have := cod_dig h 0 k hk
  rw [Nat.mul_zero, Nat.add_zero] at this
  unfold bdP
  rw [this]
  have := h k hk
  omega
/-- the number of the board behind a move -/
def nxP (n : Nat) (alt : Bool) (p : Nat) (q : Nat × Nat × Nat) : Nat := cod (aftB (bdP p) q (sdP p : Int)) n + 1073741824 * (cond alt (2 - sdP p) (sdP p - 1))
def scP (w n : Nat) (alt : Bool) (p : Nat) : List Nat := (mvs w n (bdP p) (sdP p : Int)).map (nxP n alt p)
def vP (n p : Nat) : Prop := p < 2147483648 ∧ mC3 (bdP p) n
theorem nxP_facts {w h n : Nat} {alt : Bool} {p : Nat} {q : Nat × Nat × Nat} (hg : gOK w h n) (hq : q ∈ mvs w n (bdP p) (sdP p : Int)) : nxP n alt p q < 2147483648 ∧ sdP (nxP n alt p q) = cond alt (3 - sdP p) (sdP p) ∧ ∀ k, k < n → bdP (nxP n alt p q) k = aftB (bdP p) q (sdP p : Int) k := by
  have hn := hg.2.2.2.2.2
  have hb := aftB_bd (q := q) (bdP_bd p n) (sdP_12 p)
  have hl := cod_lt30 hn hb
  have h12 := sdP_12 p
  have hbb : cond alt (2 - sdP p) (sdP p - 1) < 2 := by cases alt <;> simp <;> omega
  refine ⟨?_, ?_, fun k hk => ?_⟩
  · unfold nxP; omega
  · unfold nxP
    rw [sdP_side hl hbb]
    cases alt <;> simp <;> omega
  · unfold nxP
    rw [bdP_side (by omega), bdP_cod hb hk]
theorem vP_nx {w h n : Nat} {alt : Bool} {p : Nat} (hg : gOK w h n) (hp : vP n p) : ∀ c ∈ scP w n alt p, vP n c := by
  intro c hc
  obtain ⟨q, hq, rfl⟩ := List.mem_map.mp hc
  obtain ⟨h1, h2, h3⟩ := nxP_facts (alt := alt) hg hq
  refine ⟨h1, ?_, ?_⟩
  · rw [cntZ_cong h3, aftB_cnt hg (sdP_12 p) hq (Or.inl rfl)]; exact hp.2.1
  · rw [cntZ_cong h3, aftB_cnt hg (sdP_12 p) hq (Or.inr rfl)]; exact hp.2.2
/-! a table by linear probing: place and list -/
def htI (f : Nat → Int) (N : Nat) (hsh : Nat → Nat) (L : List Nat) : Prop := (∀ s, s < N → 0 ≤ f s ∧ f s ≤ (L.length : Int)) ∧ (∀ s t, s < N → t < N → 0 < f s → f s = f t → s = t) ∧ ∀ (i c : Nat), L[i]? = some c → ∃ d, d < N ∧ f ((hsh c + d) % N) = ((i + 1 : Nat) : Int) ∧ ∀ e, e < d → 0 < f ((hsh c + e) % N)
def modsep (N : Nat) : Prop := 0 < N ∧ ∀ a i j : Nat, i < j → j < N → (a + i) % N ≠ (a + j) % N
theorem ht_stop {f : Nat → Int} {N : Nat} {hsh : Nat → Nat} {L : List Nat} (hN : modsep N) (h : htI f N hsh L) (hl : L.length < N) (a : Nat) : ∃ d, d < N ∧ f ((a + d) % N) = 0 := by
  refine Classical.byContradiction fun hno => ?_
  have pos : ∀ d, d < N → 0 < f ((a + d) % N) := fun d hd => by
    have h1 := (h.1 ((a + d) % N) (Nat.mod_lt _ hN.1)).1
    have h2 : f ((a + d) % N) ≠ 0 := fun e => hno ⟨d, hd, e⟩
    omega
  have := fb_holes L.length N (fun i => (f ((a + i) % N)).toNat - 1) (fun i hi => by
    have h1 := (h.1 ((a + i) % N) (Nat.mod_lt _ hN.1)).2
    have h2 := pos i hi
    show (f ((a + i) % N)).toNat - 1 < L.length
    omega) (fun i j hij hj e => by
    have h1 := pos i (by omega)
    have h2 := pos j hj
    have e2 : f ((a + i) % N) = f ((a + j) % N) := by
      have e3 : (f ((a + i) % N)).toNat - 1 = (f ((a + j) % N)).toNat - 1 := e
      omega
    exact hN.2 a i j hij hj (h.2.1 _ _ (Nat.mod_lt _ hN.1) (Nat.mod_lt _ hN.1) h1 e2))
  omega
theorem ht_no {f : Nat → Int} {N : Nat} {hsh : Nat → Nat} {L : List Nat} (h : htI f N hsh L) {c d : Nat} (h0 : f ((hsh c + d) % N) = 0) (hd : ∀ e, e < d → 0 < f ((hsh c + e) % N) ∧ L[(f ((hsh c + e) % N)).toNat - 1]? ≠ some c) : c ∉ L := by
  intro hc
  obtain ⟨i, hi⟩ := List.getElem?_of_mem hc
  obtain ⟨d0, h1, h2, h3⟩ := h.2.2 i c hi
  rcases Nat.lt_trichotomy d d0 with q | q | q
  · have := h3 d q; omega
  · subst q; omega
  · exact (hd d0 q).2 (by rw [h2]; show L[((i + 1 : Nat) : Int).toNat - 1]? = some c; rw [show ((i + 1 : Nat) : Int).toNat - 1 = i by omega]; exact hi)
theorem ht_add {f g : Nat → Int} {N : Nat} {hsh : Nat → Nat} {L : List Nat} (hN : modsep N) (h : htI f N hsh L) {c d : Nat} (hd : d < N) (h0 : f ((hsh c + d) % N) = 0) (hp : ∀ e, e < d → 0 < f ((hsh c + e) % N)) (hg : ∀ s, g s = if s = (hsh c + d) % N then ((L.length + 1 : Nat) : Int) else f s) : htI g N hsh (L ++ [c]) := by
  have hll : (L ++ [c]).length = L.length + 1 := by simp
  have hs := Nat.mod_lt (hsh c + d) hN.1
  refine ⟨fun s hs2 => ?_, fun s t hs2 ht2 h1 h2 => ?_, fun i x hi => ?_⟩
  · rw [hg s, hll]
    have := h.1 s hs2
    split <;> omega
  · rw [hg s, hg t] at h2
    rw [hg s] at h1
    by_cases q1 : s = (hsh c + d) % N
    · by_cases q2 : t = (hsh c + d) % N
      · rw [q1, q2]
      · rw [if_pos q1, if_neg q2] at h2
        have := (h.1 t ht2).2
        omega
    · by_cases q2 : t = (hsh c + d) % N
      · rw [if_neg q1, if_pos q2] at h2
        have := (h.1 s hs2).2
        omega
      · rw [if_neg q1, if_neg q2] at h2
        rw [if_neg q1] at h1
        exact h.2.1 s t hs2 ht2 h1 h2
  · have hil := (List.getElem?_eq_some_iff.mp hi).1
    rw [hll] at hil
    by_cases q : i < L.length
    · rw [List.getElem?_append_left q] at hi
      obtain ⟨d0, e1, e2, e3⟩ := h.2.2 i x hi
      refine ⟨d0, e1, ?_, fun e he => ?_⟩
      · rw [hg, if_neg (fun z => by rw [z, h0] at e2; omega)]; exact e2
      · rw [hg]
        have := e3 e he
        split <;> omega
    · have : i = L.length := by omega
      subst this
      rw [List.getElem?_append_right (Nat.le_refl _)] at hi
      simp at hi
      subst hi
      refine ⟨d, hd, ?_, fun e he => ?_⟩
      · rw [hg, if_pos rfl]
      · rw [hg]
        have := hp e he
        split <;> omega
theorem ht_nil (N : Nat) (hsh : Nat → Nat) {f : Nat → Int} (h : ∀ s, s < N → f s = 0) : htI f N hsh [] := ⟨fun s hs => by rw [h s hs]; simp, fun s t hs _ h1 => by rw [h s hs] at h1; omega, fun i c hi => by simp at hi⟩
/-! what is reached -/
def addL (L : List Nat) : List Nat → Option (List Nat)
  | [] => some L
  | c :: r => if c ∈ L then addL L r else if L.length = 1500 then none else addL (L ++ [c]) r
def bfs (sc : Nat → List Nat) : Nat → Nat → List Nat → Option (List Nat)
  | 0, _, L => some L
  | f + 1, k, L => match L[k]? with
    | none => some L
    | some p => match addL L (sc p) with
      | none => none
      | some L2 => bfs sc f (k + 1) L2
theorem addL_ok : ∀ {r L L2 : List Nat}, addL L r = some L2 → L.Nodup → L.length ≤ 1500 → (∃ N, L2 = L ++ N ∧ (∀ x ∈ N, x ∈ r)) ∧ L2.Nodup ∧ L2.length ≤ 1500 ∧ ∀ x ∈ r, x ∈ L2
  | [], L, L2, h, hn, hl => by
    cases h
    exact ⟨⟨[], by simp, by simp⟩, hn, hl, by simp⟩
  | c :: r, L, L2, h, hn, hl => by
    rw [addL] at h
    by_cases q : c ∈ L
    · rw [if_pos q] at h
      obtain ⟨⟨N, h1, h2⟩, h3, h4, h5⟩ := addL_ok h hn hl
      refine ⟨⟨N, h1, fun x hx => List.mem_cons_of_mem _ (h2 x hx)⟩, h3, h4, fun x hx => ?_⟩
      rcases List.mem_cons.mp hx with e | hx
      · rw [e, h1]; exact List.mem_append_left _ q
      · exact h5 x hx
    · rw [if_neg q] at h
      by_cases q2 : L.length = 1500
      · rw [if_pos q2] at h; cases h
      · rw [if_neg q2] at h
        obtain ⟨⟨N, h1, h2⟩, h3, h4, h5⟩ := addL_ok h (List.nodup_append.mpr ⟨hn, by simp, fun a ha b hb e => q (by rw [List.mem_singleton] at hb; rw [← hb, ← e]; exact ha)⟩) (by simp; omega)
        refine ⟨⟨c :: N, by rw [h1]; simp, fun x hx => ?_⟩, h3, h4, fun x hx => ?_⟩
        · rcases List.mem_cons.mp hx with e | hx
          · rw [e]; exact List.mem_cons_self
          · exact List.mem_cons_of_mem _ (h2 x hx)
        · rcases List.mem_cons.mp hx with e | hx
          · rw [e, h1]; simp
          · exact h5 x hx
/-- the list while it grows -/
def bI (sc : Nat → List Nat) (rk : Nat → Nat) (Q : Nat → Prop) (k : Nat) (L : List Nat) : Prop := L.Nodup ∧ L.length ≤ 1500 ∧ k ≤ L.length ∧ (∀ p ∈ L, Q p) ∧ (∀ i p : Nat, i < k → L[i]? = some p → ∀ c ∈ sc p, c ∈ L) ∧ (∀ i j p q : Nat, i ≤ j → L[i]? = some p → L[j]? = some q → rk p ≤ rk q) ∧ (∀ p j q : Nat, L[k]? = some p → L[j]? = some q → rk q ≤ rk p + 1)
theorem bI_step {sc : Nat → List Nat} {rk : Nat → Nat} {Q : Nat → Prop} (hQ : ∀ p, Q p → ∀ c ∈ sc p, Q c ∧ rk c = rk p + 1) {k p : Nat} {L L2 : List Nat} (h : bI sc rk Q k L) (hk : L[k]? = some p) (ha : addL L (sc p) = some L2) : bI sc rk Q (k + 1) L2 := by
  obtain ⟨h1, h2, h3, h4, h5, h6, h7⟩ := h
  obtain ⟨⟨N, n1, n2⟩, a2, a3, a4⟩ := addL_ok ha h1 h2
  have hkl := (List.getElem?_eq_some_iff.mp hk).1
  have hp := h4 p (List.mem_of_getElem? hk)
  have rN : ∀ x ∈ N, Q x ∧ rk x = rk p + 1 := fun x hx => hQ p hp x (n2 x hx)
  have get : ∀ j q : Nat, L2[j]? = some q → (j < L.length ∧ L[j]? = some q) ∨ (L.length ≤ j ∧ q ∈ N) := by
    intro j q hj
    rw [n1] at hj
    by_cases z : j < L.length
    · rw [List.getElem?_append_left z] at hj; exact Or.inl ⟨z, hj⟩
    · rw [List.getElem?_append_right (by omega)] at hj
      exact Or.inr ⟨by omega, List.mem_of_getElem? hj⟩
  have up : ∀ j q : Nat, L2[j]? = some q → rk q ≤ rk p + 1 := by
    intro j q hj
    rcases get j q hj with ⟨_, z⟩ | ⟨_, z⟩
    · exact h7 p j q hk z
    · rw [(rN q z).2]; exact Nat.le_refl _
  have hll : L2.length = L.length + N.length := by rw [n1, List.length_append]
  refine ⟨a2, a3, by omega, fun x hx => ?_, fun i x hi hix c hc => ?_, fun i j x y hij hx hy => ?_, fun x j y hx hy => ?_⟩
  · rw [n1] at hx
    rcases List.mem_append.mp hx with z | z
    · exact h4 x z
    · exact (rN x z).1
  · rcases get i x hix with ⟨z1, z2⟩ | ⟨z1, z2⟩
    · by_cases e : i = k
      · subst e
        rw [hk] at z2
        cases z2
        exact a4 c hc
      · rw [n1]; exact List.mem_append_left _ (h5 i x (by omega) z2 c hc)
    · omega
  · rcases get j y hy with ⟨y1, y2⟩ | ⟨y1, y2⟩
    · rcases get i x hx with ⟨z1, z2⟩ | ⟨z1, z2⟩
      · exact h6 i j x y hij z2 y2
      · omega
    · rw [(rN y y2).2]; exact up i x hx
  · have hxy := up j y hy
    have hpx : rk p ≤ rk x := by
      rcases get (k + 1) x hx with ⟨z1, z2⟩ | ⟨z1, z2⟩
      · exact h6 k (k + 1) p x (by omega) hk z2
      · rw [(rN x z2).2]; omega
    omega
/-- the whole list -/
def bOK (sc : Nat → List Nat) (Q : Nat → Prop) (L : List Nat) : Prop := L.Nodup ∧ L.length ≤ 1500 ∧ (∀ p ∈ L, Q p) ∧ ∀ i p c : Nat, L[i]? = some p → c ∈ sc p → ∃ j, i < j ∧ L[j]? = some c
theorem bfs_pre {sc : Nat → List Nat} : ∀ {f k : Nat} {L L2 : List Nat}, L.Nodup → L.length ≤ 1500 → bfs sc f k L = some L2 → ∃ N, L2 = L ++ N
  | 0, k, L, L2, _, _, h => by cases h; exact ⟨[], by simp⟩
  | f + 1, k, L, L2, h1, h2, h => by
    rw [bfs] at h
    cases e : L[k]? with
    | none => rw [e] at h; cases h; exact ⟨[], by simp⟩
    | some p =>
      rw [e] at h
      cases e2 : addL L (sc p) with
      | none => simp [e2] at h
      | some L3 =>
        simp only [e2] at h
        obtain ⟨⟨N, n1, -⟩, a2, a3, -⟩ := addL_ok e2 h1 h2
        obtain ⟨N2, n2⟩ := bfs_pre a2 a3 h
        exact ⟨N ++ N2, by rw [n2, n1, List.append_assoc]⟩
theorem bfs_ok {sc : Nat → List Nat} {rk : Nat → Nat} {Q : Nat → Prop} (hQ : ∀ p, Q p → ∀ c ∈ sc p, Q c ∧ rk c = rk p + 1) : ∀ {f k : Nat} {L L2 : List Nat}, f + k = 1501 → bI sc rk Q k L → bfs sc f k L = some L2 → bOK sc Q L2
  | 0, k, L, L2, hf, h, _ => by
    have := h.2.1
    have := h.2.2.1
    omega
  | f + 1, k, L, L2, hf, h, hb => by
    rw [bfs] at hb
    cases e : L[k]? with
    | none =>
      rw [e] at hb
      cases hb
      obtain ⟨h1, h2, h3, h4, h5, h6, h7⟩ := h
      have hk := List.getElem?_eq_none_iff.mp e
      refine ⟨h1, h2, h4, fun i p c hi hc => ?_⟩
      have hil := (List.getElem?_eq_some_iff.mp hi).1
      obtain ⟨j, hj⟩ := List.getElem?_of_mem (h5 i p (by omega) hi c hc)
      refine ⟨j, ?_, hj⟩
      have hr := (hQ p (h4 p (List.mem_of_getElem? hi)) c hc).2
      rcases Nat.lt_or_ge i j with z | z
      · exact z
      · have := h6 j i c p z hj hi; omega
    | some p =>
      rw [e] at hb
      cases e2 : addL L (sc p) with
      | none => simp [e2] at hb
      | some L3 =>
        simp only [e2] at hb
        exact bfs_ok hQ (by omega) (bI_step hQ h e e2) hb
theorem bI_0 {sc : Nat → List Nat} {rk : Nat → Nat} {Q : Nat → Prop} {p : Nat} (hp : Q p) : bI sc rk Q 0 [p] := by
  have one : ∀ (j q : Nat), ([p] : List Nat)[j]? = some q → q = p := fun j q hj => by
    have := List.mem_of_getElem? hj
    simpa using this
  exact ⟨by simp, by simp, by simp, by simpa using hp, fun i _ hi => absurd hi (Nat.not_lt_zero i), fun i j x y _ hx hy => by rw [one i x hx, one j y hy]; exact Nat.le_refl _, fun x j y hx hy => by rw [one 0 x hx, one j y hy]; omega⟩
/-- how many fields are burned -/
def bcP (n p : Nat) : Nat := cntZ (bdP p) 3 n
theorem aftB_cnt3 {w h n : Nat} {B : Nat → Int} {s : Int} {q : Nat × Nat × Nat} (hg : gOK w h n) (hs : s = 1 ∨ s = 2) (hq : q ∈ mvs w n B s) : cntZ (aftB B q s) 3 n = cntZ B 3 n + 1 := by
  obtain ⟨h1, h2, h3, h4, h5, h6, h7, h8⟩ := mvs_facts hg (by omega) hq
  have e1 := cntZ_set B q.1 0 3 n
  have e2 := cntZ_set (fun f => if f = q.1 then 0 else B f) q.2.1 s 3 n
  have e3 := cntZ_set (fun f => if f = q.2.1 then s else if f = q.1 then 0 else B f) q.2.2 3 3 n
  have e4 : (fun f => if f = q.2.2 then 3 else (fun f => if f = q.2.1 then s else if f = q.1 then 0 else B f) f) = aftB B q s := rfl
  have z1 : (if q.2.1 = q.1 then (0 : Int) else B q.2.1) = 0 := by split <;> omega
  have z2 : (if q.2.2 = q.2.1 then s else if q.2.2 = q.1 then (0 : Int) else B q.2.2) = 0 := by
    rw [if_neg (fun e => h7 e.symm)]
    rcases h8 with h8 | h8
    · rw [if_pos h8]
    · split <;> omega
  simp only [z1] at e2
  simp only [z2] at e3
  rw [e4] at e3
  rw [h4] at e1
  have n0 : ¬ ((0 : Int) = 3) := by omega
  have ns : ¬ (s = 3) := by omega
  simp only [n0, ns, and_false, if_false, h3, true_and, if_true] at e1 e2 e3
  omega
theorem bcP_nx {w h n : Nat} {alt : Bool} {p : Nat} (hg : gOK w h n) : ∀ c ∈ scP w n alt p, bcP n c = bcP n p + 1 := by
  intro c hc
  obtain ⟨q, hq, rfl⟩ := List.mem_map.mp hc
  unfold bcP
  rw [cntZ_cong (nxP_facts (alt := alt) hg hq).2.2, aftB_cnt3 hg (sdP_12 p) hq]

