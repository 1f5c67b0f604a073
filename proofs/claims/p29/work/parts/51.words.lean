/-! the texts of the law: a command is read alike wherever it stands -/
section SHIFT
variable {tx t : List Nat} {i : Nat}
theorem sh_wm (h : ∀ k, chA tx (i + k) = chA t k) (l : List Nat) : wm tx i l = wm t 0 l := by
  unfold wm
  simp only [h, Nat.zero_add]
theorem sh_wrd (h : ∀ k, chA tx (i + k) = chA t k) : wrd tx i = wrd t 0 := by
  unfold wrd
  simp only [sh_wm h]
theorem sh_dct (h : ∀ k, chA tx (i + k) = chA t k) (a : Nat) : dct tx (i + a) = dct t a := by
  unfold dct
  simp only [Nat.add_assoc, h]
theorem sh_nvT (h : ∀ k, chA tx (i + k) = chA t k) (a : Nat) : ∀ m, nvT tx (i + a) m = nvT t a m
  | 0 => rfl
  | m + 1 => by rw [nvT, nvT, sh_nvT h a m, Nat.add_assoc, h]
theorem sh_rdN (h : ∀ k, chA tx (i + k) = chA t k) (a : Nat) : rdN tx (i + a) = (rdN t a).map (fun q => (q.1, i + q.2)) := by
  unfold rdN
  rw [Nat.add_assoc i a 1, sh_dct h, sh_nvT h, h]
  by_cases q : chA t a = 32 ∧ (dct t (a + 1) = 1 ∨ dct t (a + 1) = 2)
  · rw [if_pos q, if_pos q, Nat.add_assoc]; rfl
  · rw [if_neg q, if_neg q]; rfl
theorem sh_rdNs (h : ∀ k, chA tx (i + k) = chA t k) : ∀ (m a : Nat), rdNs tx m (i + a) = (rdNs t m a).map (fun q => (q.1, i + q.2))
  | 0, a => rfl
  | m + 1, a => by
    rw [rdNs, rdNs, sh_rdN h]
    cases rdN t a with
    | none => rfl
    | some p =>
      obtain ⟨v, b⟩ := p
      simp only [Option.map_some]
      rw [sh_rdNs h m b]
      cases rdNs t m b with
      | none => rfl
      | some q => rfl
theorem sh_pcmd (h : ∀ k, chA tx (i + k) = chA t k) : pcmd tx i = (pcmd t 0).map (fun q => (q.1, q.2.1, i + q.2.2)) := by
  unfold pcmd
  rw [sh_wrd h]
  cases wrd t 0 with
  | none => rfl
  | some p =>
    obtain ⟨w, l⟩ := p
    simp only [Nat.zero_add]
    rw [sh_rdNs h]
    cases rdNs t (cntW w) l with
    | none => rfl
    | some q =>
      obtain ⟨vs, b⟩ := q
      simp only [Option.map_some, h]
      by_cases z : chA t b = 59
      · rw [if_pos z, if_pos z]; rfl
      · rw [if_neg z, if_neg z]; rfl
end SHIFT
theorem chA_app (pre t : List Nat) (k : Nat) : chA (pre ++ t) (pre.length + k) = chA t k := by
  unfold chA
  rw [List.getElem?_append_right (by omega), Nat.add_sub_cancel_left]
theorem flt_st (pre ct rest : List Nat) {wd : Nat} {vs : List Nat} (h : pcmd (ct ++ rest) 0 = some (wd, vs, ct.length)) (hl : 0 < ct.length) (f : Nat) : flt (pre ++ (ct ++ rest)) (f + 1) pre.length = flt (pre ++ (ct ++ rest)) f (pre ++ ct).length := by
  rw [flt, if_pos (by rw [List.length_append, List.length_append]; omega), sh_pcmd (chA_app pre (ct ++ rest)), h]
  simp only [Option.map_some]
  rw [List.length_append]
theorem flt_no (pre rest : List Nat) (h : pcmd rest 0 = none) (hl : 0 < rest.length) (f : Nat) : flt (pre ++ rest) (f + 1) pre.length = (pre.length : Int) := by
  rw [flt, if_pos (by rw [List.length_append]; omega), sh_pcmd (chA_app pre rest), h]
  rfl
theorem flt_end (tx : List Nat) (f : Nat) : flt tx f tx.length = -1005 := by
  cases f with
  | zero => rfl
  | succ f => rw [flt, if_neg (by omega)]
theorem rnF_st (w n : Nat) (pre ct rest : List Nat) {wd : Nat} {vs : List Nat} {B C : Nat → Int} (h : pcmd (ct ++ rest) 0 = some (wd, vs, ct.length)) (hl : 0 < ct.length) (he : exC w n B wd vs = some C) (f k : Nat) : rnF w n (pre ++ (ct ++ rest)) (f + 1) pre.length B k = rnF w n (pre ++ (ct ++ rest)) f (pre ++ ct).length C (k + 1) := by
  rw [rnF, if_pos (by rw [List.length_append, List.length_append]; omega), sh_pcmd (chA_app pre (ct ++ rest)), h]
  simp only [Option.map_some, he]
  rw [List.length_append]
theorem rnF_no (w n : Nat) (pre ct rest : List Nat) {wd : Nat} {vs : List Nat} {B : Nat → Int} (h : pcmd (ct ++ rest) 0 = some (wd, vs, ct.length)) (hl : 0 < ct.length) (he : exC w n B wd vs = none) (f k : Nat) : rnF w n (pre ++ (ct ++ rest)) (f + 1) pre.length B k = (k, B) := by
  rw [rnF, if_pos (by rw [List.length_append, List.length_append]; omega), sh_pcmd (chA_app pre (ct ++ rest)), h]
  simp only [Option.map_some, he]
theorem rnF_end (w n : Nat) (tx : List Nat) (f : Nat) (B : Nat → Int) (k : Nat) : rnF w n tx f tx.length B k = (k, B) := by
  cases f with
  | zero => rfl
  | succ f => rw [rnF, if_neg (by omega)]
/-! the commands -/
def cB (v : Nat) : List Nat := [98, 117, 114, 110] ++ (nT v ++ [59])
def cF (v : Nat) : List Nat := [102, 114, 101, 101] ++ (nT v ++ [59])
def cP : List Nat := [112, 97, 115, 115, 59]
def cM (a t u : Nat) : List Nat := [109, 111, 118, 101] ++ (nT 1 ++ (nT a ++ (nT t ++ (nT u ++ [59]))))
theorem cB_ok (v : Nat) (hv : v < 16) (rest : List Nat) : pcmd (cB v ++ rest) 0 = some (3, [v], (cB v).length) := by
  rcases (show v = 0 ∨ v = 1 ∨ v = 2 ∨ v = 3 ∨ v = 4 ∨ v = 5 ∨ v = 6 ∨ v = 7 ∨ v = 8 ∨ v = 9 ∨ v = 10 ∨ v = 11 ∨ v = 12 ∨ v = 13 ∨ v = 14 ∨ v = 15 by omega) with rfl | rfl | rfl | rfl | rfl | rfl | rfl | rfl | rfl | rfl | rfl | rfl | rfl | rfl | rfl | rfl <;> rfl
theorem cF_ok (v : Nat) (hv : v < 16) (rest : List Nat) : pcmd (cF v ++ rest) 0 = some (0, [v], (cF v).length) := by
  rcases (show v = 0 ∨ v = 1 ∨ v = 2 ∨ v = 3 ∨ v = 4 ∨ v = 5 ∨ v = 6 ∨ v = 7 ∨ v = 8 ∨ v = 9 ∨ v = 10 ∨ v = 11 ∨ v = 12 ∨ v = 13 ∨ v = 14 ∨ v = 15 by omega) with rfl | rfl | rfl | rfl | rfl | rfl | rfl | rfl | rfl | rfl | rfl | rfl | rfl | rfl | rfl | rfl <;> rfl
theorem cP_ok (rest : List Nat) : pcmd (cP ++ rest) 0 = some (5, [], cP.length) := rfl
def cMb (a t u : Nat) : Bool := decide (pcmd (cM a t u) 0 = some (4, [1, a, t, u], (cM a t u).length))
theorem cMb_ok : ((List.range 15).all fun a => (List.range 15).all fun t => (List.range 15).all fun u => cMb a t u) = true := by decide +kernel
theorem cM_ok (a : Nat) (ha : a < 15) (t : Nat) (ht : t < 15) (u : Nat) (hu : u < 15) : pcmd (cM a t u) 0 = some (4, [1, a, t, u], (cM a t u).length) :=
  of_decide_eq_true (List.all_eq_true.mp (List.all_eq_true.mp (List.all_eq_true.mp cMb_ok a (List.mem_range.mpr ha)) t (List.mem_range.mpr ht)) u (List.mem_range.mpr hu))
theorem cX_ok : pcmd [120] 0 = none := rfl
theorem cB_len (v : Nat) : 0 < (cB v).length ∧ (cB v).length ≤ 8 := by unfold cB nT; split <;> simp
theorem cF_len (v : Nat) : 0 < (cF v).length ∧ (cF v).length ≤ 8 := by unfold cF nT; split <;> simp
theorem cP_len : cP.length = 5 := rfl
def tA (a b : Nat) : List Nat := cB a ++ (cP ++ cF b)
def tB (a b n : Nat) : List Nat := cB a ++ (cP ++ (cF b ++ (cB n ++ cP)))
theorem flt_pre {tx pre ct rest : List Nat} (e : tx = pre ++ (ct ++ rest)) {wd : Nat} {vs : List Nat} (h : pcmd (ct ++ rest) 0 = some (wd, vs, ct.length)) (hl : 0 < ct.length) (f i j : Nat) (hi : i = pre.length) (hj : j = pre.length + ct.length) : flt tx (f + 1) i = flt tx f j := by
  subst e; subst hi; subst hj
  rw [flt_st pre ct rest h hl f, List.length_append]
theorem rnF_pre {tx pre ct rest : List Nat} (e : tx = pre ++ (ct ++ rest)) {wd : Nat} {vs : List Nat} {w n : Nat} {B C : Nat → Int} (h : pcmd (ct ++ rest) 0 = some (wd, vs, ct.length)) (hl : 0 < ct.length) (he : exC w n B wd vs = some C) (f k i j : Nat) (hi : i = pre.length) (hj : j = pre.length + ct.length) : rnF w n tx (f + 1) i B k = rnF w n tx f j C (k + 1) := by
  subst e; subst hi; subst hj
  rw [rnF_st w n pre ct rest h hl he f k, List.length_append]
theorem tA_flt (a b : Nat) (ha : a < 16) (hb : b < 16) : flt (tA a b) 61 0 = -1005 := by
  have l1 := cB_len a
  have l2 := cF_len b
  rw [flt_pre (tx := tA a b) (pre := []) (ct := cB a) (rest := cP ++ cF b) rfl (cB_ok a ha _) l1.1 60 0 (cB a).length rfl (by simp),
    flt_pre (tx := tA a b) (pre := cB a) (ct := cP) (rest := cF b) rfl (cP_ok _) (by decide) 59 _ ((cB a).length + 5) rfl rfl,
    flt_pre (tx := tA a b) (pre := cB a ++ cP) (ct := cF b) (rest := []) (by unfold tA; simp) (cF_ok b hb _) l2.1 58 _ ((cB a).length + 5 + (cF b).length) (by simp [cP_len]) (by simp [cP_len])]
  have e : (tA a b).length = (cB a).length + 5 + (cF b).length := by unfold tA; simp [cP_len, Nat.add_assoc]
  rw [← e]
  exact flt_end _ _
theorem exC_b {w n : Nat} {B : Nat → Int} {v : Nat} (hv : v < n) (h0 : 0 ≤ B v) : exC w n B 3 [v] = some (upB B v 3) := by
  unfold exC
  rw [if_neg (by omega), if_pos (by omega)]
  have e : aSet n B (([v].getD 0 0 : Nat) : Int) ((3 : Nat) : Int) = B v := by
    unfold aSet
    show (if 0 ≤ (v : Int) ∧ (v : Int) < n ∧ 0 ≤ ((3 : Nat) : Int) ∧ ((3 : Nat) : Int) ≤ 3 then _ else _) = _
    rw [if_pos ⟨by omega, by omega, by omega, by omega⟩, if_neg (fun z => by have := z.1; omega)]
    show B (v : Int).toNat = B v
    rw [Int.toNat_natCast]
  rw [e, if_neg (by omega)]
  rfl
theorem exC_f {w n : Nat} {B : Nat → Int} {v : Nat} (hv : v < n) (h0 : 0 ≤ B v) : exC w n B 0 [v] = some (upB B v 0) := by
  unfold exC
  rw [if_neg (by omega), if_pos (by omega)]
  have e : aSet n B (([v].getD 0 0 : Nat) : Int) ((0 : Nat) : Int) = B v := by
    unfold aSet
    show (if 0 ≤ (v : Int) ∧ (v : Int) < n ∧ 0 ≤ ((0 : Nat) : Int) ∧ ((0 : Nat) : Int) ≤ 3 then _ else _) = _
    rw [if_pos ⟨by omega, by omega, by omega, by omega⟩, if_neg (fun z => by have := z.1; omega)]
    show B (v : Int).toNat = B v
    rw [Int.toNat_natCast]
  rw [e, if_neg (by omega)]
  rfl
theorem exC_n {w n : Nat} {B : Nat → Int} : exC w n B 3 [n] = none := by
  unfold exC
  rw [if_neg (by omega), if_pos (by omega)]
  have e : aSet n B (([n].getD 0 0 : Nat) : Int) ((3 : Nat) : Int) = -1001 := by
    unfold aSet
    show (if 0 ≤ (n : Int) ∧ (n : Int) < n ∧ 0 ≤ ((3 : Nat) : Int) ∧ ((3 : Nat) : Int) ≤ 3 then _ else _) = _
    rw [if_neg (by omega)]
  rw [e, if_pos (by omega)]
theorem exC_p {w n : Nat} {B : Nat → Int} : exC w n B 5 [] = some B := rfl
theorem upB_bd {n : Nat} {B : Nat → Int} {f : Nat} {v : Int} (hB : mBd B n) (hv : 0 ≤ v ∧ v ≤ 3) : mBd (upB B f v) n := fun k hk => by
  have := hB k hk
  unfold upB; split <;> omega
theorem tA_rn (w : Nat) {n a b : Nat} {B : Nat → Int} (hB : mBd B n) (hn : n ≤ 15) (ha : a < n) (hb : b < n) : rnF w n (tA a b) 61 0 B 0 = (3, upB (upB B a 3) b 0) := by
  have l1 := cB_len a
  have l2 := cF_len b
  have h2 := upB_bd (f := a) (v := 3) hB (by omega)
  rw [rnF_pre (tx := tA a b) (pre := []) (ct := cB a) (rest := cP ++ cF b) rfl (cB_ok a (by omega) _) l1.1 (exC_b ha (hB a ha).1) 60 0 0 (cB a).length rfl (by simp),
    rnF_pre (tx := tA a b) (pre := cB a) (ct := cP) (rest := cF b) rfl (cP_ok _) (by decide) exC_p 59 _ _ ((cB a).length + 5) rfl rfl,
    rnF_pre (tx := tA a b) (pre := cB a ++ cP) (ct := cF b) (rest := []) (by unfold tA; simp) (cF_ok b (by omega) _) l2.1 (exC_f hb (h2 b hb).1) 58 _ _ ((cB a).length + 5 + (cF b).length) (by simp [cP_len]) (by simp [cP_len])]
  have e : (tA a b).length = (cB a).length + 5 + (cF b).length := by unfold tA; simp [cP_len, Nat.add_assoc]
  rw [← e]
  exact rnF_end _ _ _ _ _ _
theorem tB_len (a b n : Nat) : (tB a b n).length = (cB a).length + 5 + (cF b).length + (cB n).length + 5 := by
  unfold tB; simp [cP_len, Nat.add_assoc]
theorem tB_fl (a b n : Nat) (ha : a < 16) (hb : b < 16) (hn : n < 16) (r : List Nat) : flt (tB a b n ++ r) 61 0 = flt (tB a b n ++ r) 56 (tB a b n).length := by
  have l1 := cB_len a
  have l2 := cF_len b
  have l3 := cB_len n
  rw [tB_len]
  rw [flt_pre (tx := tB a b n ++ r) (pre := []) (ct := cB a) (rest := cP ++ (cF b ++ (cB n ++ (cP ++ r)))) (by unfold tB; simp) (cB_ok a ha _) l1.1 60 0 (cB a).length rfl (by simp),
    flt_pre (tx := tB a b n ++ r) (pre := cB a) (ct := cP) (rest := cF b ++ (cB n ++ (cP ++ r))) (by unfold tB; simp) (cP_ok _) (by decide) 59 _ ((cB a).length + 5) rfl rfl,
    flt_pre (tx := tB a b n ++ r) (pre := cB a ++ cP) (ct := cF b) (rest := cB n ++ (cP ++ r)) (by unfold tB; simp) (cF_ok b hb _) l2.1 58 _ ((cB a).length + 5 + (cF b).length) (by simp [cP_len]) (by simp [cP_len]),
    flt_pre (tx := tB a b n ++ r) (pre := cB a ++ (cP ++ cF b)) (ct := cB n) (rest := cP ++ r) (by unfold tB; simp) (cB_ok n hn _) l3.1 57 _ ((cB a).length + 5 + (cF b).length + (cB n).length) (by simp [cP_len, Nat.add_assoc]) (by simp [cP_len, Nat.add_assoc]),
    flt_pre (tx := tB a b n ++ r) (pre := cB a ++ (cP ++ (cF b ++ cB n))) (ct := cP) (rest := r) (by unfold tB; simp) (cP_ok _) (by decide) 56 _ ((cB a).length + 5 + (cF b).length + (cB n).length + 5) (by simp [cP_len, Nat.add_assoc]) (by simp [cP_len, Nat.add_assoc])]
theorem tB_flt (a b n : Nat) (ha : a < 16) (hb : b < 16) (hn : n < 16) : flt (tB a b n) 61 0 = -1005 := by
  have e := tB_fl a b n ha hb hn []
  rw [List.append_nil] at e
  rw [e]
  exact flt_end _ _
theorem tB_fx (a b n : Nat) (ha : a < 16) (hb : b < 16) (hn : n < 16) : flt (tB a b n ++ [120]) 61 0 = ((tB a b n).length : Int) := by
  rw [tB_fl a b n ha hb hn [120]]
  exact flt_no (tB a b n) [120] cX_ok (by decide) 55
theorem tB_rn (w : Nat) {n a b : Nat} {B : Nat → Int} (hB : mBd B n) (hn : n ≤ 15) (ha : a < n) (hb : b < n) : rnF w n (tB a b n) 61 0 B 0 = (3, upB (upB B a 3) b 0) := by
  have l1 := cB_len a
  have l2 := cF_len b
  have l3 := cB_len n
  have h2 := upB_bd (f := a) (v := 3) hB (by omega)
  rw [rnF_pre (tx := tB a b n) (pre := []) (ct := cB a) (rest := cP ++ (cF b ++ (cB n ++ cP))) rfl (cB_ok a (by omega) _) l1.1 (exC_b ha (hB a ha).1) 60 0 0 (cB a).length rfl (by simp),
    rnF_pre (tx := tB a b n) (pre := cB a) (ct := cP) (rest := cF b ++ (cB n ++ cP)) rfl (cP_ok _) (by decide) exC_p 59 _ _ ((cB a).length + 5) rfl rfl,
    rnF_pre (tx := tB a b n) (pre := cB a ++ cP) (ct := cF b) (rest := cB n ++ cP) (by unfold tB; simp) (cF_ok b (by omega) _) l2.1 (exC_f hb (h2 b hb).1) 58 _ _ ((cB a).length + 5 + (cF b).length) (by simp [cP_len]) (by simp [cP_len])]
  have e := rnF_no w n (cB a ++ (cP ++ cF b)) (cB n) cP (cB_ok n (by omega) _) l3.1 (exC_n (w := w) (n := n) (B := upB (upB B a 3) b 0)) 57 3
  rw [show cB a ++ (cP ++ cF b) ++ (cB n ++ cP) = tB a b n by unfold tB; simp, show (cB a ++ (cP ++ cF b)).length = (cB a).length + 5 + (cF b).length by simp [cP_len, Nat.add_assoc]] at e
  exact e
theorem cM_flt (a t u : Nat) (ha : a < 15) (ht : t < 15) (hu : u < 15) : flt (cM a t u) 61 0 = -1005 := by
  have h := cM_ok a ha t ht u hu
  have l : 0 < (cM a t u).length := by unfold cM; simp
  rw [flt_pre (tx := cM a t u) (pre := []) (ct := cM a t u) (rest := []) (by simp) (by rw [List.append_nil]; exact h) l 60 0 (cM a t u).length rfl (by simp)]
  exact flt_end _ _
theorem cM_rn (w : Nat) {n a t u : Nat} {B : Nat → Int} (ha : a < 15) (ht : t < 15) (hu : u < 15) (hn : a < n ∧ t < n ∧ u < n) : rnF w n (cM a t u) 61 0 B 0 = (if (a, t, u) ∈ mvs w n B 1 then (1, aftB B (a, t, u) 1) else (0, B)) := by
  have h := cM_ok a ha t ht u hu
  have l : 0 < (cM a t u).length := by unfold cM; simp
  have e : aMove w n B (([1, a, t, u].getD 0 0 : Nat) : Int) (([1, a, t, u].getD 1 0 : Nat) : Int) (([1, a, t, u].getD 2 0 : Nat) : Int) (([1, a, t, u].getD 3 0 : Nat) : Int) = if (a, t, u) ∈ mvs w n B 1 then ((mvs w n (aftB B (a, t, u) 1) (3 - 1)).length : Int) else -1002 := by
    show aMove w n B 1 (a : Int) (t : Int) (u : Int) = _
    unfold aMove
    rw [if_pos ⟨Or.inl rfl, by omega, by omega, by omega, by omega, by omega, by omega⟩]
    simp only [Int.toNat_natCast]
  by_cases q : (a, t, u) ∈ mvs w n B 1
  · rw [if_pos q] at e ⊢
    have ex : exC w n B 4 [1, a, t, u] = some (aftB B (a, t, u) 1) := by
      unfold exC
      rw [if_neg (by omega), if_neg (by omega), e, if_neg (by omega)]
      rfl
    rw [rnF_pre (tx := cM a t u) (pre := []) (ct := cM a t u) (rest := []) (by simp) (by rw [List.append_nil]; exact h) l ex 60 0 0 (cM a t u).length rfl (by simp)]
    exact rnF_end _ _ _ _ _ _
  · rw [if_neg q] at e ⊢
    have ex : exC w n B 4 [1, a, t, u] = none := by
      unfold exC
      rw [if_neg (by omega), if_neg (by omega), e, if_pos (by omega)]
    have z := rnF_no w n [] (cM a t u) [] (by rw [List.append_nil]; exact h) l ex 60 0
    simp only [List.append_nil, List.nil_append] at z
    exact z
theorem nil_rn (w n : Nat) (B : Nat → Int) : rnF w n [] 61 0 B 0 = (0, B) := rfl
theorem nil_flt : flt [] 61 0 = -1005 := rfl
