/-! the law: what holds between its calls, and the class's calls over it -/
def SCR : List Nat := [6, 7, 10, 11, 12, 13, 14, 15, 16, 20, 21, 22, 23, 24, 25, 26, 30, 31, 33, 40, 43]
def hOK (hs : List hEn) : Prop := ∀ e ∈ hs, gOK e.1 e.2.1 (e.1 * e.2.1) ∧ mBd e.2.2 (e.1 * e.2.1) ∧ mC3 e.2.2 (e.1 * e.2.1)
theorem hOK.push {hs : List hEn} {w h n : Nat} {B : Nat → Int} (ho : hOK hs) (hg : gOK w h n) (hB : mBd B n) (hc : mC3 B n) : hOK (hpush hs (w, h, B)) := by
  have e := hg.2.2.2.2.1
  subst e
  intro x hx
  unfold hpush at hx
  rcases List.mem_append.mp hx with z | z
  · by_cases q : hs.length = 8
    · rw [if_pos q] at z; exact ho x (List.mem_of_mem_tail z)
    · rw [if_neg q] at z; exact ho x z
  · rw [List.mem_singleton] at z
    subst z
    exact ⟨hg, hB, hc⟩
def Iv (S : gS) (w h n : Nat) (B : Nat → Int) (hs : List hEn) (kp : List (Nat × Nat)) (tx : List Nat) : Prop := xG S w h n ∧ XB S n B ∧ mBd B n ∧ mC3 B n ∧ XHs S hs ∧ hOK hs ∧ XK S (kX n kp) ∧ kcan n kp ∧ XT S tx
theorem Iv.g {S : gS} {w h n : Nat} {B : Nat → Int} {hs : List hEn} {kp : List (Nat × Nat)} {tx : List Nat} (hI : Iv S w h n B hs kp tx) : gOK w h n := hI.1.2.2.2.2.1
theorem Iv.scr {S S1 : gS} {w h n : Nat} {B : Nat → Int} {hs : List hEn} {kp : List (Nat × Nat)} {tx : List Nat} (hI : Iv S w h n B hs kp tx) (he : Eqx SCR S S1) : Iv S1 w h n B hs kp tx := by
  obtain ⟨a1, a2, a3, a4, a5, a6, a7, a8, a9⟩ := hI
  exact ⟨a1.x he rfl, a2.x he rfl, a3, a4, a5.x he rfl rfl rfl rfl, a6, a7.x he rfl rfl rfl, a8, a9.x he rfl rfl⟩
theorem Iv.kp {S S1 : gS} {w h n : Nat} {B : Nat → Int} {hs : List hEn} {kp kq : List (Nat × Nat)} {tx : List Nat} (hI : Iv S w h n B hs kp tx) (he : Eqx (SCR ++ [32, 34, 35]) S S1) (k1 : XK S1 (kX n kq)) (k3 : kcan n kq) : Iv S1 w h n B hs kq tx := by
  obtain ⟨a1, a2, a3, a4, a5, a6, a7, a8, a9⟩ := hI
  exact ⟨a1.x he rfl, a2.x he rfl, a3, a4, a5.x he rfl rfl rfl rfl, a6, k1, k3, a9.x he rfl rfl⟩
theorem Iv.tx {S S1 : gS} {w h n : Nat} {B : Nat → Int} {hs : List hEn} {kp : List (Nat × Nat)} {tx ty : List Nat} (hI : Iv S w h n B hs kp tx) (he : Eqx (SCR ++ [41, 42]) S S1) (k1 : XT S1 ty) : Iv S1 w h n B hs kp ty := by
  obtain ⟨a1, a2, a3, a4, a5, a6, a7, a8, a9⟩ := hI
  exact ⟨a1.x he rfl, a2.x he rfl, a3, a4, a5.x he rfl rfl rfl rfl, a6, a7.x he rfl rfl rfl, a8, k1⟩
theorem Iv.bd {S S1 : gS} {w h n : Nat} {B B2 : Nat → Int} {hs : List hEn} {kp : List (Nat × Nat)} {tx : List Nat} (hI : Iv S w h n B hs kp tx) (he : Eqx (SCR ++ [0, 36, 37, 38, 39]) S S1) (k1 : XB S1 n B2) (k2 : mBd B2 n) (k3 : mC3 B2 n) (k4 : XHs S1 (hpush hs (w, h, B))) : Iv S1 w h n B2 (hpush hs (w, h, B)) kp tx := by
  have hg := hI.g
  obtain ⟨a1, a2, a3, a4, a5, a6, a7, a8, a9⟩ := hI
  exact ⟨a1.x he rfl, k1, k2, k3, k4, a6.push hg a3 a4, a7.x he rfl rfl rfl, a8, a9.x he rfl rfl⟩
theorem XB.cg {S : gS} {n : Nat} {B B2 : Nat → Int} (h : XB S n B) (hB : ∀ k, k < n → B k = B2 k) : XB S n B2 := by
  obtain ⟨x, e, hx⟩ := h
  exact ⟨x, e, rep_cong hx hB⟩
theorem cntZ_no {f : Nat → Int} {z : Int} : ∀ {n : Nat}, (∀ k, k < n → f k ≠ z) → cntZ f z n = 0
  | 0, _ => rfl
  | n + 1, h => by
    rw [cntZ, cntZ_no (fun k hk => h k (by omega)), if_neg (h n (by omega))]
theorem rnF_ok {w h n : Nat} {tx : List Nat} (hg : gOK w h n) : ∀ (f i : Nat) (B : Nat → Int) (k : Nat), mBd B n → mC3 B n → mBd (rnF w n tx f i B k).2 n ∧ mC3 (rnF w n tx f i B k).2 n
  | 0, _, _, _, hB, hc => ⟨hB, hc⟩
  | f + 1, i, B, k, hB, hc => by
    rw [rnF]
    by_cases q : i < tx.length
    · rw [if_pos q]
      cases hp : pcmd tx i with
      | none => exact ⟨hB, hc⟩
      | some p =>
        simp only
        cases he : exC w n B p.1 p.2.1 with
        | none => exact ⟨hB, hc⟩
        | some B2 =>
          obtain ⟨b1, b2⟩ := exC_ok hg hB hc he
          exact rnF_ok hg f _ B2 _ b1 b2
    · rw [if_neg q]; exact ⟨hB, hc⟩
section CALLS
variable {E : gE} {S : gS} {w h n : Nat} {B : Nat → Int} {hs : List hEn} {kp : List (Nat × Nat)} {tx : List Nat}
abbrev Z0 : Nat → Int := fun _ => 0
theorem q_reset (hI : Iv S w h n B hs kp tx) (W H : Nat) (hW : 1 ≤ W ∧ W ≤ 5) (hH : 1 ≤ H ∧ H ≤ 5) (hN : W * H ≤ 15) : Ct E LAY mX8_reset [.ref (gad E 0), iV (W : Int), iV (H : Int)] S (fun r S' => ∃ z : Int, r = some (iV z) ∧ 0 < z ∧ R32 z ∧ Iv S' W H (W * H) Z0 (hpush hs (w, h, B)) [] tx) := by
  have hg := hI.g
  obtain ⟨a1, a2, a3, a4, a5, a6, a7, a8, a9⟩ := hI
  refine (t_X8_reset E S w h n a1 B a2 hs a5 (W : Int) (H : Int) (by omega) (by omega)).mono fun r S' q => ?_
  obtain ⟨q1, q2, q3⟩ := q
  have hN2 : (W : Int) * (H : Int) ≤ 15 := by exact_mod_cast hN
  have e : aReset w h (W : Int) (H : Int) = 10 * (w : Int) + h := by
    unfold aReset
    rw [if_pos ⟨by omega, by omega, by omega, by omega, hN2⟩]
  have hw := hg
  obtain ⟨w1, w5, h1, h5, -, -⟩ := hw
  rw [e] at q1 q3
  obtain ⟨e1, e2, e3, e4, e5⟩ := q3 (by omega)
  rw [Int.toNat_natCast, Int.toNat_natCast] at e2 e3
  refine ⟨_, q1, by omega, by omega, e2, e3.cg (fun k hk => by rw [if_pos (by omega)]), fun k hk => by show (0 : Int) ≤ 0 ∧ (0 : Int) ≤ 3; omega, ?_, e5, a6.push hg a3 a4, e4, fun e he => by simp at he, a9.x e1 rfl rfl⟩
  constructor
  · rw [cntZ_no (fun k _ => by show (0 : Int) ≠ 1; omega)]; omega
  · rw [cntZ_no (fun k _ => by show (0 : Int) ≠ 2; omega)]; omega
theorem q_setField (hI : Iv S w h n B hs kp tx) (f : Nat) (v : Int) (hf : f < n) (hv : 0 ≤ v ∧ v ≤ 3) (hC : (v = 1 ∨ v = 2) → B f = v ∨ cntZ B v n ≠ 3) : Ct E LAY mX8_setField [.ref (gad E 0), iV (f : Int), iV v] S (fun r S' => r = some (iV (B f)) ∧ Iv S' w h n (upB B f v) (hpush hs (w, h, B)) kp tx) := by
  have hI2 := hI
  obtain ⟨a1, a2, a3, a4, a5, a6, a7, a8, a9⟩ := hI
  have hn := hI2.g.2.2.2.2.2
  refine (t_X8_setField E S w h n a1 B a2 a3 a4 hs a5 (f : Int) v (by omega) (by omega)).mono fun r S' q => ?_
  obtain ⟨q1, q2, q3⟩ := q
  have e : aSet n B (f : Int) v = B f := by
    unfold aSet
    rw [if_pos ⟨by omega, by omega, hv.1, hv.2⟩, if_neg (fun z => by rcases hC z.1 with q | q; exact z.2.1 (by rw [Int.toNat_natCast]; exact q); exact q z.2.2), Int.toNat_natCast]
  have hb := a3 f hf
  have ok := aSet_ok (f := (f : Int)) (v := v) a3 a4 (by rw [e]; omega)
  rw [e] at q1 q3
  obtain ⟨e1, e2, e3⟩ := q3 (by omega)
  rw [Int.toNat_natCast] at e2 ok
  exact ⟨q1, hI2.bd (e1.mono rfl) e2 ok.2.1 ok.2.2 e3⟩
theorem q_setBad (hI : Iv S w h n B hs kp tx) (f v : Int) (rf : R32 f) (rv : R32 v) (hb : ¬ (0 ≤ f ∧ f < n ∧ 0 ≤ v ∧ v ≤ 3)) : Ct E LAY mX8_setField [.ref (gad E 0), iV f, iV v] S (fun r S' => r = some (iV (-1001)) ∧ S = S') := by
  obtain ⟨a1, a2, a3, a4, a5, a6, a7, a8, a9⟩ := hI
  refine (t_X8_setField E S w h n a1 B a2 a3 a4 hs a5 f v rf rv).mono fun r S' q => ?_
  obtain ⟨q1, q2, -⟩ := q
  have e : aSet n B f v = -1001 := by unfold aSet; rw [if_neg hb]
  rw [e] at q1 q2
  exact ⟨q1, q2 (by omega)⟩
theorem q_field (hI : Iv S w h n B hs kp tx) (f : Nat) (hf : f < n) : Ct E LAY mX8_field [.ref (gad E 0), iV (f : Int)] S (fun r S' => S = S' ∧ r = some (iV (B f))) := by
  have hn := hI.g.2.2.2.2.2
  obtain ⟨a1, a2, a3, a4, a5, a6, a7, a8, a9⟩ := hI
  refine (t_X8_field E S w h n a1 B a2 a3 (f : Int) (by omega)).mono fun r S' q => ?_
  rw [if_pos ⟨by omega, by omega⟩, Int.toNat_natCast] at q
  exact q
theorem q_count (hI : Iv S w h n B hs kp tx) (v : Int) (hv : 0 ≤ v ∧ v ≤ 3) : Ct E LAY mX8_count [.ref (gad E 0), iV v] S (fun r S' => S = S' ∧ r = some (iV (cntZ B v n : Int))) := by
  obtain ⟨a1, a2, a3, a4, a5, a6, a7, a8, a9⟩ := hI
  refine (t_X8_count E S w h n a1 B a2 a3 v (by omega)).mono fun r S' q => ?_
  rw [if_pos hv] at q
  exact q
theorem q_isSeen (hI : Iv S w h n B hs kp tx) (f g : Nat) (hf : f < n) (hg : g < n) : Ct E LAY mX8_isSeen [.ref (gad E 0), iV (f : Int), iV (g : Int)] S (fun r S' => S = S' ∧ r = some (iV (if seenB w (frB B) f g = true then 1 else 0))) := by
  have hn := hI.g.2.2.2.2.2
  obtain ⟨a1, a2, a3, a4, a5, a6, a7, a8, a9⟩ := hI
  refine (t_X8_isSeen E S w h n a1 B a2 a3 (f : Int) (g : Int) (by omega) (by omega)).mono fun r S' q => ?_
  rw [if_pos ⟨by omega, by omega, by omega, by omega⟩, Int.toNat_natCast, Int.toNat_natCast] at q
  exact q
theorem q_undo1 {C : Nat → Int} {gs : List hEn} (hI : Iv S w h n C hs kp tx) (hq : hs = gs ++ [(w, h, B)]) (hn : w * h = n) : Ct E LAY mX8_undo [.ref (gad E 0)] S (fun r S' => r = some (iV (gs.length : Int)) ∧ gs.length ≤ 8 ∧ Iv S' w h n B gs kp tx) := by
  obtain ⟨a1, a2, a3, a4, a5, a6, a7, a8, a9⟩ := hI
  refine (t_X8_undo E S w h n a1 C hs a5 (fun e he => (a6 e he).1) (kX n kp) a7).mono fun r S' q => ?_
  rcases q with ⟨q1, -, -⟩ | ⟨gs2, e, q1, q2, q3, q4, q5, q6, q7⟩
  · rw [hq] at q1; simp at q1
  · have q1 := hq.symm.trans q1
    obtain ⟨f1, f2⟩ := List.append_inj' q1 rfl
    subst f1
    cases f2
    have ho := a6 (w, h, B) (by rw [hq]; simp)
    rw [hn] at q4 q5 ho
    rw [if_pos ⟨rfl, rfl⟩] at q6
    have hl := a5.2.1
    rw [hq, List.length_append] at hl
    have h15 := ho.1.2.2.2.2.2
    exact ⟨q2, by omega, q4, q5.cg (fun k hk => by rw [if_pos (by omega)]), ho.2.1, ho.2.2, q7, fun x hx => a6 x (by rw [hq]; exact List.mem_append_left _ hx), q6, a8, a9.x q3 rfl rfl⟩
theorem q_moves (hI : Iv S w h n B hs kp tx) (s : Int) (hs2 : s = 1 ∨ s = 2) : Ct E LAY mX8_moves [.ref (gad E 0), iV s] S (fun r S' => r = some (iV ((mvs w n B s).length : Int)) ∧ Iv S' w h n B hs kp tx) := by
  have hI2 := hI
  obtain ⟨a1, a2, a3, a4, a5, a6, a7, a8, a9⟩ := hI
  refine (t_X8_moves E S w h n a1 B a2 a3 a4 s (by omega)).mono fun r S' q => ?_
  rw [if_pos hs2] at q
  exact ⟨q.2, hI2.scr (q.1.mono rfl)⟩
theorem q_moveAt (hI : Iv S w h n B hs kp tx) (s : Int) (hs2 : s = 1 ∨ s = 2) (i : Nat) (q0 : Nat × Nat × Nat) (hq : (mvs w n B s)[i]? = some q0) (v : Int) (hv : 0 ≤ v ∧ v ≤ 2) : Ct E LAY mX8_moveAt [.ref (gad E 0), iV s, iV (i : Int), iV v] S (fun r S' => r = some (iV (mpart q0 v)) ∧ Iv S' w h n B hs kp tx) := by
  have hI2 := hI
  have hn := hI.g.2.2.2.2.2
  obtain ⟨a1, a2, a3, a4, a5, a6, a7, a8, a9⟩ := hI
  have hl := mvs_bound (w := w) hn (a4.s hs2)
  have hi := (List.getElem?_eq_some_iff.mp hq).1
  refine (t_X8_moveAt E S w h n a1 B a2 a3 a4 s (i : Int) v (by omega) (by omega) (by omega)).mono fun r S' q => ?_
  have e : aMoveAt w n B s (i : Int) v = mpart q0 v := by
    unfold aMoveAt
    rw [if_pos ⟨hs2, by omega, hv.1, hv.2⟩, Int.toNat_natCast, hq]
  rw [e] at q
  exact ⟨q.2, hI2.scr (q.1.mono rfl)⟩
theorem q_move (hI : Iv S w h n B hs kp tx) (s : Int) (hs2 : s = 1 ∨ s = 2) (q0 : Nat × Nat × Nat) (hq : q0 ∈ mvs w n B s) : Ct E LAY mX8_move [.ref (gad E 0), iV s, iV (q0.1 : Int), iV (q0.2.1 : Int), iV (q0.2.2 : Int)] S (fun r S' => r = some (iV ((mvs w n (aftB B q0 s) (3 - s)).length : Int)) ∧ Iv S' w h n (aftB B q0 s) (hpush hs (w, h, B)) kp tx) := by
  have hI2 := hI
  have hg := hI.g
  have hn := hI.g.2.2.2.2.2
  obtain ⟨a1, a2, a3, a4, a5, a6, a7, a8, a9⟩ := hI
  obtain ⟨m1, m2, m3, -⟩ := mvs_facts hg (by omega) hq
  refine (t_X8_move E S w h n a1 B a2 a3 a4 hs a5 s (q0.1 : Int) (q0.2.1 : Int) (q0.2.2 : Int) (by omega) (by omega) (by omega) (by omega)).mono fun r S' q => ?_
  obtain ⟨q1, -, q3⟩ := q
  simp only [Int.toNat_natCast] at q3
  have e : aMove w n B s (q0.1 : Int) (q0.2.1 : Int) (q0.2.2 : Int) = ((mvs w n (aftB B q0 s) (3 - s)).length : Int) := by
    unfold aMove
    simp only [Int.toNat_natCast]
    rw [if_pos ⟨hs2, by omega, by omega, by omega, by omega, by omega, by omega⟩, if_pos hq]
  rw [e] at q1 q3
  obtain ⟨e1, e2, e3⟩ := q3 (by omega)
  refine ⟨q1, hI2.bd (e1.mono rfl) e2 (aftB_bd a3 hs2) ⟨?_, ?_⟩ e3⟩
  · rw [aftB_cnt hg hs2 hq (Or.inl rfl)]; exact a4.1
  · rw [aftB_cnt hg hs2 hq (Or.inr rfl)]; exact a4.2
theorem q_type (hI : Iv S w h n B hs kp tx) (c : Nat) (hc : 32 ≤ c ∧ c ≤ 126) (hl : tx.length < 60) : Ct E LAY mX8_type [.ref (gad E 0), iV (c : Int)] S (fun r S' => r = some (iV ((tx.length + 1 : Nat) : Int)) ∧ Iv S' w h n B hs kp (tx ++ [c])) := by
  have hI2 := hI
  obtain ⟨a1, a2, a3, a4, a5, a6, a7, a8, a9⟩ := hI
  refine (t_X8_type E S tx a9 (c : Int) (by omega)).mono fun r S' q => ?_
  have e : aType tx (c : Int) = ((tx.length + 1 : Nat) : Int) := by
    unfold aType
    rw [if_pos ⟨by omega, by omega⟩, if_neg (by omega)]
  obtain ⟨q1, q2, q3⟩ := q
  rw [e] at q2 q3
  rw [if_pos (by omega), Int.toNat_natCast] at q3
  exact ⟨q2, hI2.tx (q1.mono rfl) q3⟩
theorem q_clearText (hI : Iv S w h n B hs kp tx) : Ct E LAY mX8_clearText [.ref (gad E 0)] S (fun r S' => r = some (iV (tx.length : Int)) ∧ tx.length ≤ 60 ∧ Iv S' w h n B hs kp []) := by
  have hI2 := hI
  obtain ⟨a1, a2, a3, a4, a5, a6, a7, a8, a9⟩ := hI
  refine (t_X8_clearText E S tx a9).mono fun r S' q => ?_
  exact ⟨q.2.1, a9.2.1, hI2.tx (q.1.mono rfl) q.2.2⟩
theorem q_fault (hG : gad E 99 = 1) (hI : Iv S w h n B hs kp tx) (z : Int) (hz : flt tx 61 0 = z) : Ct E LAY mX8_fault [.ref (gad E 0)] S (fun r S' => r = some (iV z) ∧ Iv S' w h n B hs kp tx) := by
  have hI2 := hI
  obtain ⟨a1, a2, a3, a4, a5, a6, a7, a8, a9⟩ := hI
  refine (t_X8_fault E hG S tx a9).mono fun r S' q => ?_
  rw [hz] at q
  exact ⟨q.2, hI2.scr (q.1.mono rfl)⟩
theorem q_run (hG : gad E 99 = 1) (hI : Iv S w h n B hs kp tx) (hz : flt tx 61 0 = -1005) (k : Nat) (C : Nat → Int) (hr : rnF w n tx 61 0 B 0 = (k, C)) : Ct E LAY mX8_run [.ref (gad E 0)] S (fun r S' => r = some (iV (k : Int)) ∧ Iv S' w h n C (hpush hs (w, h, B)) kp tx) := by
  have hI2 := hI
  have hg := hI.g
  obtain ⟨a1, a2, a3, a4, a5, a6, a7, a8, a9⟩ := hI
  refine (t_X8_run E hG S w h n a1 B a2 a3 a4 hs a5 tx a9).mono fun r S' q => ?_
  rcases q with ⟨q1, -, -⟩ | ⟨-, q2, q3, q4, q5⟩
  · exact absurd hz q1
  · have ok := rnF_ok (tx := tx) hg 61 0 B 0 a3 a4
    rw [hr] at q2 q4 ok
    exact ⟨q2, hI2.bd (q3.mono rfl) q4 ok.1 ok.2 q5⟩
theorem q_runBad (hG : gad E 99 = 1) (hI : Iv S w h n B hs kp tx) (hz : flt tx 61 0 ≠ -1005) : Ct E LAY mX8_run [.ref (gad E 0)] S (fun r S' => r = some (iV (-1002)) ∧ Iv S' w h n B hs kp tx) := by
  have hI2 := hI
  obtain ⟨a1, a2, a3, a4, a5, a6, a7, a8, a9⟩ := hI
  refine (t_X8_run E hG S w h n a1 B a2 a3 a4 hs a5 tx a9).mono fun r S' q => ?_
  rcases q with ⟨-, q1, q2⟩ | ⟨q1, -⟩
  · exact ⟨q1, hI2.scr (q2.mono rfl)⟩
  · exact absurd q1 hz
theorem q_regions (hI : Iv S w h n B hs kp tx) : Ct E LAY mX8_regions [.ref (gad E 0)] S (fun r S' => r = some (iV (cntB (rootB (rg w n B)) n : Int)) ∧ Iv S' w h n B hs kp tx) := by
  have hI2 := hI
  obtain ⟨a1, a2, a3, a4, a5, a6, a7, a8, a9⟩ := hI
  refine (t_X8_regions E S w h n a1 B a2 a3).mono fun r S' q => ?_
  exact ⟨q.1, hI2.scr (q.2.mono rfl)⟩
theorem q_value (hI : Iv S w h n B hs kp tx) (i : Int) (ri : R32 i) : Ct E LAY mX8_value [.ref (gad E 0), iV i] S (fun r S' => r = some (iV (aValue w n (rg w n B) B kp i).1) ∧ Iv S' w h n B hs (aValue w n (rg w n B) B kp i).2.1 tx) := by
  have hI2 := hI
  obtain ⟨a1, a2, a3, a4, a5, a6, a7, a8, a9⟩ := hI
  refine (t_X8_value E S w h n a1 B a2 a3 a4 kp a7 a8 i ri).mono fun r S' q => ?_
  exact ⟨q.2.1, hI2.kp (q.1.mono rfl) q.2.2.1 q.2.2.2.1⟩
theorem q_lead (hI : Iv S w h n B hs kp tx) : Ct E LAY mX8_lead [.ref (gad E 0)] S (fun r S' => r = some (iV (aLead w n (rg w n B) B kp).1) ∧ Iv S' w h n B hs (aLead w n (rg w n B) B kp).2.1 tx) := by
  have hI2 := hI
  obtain ⟨a1, a2, a3, a4, a5, a6, a7, a8, a9⟩ := hI
  refine (t_X8_lead E S w h n a1 B a2 a3 a4 kp a7 a8).mono fun r S' q => ?_
  exact ⟨q.2.1, hI2.kp (q.1.mono rfl) q.2.2.1 q.2.2.2.1⟩
theorem q_outcome (hI : Iv S w h n B hs kp tx) : Ct E LAY mX8_outcome [.ref (gad E 0)] S (fun r S' => r = some (iV (aOut w n (cod B n))) ∧ Iv S' w h n B hs kp tx) := by
  have hI2 := hI
  obtain ⟨a1, a2, a3, a4, a5, a6, a7, a8, a9⟩ := hI
  refine (t_X8_outcome E S w h n a1 B a2 a3 a4).mono fun r S' q => ?_
  exact ⟨q.2, hI2.scr (q.1.mono rfl)⟩
theorem q_outcomeOf (hI : Iv S w h n B hs kp tx) (i : Int) (ri : R32 i) : Ct E LAY mX8_outcomeOf [.ref (gad E 0), iV i] S (fun r S' => r = some (iV (aOutOf w n (rg w n B) B i)) ∧ Iv S' w h n B hs kp tx) := by
  have hI2 := hI
  obtain ⟨a1, a2, a3, a4, a5, a6, a7, a8, a9⟩ := hI
  refine (t_X8_outcomeOf E S w h n a1 B a2 a3 a4 i ri).mono fun r S' q => ?_
  exact ⟨q.2, hI2.scr (q.1.mono rfl)⟩
theorem q_length (hI : Iv S w h n B hs kp tx) (s : Int) (rs : R32 s) : Ct E LAY mX8_length [.ref (gad E 0), iV s] S (fun r S' => r = some (iV (aLen w n B s)) ∧ Iv S' w h n B hs kp tx) := by
  have hI2 := hI
  obtain ⟨a1, a2, a3, a4, a5, a6, a7, a8, a9⟩ := hI
  refine (t_X8_length E S w h n a1 B a2 a3 a4 s rs).mono fun r S' q => ?_
  exact ⟨q.2, hI2.scr (q.1.mono rfl)⟩
theorem q_bestMove (hI : Iv S w h n B hs kp tx) (s : Int) (rs : R32 s) : Ct E LAY mX8_bestMove [.ref (gad E 0), iV s] S (fun r S' => r = some (iV (aBest w n B s)) ∧ Iv S' w h n B hs kp tx) := by
  have hI2 := hI
  obtain ⟨a1, a2, a3, a4, a5, a6, a7, a8, a9⟩ := hI
  refine (t_X8_bestMove E S w h n a1 B a2 a3 a4 s rs).mono fun r S' q => ?_
  exact ⟨q.2, hI2.scr (q.1.mono rfl)⟩
theorem q_wins (hI : Iv S w h n B hs kp tx) (s : Int) (rs : R32 s) : Ct E LAY mX8_wins [.ref (gad E 0), iV s] S (fun r S' => r = some (iV (aWins w n B s)) ∧ Iv S' w h n B hs kp tx) := by
  have hI2 := hI
  obtain ⟨a1, a2, a3, a4, a5, a6, a7, a8, a9⟩ := hI
  refine (t_X8_wins E S w h n a1 B a2 a3 a4 s rs).mono fun r S' q => ?_
  exact ⟨q.2, hI2.scr (q.1.mono rfl)⟩
theorem q_zugzwangs (hI : Iv S w h n B hs kp tx) : Ct E LAY mX8_zugzwangs [.ref (gad E 0)] S (fun r S' => r = some (iV (aZug w n B)) ∧ Iv S' w h n B hs kp tx) := by
  have hI2 := hI
  obtain ⟨a1, a2, a3, a4, a5, a6, a7, a8, a9⟩ := hI
  refine (t_X8_zugzwangs E S w h n a1 B a2 a3 a4).mono fun r S' q => ?_
  exact ⟨q.2, hI2.scr (q.1.mono rfl)⟩
end CALLS
