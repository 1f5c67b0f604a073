/-! the reference: the board's calls -/
def aSet (n : Nat) (B : Nat → Int) (f v : Int) : Int := if 0 ≤ f ∧ f < n ∧ 0 ≤ v ∧ v ≤ 3 then (if (v = 1 ∨ v = 2) ∧ B f.toNat ≠ v ∧ cntZ B v n = 3 then -1003 else B f.toNat) else -1001
def upB (B : Nat → Int) (f : Nat) (v : Int) : Nat → Int := fun j => if j = f then v else B j
theorem upS_61 (S : gS) (v f : Nat) (z : Int) : upS S v f z v = upB (S v) f z := by
  funext j
  rw [upS_if]
  unfold upB
  by_cases q : j = f
  · rw [if_pos ⟨rfl, q⟩, if_pos q]
  · rw [if_neg (fun e => q e.2), if_neg q]
theorem t_X9_setField (E : gE) (S : gS) (w h n : Nat) (hg : mG S w h n) (hB : mBd (S 61) n) (hs : List hEn) (hh : mHs S hs) (f v : Int) (hf : R32 f) (hv : R32 v) : Ct E LAY mX9_setField [.ref (gad E 27), iV f, iV v] S (fun r S' => r = some (iV (aSet n (S 61) f v)) ∧ (aSet n (S 61) f v < 0 → S = S') ∧ (0 ≤ aSet n (S 61) f v → Eqx [52, 61, 63] S S' ∧ S' 61 = upB (S 61) f.toNat v ∧ mHs S' (hpush hs (w, h, S 61)))) := by
  have hn := hg.n15
  refine Ct.intro LAY_ok (by decide +kernel) (Nat.le_of_ble_eq_true rfl) rfl ?_
  intro Z hZ
  refine g_aload_n hZ dX9_setField_0 rfl ?_
  refine g_iload_n hZ dX9_setField_1 rfl ?_
  refine g_iload_n hZ dX9_setField_2 rfl ?_
  refine g_callV hZ (t_X9_inWay E S w h n hg hB f v hf hv) kX9_88 ⟨by decide, by decide⟩ rfl rfl rfl rfl (Nat.le_of_ble_eq_true rfl) dX9_setField_3 ?_
  rintro _ _ ⟨rfl, z, rfl, hz⟩
  have hz2 : (z < 0 ∧ aSet n (S 61) f v = z) ∨ (z = 0 ∧ (0 ≤ f ∧ f < n ∧ 0 ≤ v ∧ v ≤ 3) ∧ aSet n (S 61) f v = S 61 f.toNat) := by
    unfold aSet
    rcases hz with ⟨a1, a2⟩ | ⟨a1, a2, a3⟩ | ⟨a1, a2, a3⟩
    · exact Or.inl ⟨by omega, by rw [if_neg a1, a2]⟩
    · exact Or.inl ⟨by omega, by rw [if_pos a1, if_pos a2, a3]⟩
    · exact Or.inr ⟨by omega, a1, by rw [if_pos a1, if_neg a2]⟩
  have hzr : R32 z := by omega
  refine g_istore_n hZ dX9_setField_6 (by decide) ?_
  refine g_iload_n hZ dX9_setField_7 rfl ?_
  refine g_if_ge hZ 13 dX9_setField_8 rfl (by omega) (fun c => ?_) (fun c => ?_)
  · have hz3 := hz2.resolve_left (by omega)
    have hBf := hB f.toNat (by omega)
    have e1 : f = ((f.toNat : Nat) : Int) := (Int.toNat_of_nonneg hz3.2.1.1).symm
    refine g_aload_n hZ dX9_setField_13 rfl ?_
    refine g_callV hZ (t_X9_keeps E S w h n hg hs hh) kX9_71 ⟨by decide, by decide⟩ rfl rfl rfl rfl (Nat.le_of_ble_eq_true rfl) dX9_setField_14 ?_
    rintro _ S₁ ⟨rfl, he₁, hh₁⟩
    refine g_aload_n hZ dX9_setField_17 rfl ?_
    refine g_iload_n hZ dX9_setField_18 rfl ?_
    refine g_iload_n hZ dX9_setField_19 rfl ?_
    refine g_callV hZ (As := [iV f, iV v]) (by rw [e1]; exact t_X9_puts E S₁ f.toNat v (by omega)) kX9_92 ⟨by decide, by decide⟩ rfl rfl rfl rfl (Nat.le_of_ble_eq_true rfl) dX9_setField_20 ?_
    rintro _ _ ⟨rfl, rfl⟩
    refine g_iret hZ dX9_setField_23 rfl ⟨?_, fun q => ?_, fun _ => ⟨(he₁.mono rfl).up rfl, ?_, hh₁.x (Eqx.rf.up (vs := [61]) rfl) rfl rfl⟩⟩
    · rw [hz3.2.2]; exact congrArg (fun z => some (iV z)) (he₁ 61 _ rfl)
    · omega
    · rw [upS_61, show S₁ 61 = S 61 from funext fun j => he₁ 61 j rfl]
  · have hz3 := hz2.resolve_right (by omega)
    refine g_iload_n hZ dX9_setField_11 rfl ?_
    refine g_iret hZ dX9_setField_12 rfl ⟨by rw [hz3.2], fun _ => rfl, fun q => by omega⟩
theorem t_X9_field (E : gE) (S : gS) (w h n : Nat) (hg : mG S w h n) (f : Int) (hf : R32 f) : Ct E LAY mX9_field [.ref (gad E 27), iV f] S (fun r S' => S = S' ∧ r = some (iV (if 0 ≤ f ∧ f < n then S 61 f.toNat else -1001))) := by
  have hn := hg.n15
  refine Ct.intro LAY_ok (by decide +kernel) (Nat.le_of_ble_eq_true rfl) rfl ?_
  intro Z hZ
  refine g_aload_n hZ dX9_field_0 rfl ?_
  refine g_iload_n hZ dX9_field_1 rfl ?_
  refine g_callV hZ (t_X9_isField E S w h n hg f hf) kX9_77 ⟨by decide, by decide⟩ rfl rfl rfl rfl (Nat.le_of_ble_eq_true rfl) dX9_field_2 ?_
  rintro _ _ ⟨rfl, z1, rfl, hz1⟩
  rcases hz1 with ⟨rfl, hz1⟩ | ⟨rfl, hz1⟩
  · refine g_if_eq hZ 17 dX9_field_5 rfl (by omega) (fun cX => absurd cX (by omega)) (fun _ => ?_)
    refine g_aload_n hZ dX9_field_8 rfl ?_
    refine g_getr hZ fX9_16 rfl rfl dX9_field_9 ?_
    refine g_iload_n hZ dX9_field_12 rfl ?_
    refine g_iald hZ (f.toNat) rfl dX9_field_13 ((Int.toNat_of_nonneg hz1.1).symm) (by omega) (by decide) (rfl) ?_
    refine g_goto hZ 20 dX9_field_14 rfl ?_
    refine g_iret hZ dX9_field_20 rfl ⟨rfl, by rw [if_pos hz1]⟩
  · refine g_if_eq hZ 17 dX9_field_5 rfl (by omega) (fun _ => ?_) (fun cX => absurd (by omega) cX)
    refine g_sipush hZ (z := (-1001)) dX9_field_17 rfl ?_
    refine g_iret hZ dX9_field_20 rfl ⟨rfl, by rw [if_neg hz1]⟩
theorem t_X9_count (E : gE) (S : gS) (w h n : Nat) (hg : mG S w h n) (hB : mBd (S 61) n) (v : Int) (hv : R32 v) : Ct E LAY mX9_count [.ref (gad E 27), iV v] S (fun r S' => S = S' ∧ r = some (iV (if 0 ≤ v ∧ v ≤ 3 then (cntZ (S 61) v n : Int) else -1001))) := by
  refine Ct.intro LAY_ok (by decide +kernel) (Nat.le_of_ble_eq_true rfl) rfl ?_
  intro Z hZ
  refine g_iload_n hZ dX9_count_0 rfl ?_
  refine g_iconst hZ dX9_count_1 ?_
  refine g_iconst hZ dX9_count_2 ?_
  refine g_callS hZ (t_X9_in E S v 0 3 hv (by omega) (by omega)) kX9_64 ⟨by decide, by decide⟩ rfl rfl (Nat.le_of_ble_eq_true rfl) dX9_count_3 ?_
  rintro _ _ ⟨rfl, z1, rfl, hz1⟩
  rcases hz1 with ⟨rfl, hz1⟩ | ⟨rfl, hz1⟩
  · refine g_if_eq hZ 17 dX9_count_6 rfl (by omega) (fun cX => absurd cX (by omega)) (fun _ => ?_)
    refine g_aload_n hZ dX9_count_9 rfl ?_
    refine g_iload_n hZ dX9_count_10 rfl ?_
    refine g_callV hZ (t_X9_counted E S w h n hg v hv hB) kX9_84 ⟨by decide, by decide⟩ rfl rfl rfl rfl (Nat.le_of_ble_eq_true rfl) dX9_count_11 ?_
    rintro _ _ ⟨rfl, rfl⟩
    refine g_goto hZ 20 dX9_count_14 rfl ?_
    refine g_iret hZ dX9_count_20 rfl ⟨rfl, by rw [if_pos hz1]⟩
  · refine g_if_eq hZ 17 dX9_count_6 rfl (by omega) (fun _ => ?_) (fun cX => absurd (by omega) cX)
    refine g_sipush hZ (z := (-1001)) dX9_count_17 rfl ?_
    refine g_iret hZ dX9_count_20 rfl ⟨rfl, by rw [if_neg hz1]⟩
def aMove (w n : Nat) (B : Nat → Int) (s a t u : Int) : Int := if (s = 1 ∨ s = 2) ∧ 0 ≤ a ∧ a < n ∧ 0 ≤ t ∧ t < n ∧ 0 ≤ u ∧ u < n then (if (a.toNat, t.toNat, u.toNat) ∈ mvs w n B s then ((mvs w n (aftB B (a.toNat, t.toNat, u.toNat) s) (3 - s)).length : Int) else -1002) else -1001
theorem t_X9_move (E : gE) (S : gS) (w h n : Nat) (hg : mG S w h n) (hB : mBd (S 61) n) (hc : mC3 (S 61) n) (hs : List hEn) (hh : mHs S hs) (s a t u : Int) (rs : R32 s) (ra : R32 a) (rt : R32 t) (ru : R32 u) : Ct E LAY mX9_move [.ref (gad E 27), iV s, iV a, iV t, iV u] S (fun r S' => r = some (iV (aMove w n (S 61) s a t u)) ∧ (aMove w n (S 61) s a t u < 0 → Eqx [55, 62, 66] S S') ∧ (0 ≤ aMove w n (S 61) s a t u → Eqx [52, 55, 61, 62, 63, 66] S S' ∧ S' 61 = aftB (S 61) (a.toNat, t.toNat, u.toNat) s ∧ mHs S' (hpush hs (w, h, S 61)))) := by
  have hn := hg.n15
  refine Ct.intro LAY_ok (by decide +kernel) (Nat.le_of_ble_eq_true rfl) rfl ?_
  intro Z hZ
  refine g_aload_n hZ dX9_move_0 rfl ?_
  refine g_iload_n hZ dX9_move_1 rfl ?_
  refine g_iload_n hZ dX9_move_2 rfl ?_
  refine g_iload_n hZ dX9_move_3 rfl ?_
  refine g_iload hZ dX9_move_4 rfl ?_
  refine g_callV hZ (t_X9_noMove E S w h n hg hB hc s a t u rs ra rt ru) kX9_112 ⟨by decide, by decide⟩ rfl rfl rfl rfl (Nat.le_of_ble_eq_true rfl) dX9_move_6 ?_
  rintro _ S₁ ⟨he₁, z, rfl, hz⟩
  have hz2 : (z < 0 ∧ aMove w n (S 61) s a t u = z) ∨ (z = 0 ∧ ((s = 1 ∨ s = 2) ∧ 0 ≤ a ∧ a < n ∧ 0 ≤ t ∧ t < n ∧ 0 ≤ u ∧ u < n) ∧ (a.toNat, t.toNat, u.toNat) ∈ mvs w n (S 61) s ∧ aMove w n (S 61) s a t u = ((mvs w n (aftB (S 61) (a.toNat, t.toNat, u.toNat) s) (3 - s)).length : Int)) := by
    unfold aMove
    rcases hz with ⟨a1, a2⟩ | ⟨a1, a2, a3⟩ | ⟨a1, a2, a3⟩
    · exact Or.inl ⟨by omega, by rw [if_neg a1, a2]⟩
    · exact Or.inr ⟨by omega, a1, a2, by rw [if_pos a1, if_pos a2]⟩
    · exact Or.inl ⟨by omega, by rw [if_pos a1, if_neg a2, a3]⟩
  have hzr : R32 z := by unfold mNo at hz; omega
  refine g_istore hZ dX9_move_9 (by decide) ?_
  refine g_iload hZ dX9_move_11 rfl ?_
  refine g_if_ge hZ 19 dX9_move_13 rfl (by omega) (fun c => ?_) (fun c => ?_)
  · obtain ⟨-, hv, hin, e9⟩ := hz2.resolve_left (by omega)
    have hg₁ := hg.x he₁ rfl rfl
    refine g_aload_n hZ dX9_move_19 rfl ?_
    refine g_callV hZ (t_X9_keeps E S₁ w h n hg₁ hs (hh.x he₁ rfl rfl)) kX9_71 ⟨by decide, by decide⟩ rfl rfl rfl rfl (Nat.le_of_ble_eq_true rfl) dX9_move_20 ?_
    rintro _ S₂ ⟨rfl, he₂, hh₂⟩
    have e61 : S₂ 61 = S 61 := funext fun j => (he₂ 61 j rfl).trans (he₁ 61 j rfl)
    have e61' : S₁ 61 = S 61 := funext fun j => he₁ 61 j rfl
    have hg₂ := hg₁.x he₂ rfl rfl
    have ea : a = ((a.toNat : Nat) : Int) := by omega
    have et : t = ((t.toNat : Nat) : Int) := by omega
    have eu : u = ((u.toNat : Nat) : Int) := by omega
    refine g_aload_n hZ dX9_move_23 rfl ?_
    refine g_iload_n hZ dX9_move_24 rfl ?_
    refine g_iload_n hZ dX9_move_25 rfl ?_
    refine g_iload_n hZ dX9_move_26 rfl ?_
    refine g_iload hZ dX9_move_27 rfl ?_
    refine g_callV hZ (As := [iV s, iV a, iV t, iV u]) (by have := t_X9_goes E S₂ w h n hg₂ (by rw [e61]; exact hB) (by rw [e61]; exact hc) s hv.1 (a.toNat, t.toNat, u.toNat) (by rw [e61]; exact hin); rw [← ea, ← et, ← eu] at this; exact this) kX9_116 ⟨by decide, by decide⟩ rfl rfl rfl rfl (Nat.le_of_ble_eq_true rfl) dX9_move_29 ?_
    rintro _ S₃ ⟨rfl, he₃, h61⟩
    rw [e61] at h61
    refine g_iret hZ dX9_move_32 rfl ⟨by rw [e9, e61], fun q => by omega, fun _ => ⟨((he₁.mono rfl).tr (he₂.mono rfl)).tr (he₃.mono rfl), h61, ?_⟩⟩
    rw [e61'] at hh₂
    exact hh₂.x he₃ rfl rfl
  · have hz3 := hz2.resolve_right (by omega)
    refine g_iload hZ dX9_move_16 rfl ?_
    refine g_iret hZ dX9_move_18 rfl ⟨by rw [hz3.2], fun _ => he₁, fun q => by omega⟩
theorem t_X9_moves (E : gE) (S : gS) (w h n : Nat) (hg : mG S w h n) (hB : mBd (S 61) n) (hc : mC3 (S 61) n) (s : Int) (rs : R32 s) : Ct E LAY mX9_moves [.ref (gad E 27), iV s] S (fun r S' => Eqx [55, 62, 66] S S' ∧ r = some (iV (if s = 1 ∨ s = 2 then ((mvs w n (S 61) s).length : Int) else -1001))) := by
  refine Ct.intro LAY_ok (by decide +kernel) (Nat.le_of_ble_eq_true rfl) rfl ?_
  intro Z hZ
  refine g_iload_n hZ dX9_moves_0 rfl ?_
  refine g_callS hZ (t_X9_isSide E S s rs) kX9_81 ⟨by decide, by decide⟩ rfl rfl (Nat.le_of_ble_eq_true rfl) dX9_moves_1 ?_
  rintro _ _ ⟨rfl, z1, rfl, hz1⟩
  rcases hz1 with ⟨rfl, hz1⟩ | ⟨rfl, hz1⟩
  · refine g_if_eq hZ 15 dX9_moves_4 rfl (by omega) (fun cX => absurd cX (by omega)) (fun _ => ?_)
    refine g_aload_n hZ dX9_moves_7 rfl ?_
    refine g_iload_n hZ dX9_moves_8 rfl ?_
    refine g_callV hZ (t_X9_movesNow E S w h n hg hB s hz1 (hc.s hz1)) kX9_109 ⟨by decide, by decide⟩ rfl rfl rfl rfl (Nat.le_of_ble_eq_true rfl) dX9_moves_9 ?_
    rintro _ S₁ ⟨rfl, hm₁, -⟩
    refine g_goto hZ 18 dX9_moves_12 rfl ?_
    refine g_iret hZ dX9_moves_18 rfl ⟨hm₁.1, by rw [if_pos hz1]⟩
  · refine g_if_eq hZ 15 dX9_moves_4 rfl (by omega) (fun _ => ?_) (fun cX => absurd (by omega) cX)
    refine g_sipush hZ (z := (-1001)) dX9_moves_15 rfl ?_
    refine g_iret hZ dX9_moves_18 rfl ⟨Eqx.rf, by rw [if_neg hz1]⟩
/-- what moveAt answers of a move -/
def mpart (q : Nat × Nat × Nat) (v : Int) : Int := if v = 0 then (q.1 : Int) else if v = 1 then (q.2.1 : Int) else (q.2.2 : Int)
def aMoveAt (w n : Nat) (B : Nat → Int) (s i v : Int) : Int := if (s = 1 ∨ s = 2) ∧ 0 ≤ i ∧ 0 ≤ v ∧ v ≤ 2 then (match (mvs w n B s)[i.toNat]? with | some q => mpart q v | none => -1005) else -1001
theorem t_X9_moveAt (E : gE) (S : gS) (w h n : Nat) (hg : mG S w h n) (hB : mBd (S 61) n) (hc : mC3 (S 61) n) (s i v : Int) (rs : R32 s) (ri : R32 i) (rv : R32 v) : Ct E LAY mX9_moveAt [.ref (gad E 27), iV s, iV i, iV v] S (fun r S' => Eqx [55, 62, 66] S S' ∧ r = some (iV (aMoveAt w n (S 61) s i v))) := by
  have hn := hg.n15
  refine Ct.intro LAY_ok (by decide +kernel) (Nat.le_of_ble_eq_true rfl) rfl ?_
  intro Z hZ
  have bad : ¬ ((s = 1 ∨ s = 2) ∧ 0 ≤ i ∧ 0 ≤ v ∧ v ≤ 2) → Z S [(0, .ref (gad E 27)), (1, iV s), (2, iV i), (3, iV v)] 20 [] := by
    intro hb
    refine g_sipush hZ (z := (-1001)) dX9_moveAt_20 rfl ?_
    refine g_iret hZ dX9_moveAt_23 rfl ⟨Eqx.rf, by unfold aMoveAt; rw [if_neg hb]⟩
  refine g_iload_n hZ dX9_moveAt_0 rfl ?_
  refine g_callS hZ (t_X9_isSide E S s rs) kX9_81 ⟨by decide, by decide⟩ rfl rfl (Nat.le_of_ble_eq_true rfl) dX9_moveAt_1 ?_
  rintro _ _ ⟨rfl, z1, rfl, hz1⟩
  rcases hz1 with ⟨rfl, hz1⟩ | ⟨rfl, hz1⟩
  · refine g_if_eq hZ 20 dX9_moveAt_4 rfl (by omega) (fun cX => absurd cX (by omega)) (fun _ => ?_)
    refine g_iload_n hZ dX9_moveAt_7 rfl ?_
    refine g_if_lt hZ 20 dX9_moveAt_8 rfl (by omega) (fun c1 => ?_) (fun c1 => ?_)
    · exact bad (by omega)
    · refine g_iload_n hZ dX9_moveAt_11 rfl ?_
      refine g_iconst hZ dX9_moveAt_12 ?_
      refine g_iconst hZ dX9_moveAt_13 ?_
      refine g_callS hZ (t_X9_in E S v 0 2 rv (by omega) (by omega)) kX9_64 ⟨by decide, by decide⟩ rfl rfl (Nat.le_of_ble_eq_true rfl) dX9_moveAt_14 ?_
      rintro _ _ ⟨rfl, z2, rfl, hz2⟩
      rcases hz2 with ⟨rfl, hz2⟩ | ⟨rfl, hz2⟩
      · refine g_if_ne hZ 24 dX9_moveAt_17 rfl (by omega) (fun _ => ?_) (fun cX => absurd cX (by omega))
        have hv : (s = 1 ∨ s = 2) ∧ 0 ≤ i ∧ 0 ≤ v ∧ v ≤ 2 := ⟨hz1, by omega, hz2.1, hz2.2⟩
        have hbnd := mvs_bound (w := w) (B := S 61) (s := s) hn (hc.s hz1)
        have hfx : ∀ q ∈ mvs w n (S 61) s, q.1 < n ∧ q.2.1 < n ∧ q.2.2 < n := fun q hq => ⟨(mvs_in hq).1, (mvs_in hq).2.1, (mvs_in hq).2.2.1⟩
        refine g_aload_n hZ dX9_moveAt_24 rfl ?_
        refine g_iload_n hZ dX9_moveAt_25 rfl ?_
        refine g_callV hZ (t_X9_movesNow E S w h n hg hB s hz1 (hc.s hz1)) kX9_109 ⟨by decide, by decide⟩ rfl rfl rfl rfl (Nat.le_of_ble_eq_true rfl) dX9_moveAt_26 ?_
        rintro _ S₁ ⟨rfl, hm₁, -⟩
        have hlen := hm₁.2.1
        refine g_pop hZ dX9_moveAt_29 rfl ?_
        refine g_iload_n hZ dX9_moveAt_30 rfl ?_
        refine g_aload_n hZ dX9_moveAt_31 rfl ?_
        refine g_geti hZ fX9_102 rfl rfl dX9_moveAt_32 hlen ?_
        refine g_icmp_lt hZ 42 dX9_moveAt_35 rfl (by omega) (fun c2 => ?_) (fun c2 => ?_)
        · obtain ⟨q, hq⟩ : ∃ q, (mvs w n (S 61) s)[i.toNat]? = some q := ⟨_, List.getElem?_eq_getElem (by omega)⟩
          have hans : aMoveAt w n (S 61) s i v = mpart q v := by unfold aMoveAt; rw [if_pos hv, hq]
          have hqn := hfx q (List.mem_of_getElem? hq)
          have hfk : S₁ 66 i.toNat = ((225 * q.1 + 15 * q.2.1 + q.2.2 : Nat) : Int) := by rw [hm₁.2.2 _ q hq]; unfold menc; omega
          have d1 : (225 * q.1 + 15 * q.2.1 + q.2.2) / 225 = q.1 := by omega
          have d2 : (225 * q.1 + 15 * q.2.1 + q.2.2) / 15 % 15 = q.2.1 := by omega
          have d3 : (225 * q.1 + 15 * q.2.1 + q.2.2) % 15 = q.2.2 := by omega
          refine g_iload_n hZ dX9_moveAt_42 rfl ?_
          refine g_if_ne hZ 59 dX9_moveAt_43 rfl (by omega) (fun c3 => ?_) (fun c3 => ?_)
          · refine g_iload_n hZ dX9_moveAt_59 rfl ?_
            refine g_iconst hZ dX9_moveAt_60 ?_
            refine g_icmp_ne hZ 79 dX9_moveAt_61 rfl (by omega) (fun c4 => ?_) (fun c4 => ?_)
            · refine g_aload_n hZ dX9_moveAt_79 rfl ?_
              refine g_getr hZ fX9_32 rfl rfl dX9_moveAt_80 ?_
              refine g_iload_n hZ dX9_moveAt_83 rfl ?_
              refine g_iald hZ (i.toNat) rfl dX9_moveAt_84 (by omega) (by omega) (by decide) (hfk) ?_
              refine g_bipush hZ (z := 15) dX9_moveAt_85 rfl ?_
              refine g_irem hZ (b := 15) dX9_moveAt_87 (by omega) (by omega) (by omega) ?_
              rw [d3]
              refine g_iret hZ dX9_moveAt_88 rfl ⟨hm₁.1, by rw [hans]; unfold mpart; rw [if_neg c3, if_neg c4]⟩
            · refine g_aload_n hZ dX9_moveAt_64 rfl ?_
              refine g_getr hZ fX9_32 rfl rfl dX9_moveAt_65 ?_
              refine g_iload_n hZ dX9_moveAt_68 rfl ?_
              refine g_iald hZ (i.toNat) rfl dX9_moveAt_69 (by omega) (by omega) (by decide) (hfk) ?_
              refine g_bipush hZ (z := 15) dX9_moveAt_70 rfl ?_
              refine g_idiv hZ (b := 15) dX9_moveAt_72 (by omega) (by omega) (by omega) ?_
              refine g_bipush hZ (z := 15) dX9_moveAt_73 rfl ?_
              refine g_irem hZ (b := 15) dX9_moveAt_75 (by omega) (by omega) (by omega) ?_
              rw [d2]
              refine g_goto hZ 88 dX9_moveAt_76 rfl ?_
              refine g_iret hZ dX9_moveAt_88 rfl ⟨hm₁.1, by rw [hans]; unfold mpart; rw [if_neg c3, if_pos c4]⟩
          · refine g_aload_n hZ dX9_moveAt_46 rfl ?_
            refine g_getr hZ fX9_32 rfl rfl dX9_moveAt_47 ?_
            refine g_iload_n hZ dX9_moveAt_50 rfl ?_
            refine g_iald hZ (i.toNat) rfl dX9_moveAt_51 (by omega) (by omega) (by decide) (hfk) ?_
            refine g_sipush hZ (z := 225) dX9_moveAt_52 rfl ?_
            refine g_idiv hZ (b := 225) dX9_moveAt_55 (by omega) (by omega) (by omega) ?_
            rw [d1]
            refine g_goto hZ 88 dX9_moveAt_56 rfl ?_
            refine g_iret hZ dX9_moveAt_88 rfl ⟨hm₁.1, by rw [hans]; unfold mpart; rw [if_pos c3]⟩
        · have hnone : (mvs w n (S 61) s)[i.toNat]? = none := List.getElem?_eq_none (by omega)
          refine g_sipush hZ (z := (-1005)) dX9_moveAt_38 rfl ?_
          refine g_iret hZ dX9_moveAt_41 rfl ⟨hm₁.1, by unfold aMoveAt; rw [if_pos hv, hnone]⟩
      · refine g_if_ne hZ 24 dX9_moveAt_17 rfl (by omega) (fun cX => absurd (by omega) cX) (fun _ => ?_)
        exact bad (by omega)
  · refine g_if_eq hZ 20 dX9_moveAt_4 rfl (by omega) (fun _ => ?_) (fun cX => absurd (by omega) cX)
    exact bad (by omega)
def aReset (w h : Nat) (W H : Int) : Int := if 1 ≤ W ∧ W ≤ 5 ∧ 1 ≤ H ∧ H ≤ 5 ∧ W * H ≤ 15 then 10 * (w : Int) + h else -1001
theorem t_X9_reset (E : gE) (S : gS) (w h n : Nat) (hg : mG S w h n) (hs : List hEn) (hh : mHs S hs) (W H : Int) (hW : R32 W) (hH : R32 H) : Ct E LAY mX9_reset [.ref (gad E 27), iV W, iV H] S (fun r S' => r = some (iV (aReset w h W H)) ∧ (aReset w h W H < 0 → S = S') ∧ (0 ≤ aReset w h W H → Eqx [50, 51, 52, 53, 61, 63] S S' ∧ S' 50 0 = W ∧ S' 51 0 = H ∧ S' 53 0 = 0 ∧ (S' 61 = fun k => if k < 15 then 0 else S 61 k) ∧ mHs S' (hpush hs (w, h, S 61)) ∧ gOK W.toNat H.toNat (W.toNat * H.toNat))) := by
  have hn := hg.n15
  obtain ⟨hw, hh1, ow⟩ := hg
  obtain ⟨o1, o2, o3, o4, -, -⟩ := id ow
  refine Ct.intro LAY_ok (by decide +kernel) (Nat.le_of_ble_eq_true rfl) rfl ?_
  intro Z hZ
  have bad : ¬ (1 ≤ W ∧ W ≤ 5 ∧ 1 ≤ H ∧ H ≤ 5 ∧ W * H ≤ 15) → Z S [(0, .ref (gad E 27)), (1, iV W), (2, iV H)] 26 [] := by
    intro hb
    have e9 : aReset w h W H = -1001 := by unfold aReset; rw [if_neg hb]
    refine g_sipush hZ (z := (-1001)) dX9_reset_26 rfl ?_
    refine g_iret hZ dX9_reset_29 rfl ⟨by rw [e9], fun _ => rfl, fun q => by omega⟩
  refine g_iload_n hZ dX9_reset_0 rfl ?_
  refine g_iconst hZ dX9_reset_1 ?_
  refine g_iconst hZ dX9_reset_2 ?_
  refine g_callS hZ (t_X9_in E S W 1 5 hW (by omega) (by omega)) kX9_64 ⟨by decide, by decide⟩ rfl rfl (Nat.le_of_ble_eq_true rfl) dX9_reset_3 ?_
  rintro _ _ ⟨rfl, z1, rfl, hz1⟩
  rcases hz1 with ⟨rfl, hz1⟩ | ⟨rfl, hz1⟩
  · refine g_if_eq hZ 26 dX9_reset_6 rfl (by omega) (fun cX => absurd cX (by omega)) (fun _ => ?_)
    refine g_iload_n hZ dX9_reset_9 rfl ?_
    refine g_iconst hZ dX9_reset_10 ?_
    refine g_iconst hZ dX9_reset_11 ?_
    refine g_callS hZ (t_X9_in E S H 1 5 hH (by omega) (by omega)) kX9_64 ⟨by decide, by decide⟩ rfl rfl (Nat.le_of_ble_eq_true rfl) dX9_reset_12 ?_
    rintro _ _ ⟨rfl, z2, rfl, hz2⟩
    rcases hz2 with ⟨rfl, hz2⟩ | ⟨rfl, hz2⟩
    · refine g_if_eq hZ 26 dX9_reset_15 rfl (by omega) (fun cX => absurd cX (by omega)) (fun _ => ?_)
      have hm1 : W * H ≤ 5 * 5 := Int.mul_le_mul hz1.2 hz2.2 (by omega) (by omega)
      have hm0 : 0 ≤ W * H := Int.mul_nonneg (by omega) (by omega)
      refine g_iload_n hZ dX9_reset_18 rfl ?_
      refine g_iload_n hZ dX9_reset_19 rfl ?_
      refine g_imul hZ dX9_reset_20 ?_
      refine g_bipush hZ (z := 15) dX9_reset_21 rfl ?_
      refine g_icmp_le hZ 30 dX9_reset_23 rfl (by omega) (fun c => ?_) (fun c => ?_)
      · have hall : 1 ≤ W ∧ W ≤ 5 ∧ 1 ≤ H ∧ H ≤ 5 ∧ W * H ≤ 15 := ⟨hz1.1, hz1.2, hz2.1, hz2.2, c⟩
        have e9 : aReset w h W H = 10 * (w : Int) + h := by unfold aReset; rw [if_pos hall]
        refine g_aload_n hZ dX9_reset_30 rfl ?_
        refine g_callV hZ (t_X9_keeps E S w h n ⟨hw, hh1, ow⟩ hs hh) kX9_71 ⟨by decide, by decide⟩ rfl rfl rfl rfl (Nat.le_of_ble_eq_true rfl) dX9_reset_31 ?_
        rintro _ S₁ ⟨rfl, he₁, hh₁⟩
        refine g_bipush hZ (z := 10) dX9_reset_34 rfl ?_
        refine g_aload_n hZ dX9_reset_36 rfl ?_
        refine g_geti hZ fX9_7 rfl rfl dX9_reset_37 ((he₁ 50 0 rfl).trans hw) ?_
        refine g_imul hZ dX9_reset_40 ?_
        refine g_aload_n hZ dX9_reset_41 rfl ?_
        refine g_geti hZ fX9_13 rfl rfl dX9_reset_42 ((he₁ 51 0 rfl).trans hh1) ?_
        refine g_iadd hZ dX9_reset_45 ?_
        refine g_istore_n hZ dX9_reset_46 (by decide) ?_
        refine g_aload_n hZ dX9_reset_47 rfl ?_
        refine g_iload_n hZ dX9_reset_48 rfl ?_
        refine g_puti hZ fX9_7 rfl rfl dX9_reset_49 ?_
        refine g_aload_n hZ dX9_reset_52 rfl ?_
        refine g_iload_n hZ dX9_reset_53 rfl ?_
        refine g_puti hZ fX9_13 rfl rfl dX9_reset_54 ?_
        refine g_iconst hZ dX9_reset_57 ?_
        refine g_istore hZ dX9_reset_58 (by decide) ?_
        have e61 : S₁ 61 = S 61 := funext fun j => he₁ 61 j rfl
        have loop : ∀ (m k : Nat), k + m = 15 → Z (setRow (upS (upS S₁ 50 0 W) 51 0 H) 61 k (fun _ => 0)) [(0, .ref (gad E 27)), (1, iV W), (2, iV H), (3, iV (10 * (w : Int) + h)), (4, iV (k : Int))] 60 [] := by
          intro m
          induction m with
          | zero =>
            intro k hk
            have : k = 15 := by omega
            subst this
            refine g_iload hZ dX9_reset_60 rfl ?_
            refine g_bipush hZ (z := 15) dX9_reset_62 rfl ?_
            refine g_icmp_ge hZ 81 dX9_reset_64 rfl (by omega) (fun _ => ?_) (fun cX => absurd (by omega) cX)
            refine g_aload_n hZ dX9_reset_81 rfl ?_
            refine g_iconst hZ dX9_reset_82 ?_
            refine g_puti hZ fX9_74 rfl rfl dX9_reset_83 ?_
            refine g_iload_n hZ dX9_reset_86 rfl ?_
            refine g_iret hZ dX9_reset_87 rfl ⟨by rw [e9], fun q => by omega, fun _ => ⟨((((he₁.mono rfl).up rfl).up rfl).row rfl).up rfl, rfl, rfl, rfl, ?_, ?_, ?_⟩⟩
            · funext k
              rw [upS_v _ _ (by decide)]
              by_cases q : k < 15
              · rw [setRow_in _ _ q, if_pos q]
              · rw [setRow_j _ _ (by omega), if_neg q, upS_v _ _ (by decide), upS_v _ _ (by decide), e61]
            · exact hh₁.x ((((Eqx.rf (vs := [50, 51, 53, 61])).up rfl).up rfl).row rfl |>.up rfl) rfl rfl
            · refine ⟨by omega, by omega, by omega, by omega, rfl, ?_⟩
              have : ((W.toNat * H.toNat : Nat) : Int) = W * H := by rw [Int.natCast_mul, Int.toNat_of_nonneg (by omega), Int.toNat_of_nonneg (by omega)]
              omega
          | succ m ih =>
            intro k hk
            refine g_iload hZ dX9_reset_60 rfl ?_
            refine g_bipush hZ (z := 15) dX9_reset_62 rfl ?_
            refine g_icmp_ge hZ 81 dX9_reset_64 rfl (by omega) (fun cX => absurd cX (by omega)) (fun _ => ?_)
            refine g_aload_n hZ dX9_reset_67 rfl ?_
            refine g_getr hZ fX9_16 rfl rfl dX9_reset_68 ?_
            refine g_iload hZ dX9_reset_71 rfl ?_
            refine g_iconst hZ dX9_reset_73 ?_
            refine g_iast hZ (k) rfl dX9_reset_74 (rfl) (by omega) (by decide) ?_
            refine g_iinc hZ dX9_reset_75 rfl (by decide) ?_
            refine g_goto hZ 60 dX9_reset_78 rfl ?_
            have e1 := setRow_succ (upS (upS S₁ 50 0 W) 51 0 H) 61 k (fun _ => 0)
            refine g_state hZ e1 ?_
            exact ih (k + 1) (by omega)
        have := loop 15 0 (by omega)
        rw [setRow_0] at this
        exact this
      · exact bad (fun q => c q.2.2.2.2)
    · refine g_if_eq hZ 26 dX9_reset_15 rfl (by omega) (fun _ => ?_) (fun cX => absurd (by omega) cX)
      exact bad (by omega)
  · refine g_if_eq hZ 26 dX9_reset_6 rfl (by omega) (fun _ => ?_) (fun cX => absurd (by omega) cX)
    exact bad (by omega)
theorem t_X9_undo (E : gE) (S : gS) (w h n : Nat) (hg : mG S w h n) (hs : List hEn) (hh : mHs S hs) (hv : ∀ e ∈ hs, e.1 ≤ 5 ∧ e.2.1 ≤ 5) (hk0 : R32 (S 53 0)) : Ct E LAY mX9_undo [.ref (gad E 27)] S (fun r S' => (hs = [] ∧ r = some (iV (-1002)) ∧ S = S') ∨ (∃ gs e, hs = gs ++ [e] ∧ r = some (iV (gs.length : Int)) ∧ Eqx [50, 51, 52, 53, 61] S S' ∧ S' 50 0 = e.1 ∧ S' 51 0 = e.2.1 ∧ S' 53 0 = (if e.1 = w ∧ e.2.1 = h then S 53 0 else 0) ∧ (S' 61 = fun k => if k < 15 then e.2.2 k else S 61 k) ∧ mHs S' gs)) := by
  have hn := hg.n15
  obtain ⟨hw, hh1, o1, o2, o3, o4, -⟩ := hg
  obtain ⟨g1, g2, g3⟩ := id hh
  refine Ct.intro LAY_ok (by decide +kernel) (Nat.le_of_ble_eq_true rfl) rfl ?_
  intro Z hZ
  refine g_aload_n hZ dX9_undo_0 rfl ?_
  refine g_geti hZ fX9_68 rfl rfl dX9_undo_1 g1 ?_
  refine g_if_ne hZ 11 dX9_undo_4 rfl (by omega) (fun c => ?_) (fun c => ?_)
  · obtain ⟨gs, e, rfl⟩ : ∃ gs e, hs = gs ++ [e] := ⟨hs.dropLast, hs.getLast (fun q => by rw [q] at c; simp at c), (List.dropLast_concat_getLast _).symm⟩
    have hl9 : (gs ++ [e]).length = gs.length + 1 := by simp
    obtain ⟨a1, a2, a3⟩ := g3 gs.length e (by rw [List.getElem?_append_right (Nat.le_refl _)]; simp)
    have hve := hv e (by simp)
    have e8 : (((gs ++ [e]).length : Nat) : Int) - 1 = (gs.length : Int) := by omega
    refine g_aload_n hZ dX9_undo_11 rfl ?_
    refine g_dup hZ dX9_undo_12 rfl ?_
    refine g_geti hZ fX9_68 rfl rfl dX9_undo_13 g1 ?_
    refine g_iconst hZ dX9_undo_16 ?_
    refine g_isub hZ dX9_undo_17 ?_
    rw [e8]
    refine g_puti hZ fX9_68 rfl rfl dX9_undo_18 ?_
    refine g_bipush hZ (z := 17) dX9_undo_21 rfl ?_
    refine g_aload_n hZ dX9_undo_23 rfl ?_
    refine g_geti hZ fX9_68 rfl rfl dX9_undo_24 (upS_eq _ _ _ _) ?_
    refine g_imul hZ dX9_undo_27 ?_
    refine g_istore_n hZ dX9_undo_28 (by decide) ?_
    refine g_aload_n hZ dX9_undo_29 rfl ?_
    refine g_aload_n hZ dX9_undo_30 rfl ?_
    refine g_getr hZ fX9_23 rfl rfl dX9_undo_31 ?_
    refine g_iload_n hZ dX9_undo_34 rfl ?_
    refine g_iald hZ ((17 * gs.length)) rfl dX9_undo_35 (by omega) (by omega) (by decide) (a1) ?_
    refine g_aload_n hZ dX9_undo_36 rfl ?_
    refine g_geti hZ fX9_7 rfl rfl dX9_undo_37 hw ?_
    have hrest : ∀ (kz : Int), kz = (if e.1 = w ∧ e.2.1 = h then S 53 0 else 0) → Z (upS S 52 0 (gs.length : Int)) [(0, .ref (gad E 27)), (1, iV (17 * (gs.length : Int)))] 66 [iV kz, .ref (gad E 27)] := by
      intro kz hkz
      refine g_puti hZ fX9_74 rfl rfl dX9_undo_66 ?_
      refine g_aload_n hZ dX9_undo_69 rfl ?_
      refine g_aload_n hZ dX9_undo_70 rfl ?_
      refine g_getr hZ fX9_23 rfl rfl dX9_undo_71 ?_
      refine g_iload_n hZ dX9_undo_74 rfl ?_
      refine g_iald hZ ((17 * gs.length)) rfl dX9_undo_75 (by omega) (by omega) (by decide) (a1) ?_
      refine g_puti hZ fX9_7 rfl rfl dX9_undo_76 ?_
      refine g_aload_n hZ dX9_undo_79 rfl ?_
      refine g_aload_n hZ dX9_undo_80 rfl ?_
      refine g_getr hZ fX9_23 rfl rfl dX9_undo_81 ?_
      refine g_iload_n hZ dX9_undo_84 rfl ?_
      refine g_iconst hZ dX9_undo_85 ?_
      refine g_iadd hZ dX9_undo_86 ?_
      refine g_iald hZ ((17 * gs.length + 1)) rfl dX9_undo_87 (by omega) (by omega) (by decide) (a2) ?_
      refine g_puti hZ fX9_13 rfl rfl dX9_undo_88 ?_
      refine g_iconst hZ dX9_undo_91 ?_
      refine g_istore_n hZ dX9_undo_92 (by decide) ?_
      have loop : ∀ (m k : Nat), k + m = 15 → Z (setRow (upS (upS (upS (upS S 52 0 (gs.length : Int)) 53 0 kz) 50 0 (e.1 : Int)) 51 0 (e.2.1 : Int)) 61 k e.2.2) [(0, .ref (gad E 27)), (1, iV (17 * (gs.length : Int))), (2, iV (k : Int))] 93 [] := by
        intro m
        induction m with
        | zero =>
          intro k hk
          have : k = 15 := by omega
          subst this
          refine g_iload_n hZ dX9_undo_93 rfl ?_
          refine g_bipush hZ (z := 15) dX9_undo_94 rfl ?_
          refine g_icmp_ge hZ 121 dX9_undo_96 rfl (by omega) (fun _ => ?_) (fun cX => absurd (by omega) cX)
          refine g_aload_n hZ dX9_undo_121 rfl ?_
          refine g_geti hZ fX9_68 rfl rfl dX9_undo_122 rfl ?_
          refine g_iret hZ dX9_undo_125 rfl (Or.inr ⟨gs, e, rfl, rfl, ((((Eqx.rf.up rfl).up rfl).up rfl).up rfl).row rfl, rfl, rfl, hkz, ?_, rfl, by omega, fun i e2 hi => ?_⟩)
          · funext k
            by_cases q : k < 15
            · rw [setRow_in _ _ q, if_pos q]
            · rw [setRow_j _ _ (by omega), if_neg q]; rfl
          · exact g3 i e2 (by rw [List.getElem?_append_left (List.getElem?_eq_some_iff.mp hi).1]; exact hi)
        | succ m ih =>
          intro k hk
          refine g_iload_n hZ dX9_undo_93 rfl ?_
          refine g_bipush hZ (z := 15) dX9_undo_94 rfl ?_
          refine g_icmp_ge hZ 121 dX9_undo_96 rfl (by omega) (fun cX => absurd cX (by omega)) (fun _ => ?_)
          refine g_aload_n hZ dX9_undo_99 rfl ?_
          refine g_getr hZ fX9_16 rfl rfl dX9_undo_100 ?_
          refine g_iload_n hZ dX9_undo_103 rfl ?_
          refine g_aload_n hZ dX9_undo_104 rfl ?_
          refine g_getr hZ fX9_23 rfl rfl dX9_undo_105 ?_
          refine g_iload_n hZ dX9_undo_108 rfl ?_
          refine g_iconst hZ dX9_undo_109 ?_
          refine g_iadd hZ dX9_undo_110 ?_
          refine g_iload_n hZ dX9_undo_111 rfl ?_
          refine g_iadd hZ dX9_undo_112 ?_
          refine g_iald hZ ((17 * gs.length + 2 + k)) rfl dX9_undo_113 (by omega) (by omega) (by decide) ((a3 k (by omega))) ?_
          refine g_iast hZ (k) rfl dX9_undo_114 (rfl) (by omega) (by decide) ?_
          refine g_iinc hZ dX9_undo_115 rfl (by decide) ?_
          refine g_goto hZ 93 dX9_undo_118 rfl ?_
          have e1 := setRow_succ (upS (upS (upS (upS S 52 0 (gs.length : Int)) 53 0 kz) 50 0 (e.1 : Int)) 51 0 (e.2.1 : Int)) 61 k e.2.2
          refine g_state hZ e1 ?_
          exact ih (k + 1) (by omega)
      have := loop 15 0 (by omega)
      rw [setRow_0] at this
      exact this
    refine g_icmp_ne hZ 65 dX9_undo_40 rfl (by omega) (fun c2 => ?_) (fun c2 => ?_)
    · refine g_iconst hZ dX9_undo_65 ?_
      exact hrest 0 (by rw [if_neg (by omega)])
    · refine g_aload_n hZ dX9_undo_43 rfl ?_
      refine g_getr hZ fX9_23 rfl rfl dX9_undo_44 ?_
      refine g_iload_n hZ dX9_undo_47 rfl ?_
      refine g_iconst hZ dX9_undo_48 ?_
      refine g_iadd hZ dX9_undo_49 ?_
      refine g_iald hZ ((17 * gs.length + 1)) rfl dX9_undo_50 (by omega) (by omega) (by decide) (a2) ?_
      refine g_aload_n hZ dX9_undo_51 rfl ?_
      refine g_geti hZ fX9_13 rfl rfl dX9_undo_52 hh1 ?_
      refine g_icmp_ne hZ 65 dX9_undo_55 rfl (by omega) (fun c3 => ?_) (fun c3 => ?_)
      · refine g_iconst hZ dX9_undo_65 ?_
        exact hrest 0 (by rw [if_neg (by omega)])
      · refine g_aload_n hZ dX9_undo_58 rfl ?_
        refine g_geti hZ fX9_74 rfl rfl dX9_undo_59 rfl ?_
        refine g_goto hZ 66 dX9_undo_62 rfl ?_
        exact hrest (S 53 0) (by rw [if_pos (by omega)])
  · have : hs = [] := List.eq_nil_of_length_eq_zero (by omega)
    refine g_sipush hZ (z := (-1002)) dX9_undo_7 rfl ?_
    refine g_iret hZ dX9_undo_10 rfl (Or.inl ⟨this, rfl, rfl⟩)
