/-! the law: cell, the loop -/
theorem kL_99 : gSt RL 99 mL_cell 2 := ⟨TS_in 301 (by decide +kernel) rfl, TS_in 22 (by decide +kernel) rfl, TS_in 299 (by decide +kernel) rfl, TS_in 300 (by decide +kernel) rfl, by decide +kernel⟩
theorem kL_103 : gSt RL 103 mL_isParted 2 := ⟨TS_in 324 (by decide +kernel) rfl, TS_in 22 (by decide +kernel) rfl, TS_in 322 (by decide +kernel) rfl, TS_in 323 (by decide +kernel) rfl, by decide +kernel⟩
theorem kL_106 : gSt RL 106 mL_draws 4 := ⟨TS_in 306 (by decide +kernel) rfl, TS_in 22 (by decide +kernel) rfl, TS_in 304 (by decide +kernel) rfl, TS_in 305 (by decide +kernel) rfl, by decide +kernel⟩
theorem kL_110 : gSt RL 110 mL_isText 3 := ⟨TS_in 513 (by decide +kernel) rfl, TS_in 22 (by decide +kernel) rfl, TS_in 511 (by decide +kernel) rfl, TS_in 512 (by decide +kernel) rfl, by decide +kernel⟩
theorem kL_114 : gSt RL 114 mL_isSound 3 := ⟨TS_in 663 (by decide +kernel) rfl, TS_in 22 (by decide +kernel) rfl, TS_in 661 (by decide +kernel) rfl, TS_in 662 (by decide +kernel) rfl, by decide +kernel⟩
abbrev SN : gS := fun _ _ => 0
/-- cell's contract: the script lies at b; nothing changes -/
def x_pre (E : gE) (b L : Nat) (xs : Nat → Int32) (sz : Nat) (U : State) : Prop := g_pre E [] sz SN U ∧ va_X b L xs U U.heap ∧ b < U.heap.size
def CtS (E : gE) (b L : Nat) (xs : Nat → Int32) (M : gM) (av : List Value) (Post : Option Value → gS → Prop) : Prop :=
  ∀ sz : Nat, Met E.1 M.1 (gws M) (gRm M) (va_Pc av (x_pre E b L xs sz)) (g_post E [] (g_A E [] sz) Post) 0 0 (g_A E [] sz)
theorem x_blind {E : gE} {b L : Nat} {xs : Nat → Int32} {sz : Nat} {av : List Value} : FrameBlind (va_Pc av (x_pre E b L xs sz)) := by
  intro a U g mk q
  obtain ⟨q0, q1, qX, qb⟩ := q
  exact ⟨q0, (g_blind (E := E) (lay := []) (sz := sz) (S := SN) (av := av) a U g mk ⟨q0, q1⟩).2, va_X.moved (u := U) (U := U.calling g mk a) (Vm.Alike.refl U.vm) qX, qb⟩
theorem CtS.intro {E : gE} {b n : Nat} {xs : Nat → Int32} {M : gM} {av : List Value} {Post : Option Value → gS → Prop} {L : List (Nat × Value)} (hn : n < 2147483648) (hy : plainName M.1.cls = true) (hlen : (lg_sl av).length ≤ M.2.2.1) (hL : lv_args 0 av = L)
    (body : ∀ Z : gS → List (Nat × Value) → Nat → List Value → Prop, Cx Z E [] M Post → (∀ (S : gS) (Lc : List (Nat × Value)) (pc : Nat) (st : List Value) (z : Int) (k : Nat), z = (k : Int) → k < n → decode M.2.1 pc = .ok (.iaload, 1) → Z S Lc (pc + 1) (iV (xs k).toInt :: st) → Z S Lc pc (iV z :: .ref b :: st)) → (∀ (S : gS) (Lc : List (Nat × Value)) (pc : Nat) (st : List Value), decode M.2.1 pc = .ok (.arraylength, 1) → Z S Lc (pc + 1) (iV (n : Int) :: st) → Z S Lc pc (.ref b :: st)) → Z SN L 0 []) : CtS E b n xs M av Post := by
  intro sz
  refine Met.ofW (cc := M.2.1) (maxL := M.2.2.1) (ret := M.2.2.2.1) hy rfl ?_
  intro p e s m args below meth c s₁ B hml hv
  obtain ⟨rfl, ⟨hsz, hP, hK, hD0, hStr⟩, hX, hbl⟩ := hv
  have hts0 := atoms_spec (ws := gws M) B.pre
  have hts : ∀ w ∈ TS, w.before av.toArray s = true := fun w h => hts0 w (List.mem_cons_of_mem _ h)
  have hown : s.vm.findClass M.1.cls = some m.cls := findClass_of_methodNamed B.named
  have hlocks := B.notSynchronized
  have hx := B.exec
  have hb := B.bytes
  have hr := B.returns
  subst hsz
  have hl := lv_entry av (n := M.2.2.1) hlen
  rw [lg_entry_eq]
  generalize (lg_sl av ++ List.replicate (M.2.2.1 - (lg_sl av).length) Slot.unset).toArray = ls at hl ⊢
  rw [hL] at hl
  have hD : va_D (g_A E [] s.heap.size) (g_wl E SN []) := hD0.weaken (fun k q hk _ => g_A_in hk)
  have hbA : ¬ g_A E [] s.heap.size b := fun q => by
    rcases q with ⟨k, hk, -⟩ | q
    · exact absurd hk (Nat.not_lt_zero k)
    · omega
  refine body _ ⟨p, e, gRm M, s, m, av.toArray, below, meth, c, g_A E [] s.heap.size, s.heap, 0, 0, _, rfl, hx, hb, hml, hown, hts, hK, fun q h => Or.inr h, g_ok_of (by decide), ⟨rfl, rfl, Nat.le_refl 0, Nat.le_refl 0⟩, ?_, ?_, ?_, ?_, rfl, hStr⟩ ?_ ?_ s.heap [] ls hP hD va_S.rf hl
  · intro pc S' L' z d hret hpost H locs ls' hP' hD' hS' hl'
    rcases hret with hret | ⟨ty, hret, hz⟩
    · exact W.iret (v := Int32.ofInt z) hx hb (hr.trans hret) (fun t ht hW => ⟨⟨_, S', rfl, hpost, by rw [ht]; exact hP'⟩, hS'.F ht⟩) hS'.2.2 d
    · exact W.zret (v := Int32.ofInt z) (ty := ty) hx hb (hr.trans hret) hz (fun t ht hW => ⟨⟨_, S', rfl, hpost, by rw [ht]; exact hP'⟩, hS'.F ht⟩) hS'.2.2 d
  · intro pc S' L' z d hret hpost H locs ls' hP' hD' hS' hl'
    exact W.lret (v := Int64.ofInt z) hx hb (hr.trans hret) (fun t ht hW => ⟨⟨_, S', rfl, hpost, by rw [ht]; exact hP'⟩, hS'.F ht⟩) hS'.2.2 d
  · intro pc S' L' d hret hpost H locs ls' hP' hD' hS' hl'
    exact W.vret hx hb (hr.trans hret) (fun t ht hW => ⟨⟨_, S', rfl, hpost, by rw [ht]; exact hP'⟩, hS'.F ht⟩) hS'.2.2 d
  · intro pc S' L' a d hret hpost H locs ls' hP' hD' hS' hl'
    obtain ⟨n, hret⟩ := hret
    exact W.aret (v := .ref a) hx hb (hr.trans hret) (Or.inl ⟨n, rfl⟩) (Or.inr ⟨a, rfl⟩) (fun t ht hW => ⟨⟨_, S', rfl, hpost, by rw [ht]; exact hP'⟩, hS'.F ht⟩) hS'.2.2 d
  · intro S Lc pc st z k hz hk d kk H locs ls hP hD hS hl
    subst hz
    have kk := kk H locs ls hP hD hS hl
    refine va_sld hx hb hX hbl hbA hS (gi_in hk (by omega)) d ?_
    rw [gi_cl (by omega)]
    have e2 : iV (xs k).toInt = .int (xs k) := by show Value.int (Int32.ofInt (xs k).toInt) = _; rw [Int32.ofInt_toInt]
    rw [e2] at kk
    exact kk
  · intro S Lc pc st d kk H locs ls hP hD hS hl
    have kk := kk H locs ls hP hD hS hl
    refine va_slen hx hb hX hbl hbA hS d ?_
    have e2 : iV (n : Int) = .int (Int32.ofNat n) := by show Value.int (Int32.ofInt (n : Int)) = _; rw [gi_nat]; rfl
    rw [e2] at kk
    exact kk
theorem t_L_cell (E : gE) (b n : Nat) (xs : Nat → Int32) (hn : n < 2147483648) (k : Nat) (hk : k < 12) : CtS E b n xs mL_cell [.ref b, iV (k : Int)] (fun r _ => ∃ j : Nat, j < 2147483648 ∧ r = some (iV (j : Int))) := by
  refine CtS.intro hn (by decide +kernel) (Nat.le_of_ble_eq_true rfl) rfl ?_
  intro Z hZ hld hln
  have fin : ∀ z : Int, Z SN [(0, .ref b), (1, iV (k : Int))] 20 [iV z] := by
    intro z
    obtain ⟨j, hj, ej⟩ := pk_andE (Int32.ofInt z) (m := Int32.ofInt 2147483647) 31 (by decide)
    refine g_ldc hZ (z := 2147483647) dL_cell_20 (TS_m (by decide +kernel) rfl) ?_
    refine g_iand hZ (z := (j : Int)) dL_cell_22 (by rw [gi_nat]; exact ej) ?_
    exact g_iret hZ dL_cell_23 rfl ⟨j, Nat.lt_of_lt_of_le hj (by decide), rfl⟩
  refine g_iload_n hZ dL_cell_0 rfl ?_
  refine g_aload_n hZ dL_cell_1 rfl ?_
  refine hln _ _ _ _ dL_cell_2 ?_
  refine g_icmp_ge hZ 12 dL_cell_3 rfl (by omega) (fun c1 => ?_) (fun c1 => ?_)
  · refine g_ldc hZ (z := 15485453) dL_cell_12 (TS_m (by decide +kernel) rfl) ?_
    refine g_iload_n hZ dL_cell_14 rfl ?_
    refine g_imul hZ dL_cell_15 ?_
    refine g_sipush hZ (z := 269) dL_cell_16 rfl ?_
    refine g_iadd hZ dL_cell_19 ?_
    exact fin _
  · refine g_aload_n hZ dL_cell_6 rfl ?_
    refine g_iload_n hZ dL_cell_7 rfl ?_
    refine hld _ _ _ _ _ k rfl (by omega) dL_cell_8 ?_
    refine g_goto hZ 20 dL_cell_9 rfl ?_
    exact fin _
abbrev mLw : gM := (x, code, 7, ret, 13, 502)
def LwR (v : Option Value) (_ : gS) : Prop := v = some (iV 1)
def LwC (Z : gS → List (Nat × Value) → Nat → List Value → Prop) (E : gE) (b : Nat) : Prop := Cx Z E LAY mLw LwR ∧ (∀ (S : gS) (Lc : List (Nat × Value)) (pc : Nat) (st : List Value) (z : Int) (k : Nat), z = (k : Int) → k < 12 → (st.map fun v => v.category).sum ≤ 8 → decode code pc = .ok (.invokestatic 99, 3) → (∀ j : Nat, j < 2147483648 → Z S Lc (pc + 3) (iV (j : Int) :: st)) → Z S Lc pc (iV z :: .ref b :: st)) ∧ gad E 99 = 1
def Inv (S : gS) : Prop := ∃ (w h n : Nat) (B : Nat → Int) (hs : List hEn) (kp : List (Nat × Nat)) (tx : List Nat), Iv S w h n B hs kp tx
set_option maxHeartbeats 4000000 in
theorem lw_loop {Z : gS → List (Nat × Value) → Nat → List Value → Prop} {E : gE} {b : Nat} (C : LwC Z E b) : ∀ (t i : Nat) (S : gS) (L9 : List (Nat × Value)), i + t = 6 → Inv S → lkeep L9 [0, 1, 2, 3] = [(0, .ref b), (1, .ref (gad E 0)), (2, iV 1), (3, iV (i : Int))] → Z S L9 12 [] := by
  obtain ⟨hZ, hcell, hG⟩ := id C
  intro t
  induction t with
  | zero =>
    intro i S L9 hi hI hL9
    refine g_keep hZ [0, 1, 2, 3] hL9 ?_
    refine g_iload_n hZ dL_law_12 rfl ?_
    refine g_bipush hZ (z := 6) dL_law_13 rfl ?_
    refine g_icmp_ge hZ 147 dL_law_15 rfl (by omega) (fun _ => ?_) (fun cX => absurd (by omega) cX)
    refine g_iload_n hZ dL_law_147 rfl ?_
    exact g_zret hZ dL_law_148 rfl (Or.inr rfl) rfl
  | succ t ih =>
    intro i S L9 hi hI hL9
    obtain ⟨w, h, n, B, hs, kp, tx, hI⟩ := hI
    refine g_keep hZ [0, 1, 2, 3] hL9 ?_
    refine g_iload_n hZ dL_law_12 rfl ?_
    refine g_bipush hZ (z := 6) dL_law_13 rfl ?_
    refine g_icmp_ge hZ 147 dL_law_15 rfl (by omega) (fun cX => absurd cX (by omega)) (fun _ => ?_)
    refine g_iload_n hZ dL_law_18 rfl ?_
    refine g_if_eq hZ 147 dL_law_19 rfl (by omega) (fun cX => absurd cX (by omega)) (fun _ => ?_)
    refine g_aload_n hZ dL_law_22 rfl ?_
    refine g_iload_n hZ dL_law_23 rfl ?_
    refine hcell _ _ _ _ _ i rfl (by omega) (Nat.zero_le _) dL_law_24 (fun c hc => ?_)
    refine g_istore hZ dL_law_27 (by decide) ?_
    refine g_iconst hZ dL_law_29 ?_
    refine g_iload hZ dL_law_30 rfl ?_
    refine g_iconst hZ dL_law_32 ?_
    refine g_irem hZ (b := 4) dL_law_33 (by omega) (by omega) (by omega) ?_
    refine g_iadd hZ dL_law_34 ?_
    obtain ⟨W, hW⟩ : ∃ W, W = 2 + c % 4 := ⟨_, rfl⟩
    rw [show (2 : Int) + ((c % 4 : Nat) : Int) = (W : Int) by omega]
    have hq : c / 2 ^ 3 ≤ c := Nat.div_le_self _ _
    refine g_istore hZ dL_law_35 (by decide) ?_
    refine g_iconst hZ dL_law_37 ?_
    refine g_iload hZ dL_law_38 rfl ?_
    refine g_iconst hZ dL_law_40 ?_
    refine g_ishr hZ dL_law_41 (gi_shr (k := 3) (by omega) (by omega)) ?_
    refine g_iconst hZ dL_law_42 ?_
    refine g_irem hZ (b := 3) dL_law_43 (by omega) (by omega) (by omega) ?_
    refine g_iadd hZ dL_law_44 ?_
    obtain ⟨H, hH⟩ : ∃ H, H = 1 + c / 2 ^ 3 % 3 := ⟨_, rfl⟩
    rw [show (1 : Int) + ((c / 2 ^ 3 % 3 : Nat) : Int) = (H : Int) by omega]
    obtain ⟨N, hN⟩ : ∃ N, W * H = N := ⟨_, rfl⟩
    have hN15 : N ≤ 15 := by rw [← hN]; exact Nat.mul_le_mul (show W ≤ 5 by omega) (show H ≤ 3 by omega)
    have eN : (W : Int) * (H : Int) = (N : Int) := by rw [← hN]; exact (Int.natCast_mul W H).symm
    refine g_istore hZ dL_law_45 (by decide) ?_
    refine g_keep hZ [0, 1, 2, 3, 4, 5, 6] (L' := [(0, .ref b), (1, .ref (gad E 0)), (2, iV 1), (3, iV (i : Int)), (4, iV (c : Int)), (5, iV (W : Int)), (6, iV (H : Int))]) rfl ?_
    refine g_aload_n hZ dL_law_47 rfl ?_
    refine g_iload hZ dL_law_48 rfl ?_
    refine g_callS hZ (t_L_isParted E S hI c hc) kL_103 ⟨by decide, by decide⟩ rfl rfl (Nat.le_of_ble_eq_true rfl) dL_law_50 ?_
    rintro _ S₁ ⟨rfl, B₁, hs₁, kp₁, hI₁⟩
    refine g_if_eq hZ 139 dL_law_53 rfl (by omega) (fun cX => absurd cX (by omega)) (fun _ => ?_)
    refine g_aload_n hZ dL_law_56 rfl ?_
    refine g_iload hZ dL_law_57 rfl ?_
    refine g_iload hZ dL_law_59 rfl ?_
    refine g_aload_n hZ dL_law_61 rfl ?_
    refine g_bipush hZ (z := 6) dL_law_62 rfl ?_
    refine g_iload_n hZ dL_law_64 rfl ?_
    refine g_iadd hZ dL_law_65 ?_
    rw [show (6 : Int) + (i : Int) = ((6 + i : Nat) : Int) by omega]
    refine hcell _ _ _ _ _ (6 + i) rfl (by omega) (by show (1 + (1 + (1 + 0)) : Nat) ≤ 8; omega) dL_law_66 (fun c2 hc2 => ?_)
    refine g_callS hZ (t_L_draws E S₁ hI₁ W H N (by omega) (by omega) hN hN15 c2 hc2) kL_106 ⟨by decide, by decide⟩ rfl rfl (Nat.le_of_ble_eq_true rfl) dL_law_69 ?_
    rintro _ S₂ ⟨rfl, B₂, hs₂, hI₂⟩
    refine g_if_eq hZ 139 dL_law_72 rfl (by omega) (fun cX => absurd cX (by omega)) (fun _ => ?_)
    refine g_aload_n hZ dL_law_75 rfl ?_
    refine g_iload hZ dL_law_76 rfl ?_
    refine g_iload hZ dL_law_78 rfl ?_
    refine g_imul hZ dL_law_80 ?_
    rw [eN]
    have hq5 : c / 2 ^ 5 ≤ c := Nat.div_le_self _ _
    refine g_iload hZ dL_law_81 rfl ?_
    refine g_iconst hZ dL_law_83 ?_
    refine g_ishr hZ dL_law_84 (gi_shr (k := 5) (by omega) (by omega)) ?_
    refine g_callS hZ (t_L_isText E hG S₂ hI₂ (c / 2 ^ 5) (by omega)) kL_110 ⟨by decide, by decide⟩ rfl rfl (Nat.le_of_ble_eq_true rfl) dL_law_85 ?_
    rintro _ S₃ ⟨rfl, hs₃, tx₃, hI₃⟩
    refine g_if_eq hZ 139 dL_law_88 rfl (by omega) (fun cX => absurd cX (by omega)) (fun _ => ?_)
    refine g_aload_n hZ dL_law_91 rfl ?_
    refine g_iload hZ dL_law_92 rfl ?_
    refine g_iload hZ dL_law_94 rfl ?_
    refine g_imul hZ dL_law_96 ?_
    rw [eN]
    have hq2 : c / 2 ^ 2 < 1073741824 := by omega
    refine g_iload hZ dL_law_97 rfl ?_
    refine g_iconst hZ dL_law_99 ?_
    refine g_ishr hZ dL_law_100 (gi_shr (k := 2) (by omega) (by omega)) ?_
    refine g_callS hZ (t_L_isSound E S₃ hI₃ (c / 2 ^ 2) hq2) kL_114 ⟨by decide, by decide⟩ rfl rfl (Nat.le_of_ble_eq_true rfl) dL_law_101 ?_
    rintro _ S₄ ⟨rfl, B₄, hs₄, hI₄⟩
    refine g_if_eq hZ 139 dL_law_104 rfl (by omega) (fun cX => absurd cX (by omega)) (fun _ => ?_)
    refine g_aload_n hZ dL_law_107 rfl ?_
    refine g_iload hZ dL_law_108 rfl ?_
    refine g_iload hZ dL_law_110 rfl ?_
    refine g_imul hZ dL_law_112 ?_
    rw [eN]
    refine g_iconst hZ dL_law_113 ?_
    refine g_callV hZ (q_setBad hI₄ (N : Int) 0 (by omega) (by omega) (by omega)) kL_19 ⟨by decide, by decide⟩ rfl rfl rfl rfl (Nat.le_of_ble_eq_true rfl) dL_law_114 ?_
    rintro _ _ ⟨rfl, rfl⟩
    refine g_sipush hZ (z := (-1001)) dL_law_117 rfl ?_
    refine g_icmp_ne hZ 139 dL_law_120 rfl (by omega) (fun cX => absurd rfl cX) (fun _ => ?_)
    refine g_aload_n hZ dL_law_123 rfl ?_
    refine g_iconst hZ dL_law_124 ?_
    refine g_iconst hZ dL_law_125 ?_
    refine g_callV hZ (q_setBad hI₄ 0 4 (by omega) (by omega) (by omega)) kL_19 ⟨by decide, by decide⟩ rfl rfl rfl rfl (Nat.le_of_ble_eq_true rfl) dL_law_126 ?_
    rintro _ _ ⟨rfl, rfl⟩
    refine g_sipush hZ (z := (-1001)) dL_law_129 rfl ?_
    refine g_icmp_ne hZ 139 dL_law_132 rfl (by omega) (fun cX => absurd rfl cX) (fun _ => ?_)
    refine g_iconst hZ dL_law_135 ?_
    refine g_goto hZ 140 dL_law_136 rfl ?_
    refine g_istore_n hZ dL_law_140 (by decide) ?_
    refine g_iinc hZ dL_law_141 rfl (by decide) ?_
    refine g_goto hZ 12 dL_law_144 rfl ?_
    exact ih (i + 1) S₄ _ (by omega) ⟨_, _, _, _, _, _, _, hI₄⟩ rfl
