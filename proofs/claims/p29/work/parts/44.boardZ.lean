/-! the class: BurningFields: zugzwangs -/
def lsP (w n : Nat) (p : Nat) : Bool := !(GV w n true p).1
theorem col_eq (w n : Nat) : ∀ (L acc : List Nat), L.Nodup → (∀ p ∈ L, p ∉ acc) → L.foldl (colS w n) acc = acc ++ L.filter (lsP w n)
  | [], acc, _, _ => by simp
  | p :: L, acc, hn, hd => by
    rw [List.nodup_cons] at hn
    rw [List.foldl_cons]
    by_cases q : (GV w n true p).1 = false
    · have e : colS w n acc p = acc ++ [p] := by unfold colS; rw [if_pos ⟨q, hd p List.mem_cons_self⟩]
      rw [e, col_eq w n L (acc ++ [p]) hn.2 (fun x hx hm => ?_), List.filter_cons_of_pos (by unfold lsP; rw [q]; rfl)]
      · simp
      · rcases List.mem_append.mp hm with z | z
        · exact hd x (List.mem_cons_of_mem _ hx) z
        · rw [List.mem_singleton] at z
          subst z
          exact hn.1 hx
    · have e : colS w n acc p = acc := by unfold colS; rw [if_neg (fun z => q z.1)]
      have q2 : (GV w n true p).1 = true := by cases z : (GV w n true p).1 with | true => rfl | false => exact absurd z q
      rw [e, col_eq w n L acc hn.2 (fun x hx => hd x (List.mem_cons_of_mem _ hx)), List.filter_cons_of_neg (by unfold lsP; rw [q2]; decide)]
theorem zc_nd (y : Nat) : ∀ {Lo : List Nat}, Lo.Nodup → zc Lo y = if y ∈ Lo then 1 else 0
  | [], _ => by simp [zc]
  | x :: Lo, h => by
    rw [List.nodup_cons] at h
    have ih := zc_nd y h.2
    have e : zc (x :: Lo) y = zc Lo y + (if x = y then 1 else 0) := by
      unfold zc
      rw [List.countP_cons]
      by_cases q : x = y <;> simp [q]
    rw [e, ih]
    by_cases q : x = y
    · subst q
      rw [if_pos rfl, if_neg h.1, if_pos List.mem_cons_self]
    · rw [if_neg q]
      by_cases z : y ∈ Lo
      · rw [if_pos z, if_pos (List.mem_cons_of_mem _ z)]
      · rw [if_neg z, if_neg (fun m => by rcases List.mem_cons.mp m with a | a; exact q a.symm; exact z a)]
def zP (Lo : List Nat) (x : Nat) : Bool := decide (sdP x = 1 ∧ x + 1073741824 ∈ Lo)
theorem zS_fold {Lo : List Nat} (hn : Lo.Nodup) : ∀ (l : List Nat) (a : Nat), l.foldl (zS Lo) a = a + l.countP (zP Lo)
  | [], a => by simp
  | x :: l, a => by
    rw [List.foldl_cons, zS_fold hn l, List.countP_cons]
    unfold zS
    rw [zc_nd _ hn]
    unfold zP
    by_cases q : sdP x = 1
    · by_cases z : x + 1073741824 ∈ Lo
      · rw [if_pos q, if_pos z, if_pos (by simp [q, z])]; omega
      · rw [if_pos q, if_neg z, if_neg (by simp [z])]; omega
    · rw [if_neg q, if_neg (by simp [q])]; omega
theorem cntP_split {α : Type} (p q : α → Bool) : ∀ l : List α, l.countP p = l.countP (fun x => p x && q x) + l.countP (fun x => p x && !q x)
  | [] => rfl
  | x :: l => by
    have ih := cntP_split p q l
    rw [List.countP_cons, List.countP_cons, List.countP_cons, ih]
    cases p x <;> cases q x <;> simp <;> omega
/-- two positions of two plays from one board, with other sides to begin -/
theorem pair_sd {n p1 p2 x y : Nat} (hn : n ≤ 15) (hb : bcP n p1 = bcP n p2) (h1 : sdP p1 = 1) (h2 : sdP p2 = 2) (hx : qP n true p1 x) (hy : qP n true p2 y) (e : xP n x = xP n y) : (sdP x = 1 ∧ sdP y = 2 ∧ y = x + 1073741824) ∨ (sdP x = 2 ∧ sdP y = 1 ∧ x = y + 1073741824) := by
  have hk : ∀ k, k < n → bdP x k = bdP y k := fun k hk => rep_inj hn (xP_ok n x) (by rw [e]; exact xP_ok n y) (bdP_bd x n) (bdP_bd y n) hk
  have hc : bcP n x = bcP n y := cntZ_cong hk
  obtain ⟨-, -, x3, x4⟩ := hx
  obtain ⟨-, -, y3, y4⟩ := hy
  rw [h1] at x3
  rw [h2, ← hb, ← hc] at y3
  rw [← cod_cong hk] at y4
  generalize bcP n x - bcP n p1 = d at *
  generalize cod (bdP x) n = c at *
  unfold sdF at x3 y3
  by_cases q : d % 2 = 0
  · rw [if_pos q] at x3 y3
    rw [x3] at x4
    rw [y3] at y4
    left
    omega
  · rw [if_neg q] at x3 y3
    have x3' : sdP x = 2 := x3
    have y3' : sdP y = 1 := y3
    rw [x3'] at x4
    rw [y3'] at y4
    right
    omega
theorem same_sd {n p1 x y : Nat} (hn : n ≤ 15) (hx : qP n true p1 x) (hy : qP n true p1 y) (e : xP n x = xP n y) : sdP x = sdP y := by rw [xP_inj hn hx hy e]
theorem xP_flip {n x : Nat} (hn : n ≤ 15) : xP n (x + 1073741824) = xP n x := by
  refine rep_eq (xP_ok n _) (rep_cong (xP_ok n x) (fun k hk => ?_))
  have := bdP_side (c := x) (b := 1) (k := k) (by omega)
  rw [Nat.mul_one] at this
  exact this.symm
noncomputable def czP (w n : Nat) (L2 : List Nat) (p : Nat) : Bool := lsP w n p && L2.any (fun y => decide (xP n y = xP n p) && lsP w n y)
theorem zug_eq {w n p1 p2 : Nat} (hn : n ≤ 15) (hb : bcP n p1 = bcP n p2) (h1 : sdP p1 = 1) (h2 : sdP p2 = 2) {L1 L2 : List Nat} (n1 : L1.Nodup) (n2 : L2.Nodup) (q1 : ∀ x ∈ L1, qP n true p1 x) (q2 : ∀ x ∈ L2, qP n true p2 x) : zN (L2.foldl (colS w n) (L1.foldl (colS w n) [])) = L1.countP (czP w n L2) := by
  have disj : ∀ x, x ∈ L1 → x ∈ L2 → False := fun x a b => by
    rcases pair_sd hn hb h1 h2 (q1 x a) (q2 x b) rfl with z | z <;> omega
  rw [col_eq w n L1 [] n1 (fun x _ => by simp), List.nil_append, col_eq w n L2 _ n2 (fun x hx hm => disj x (List.mem_filter.mp hm).1 hx)]
  have nL : (L1.filter (lsP w n) ++ L2.filter (lsP w n)).Nodup := by
    rw [List.nodup_append]
    refine ⟨n1.filter _, n2.filter _, fun a ha b hb2 e => ?_⟩
    subst e
    exact disj a (List.mem_filter.mp ha).1 (List.mem_filter.mp hb2).1
  have mem : ∀ x, x ∈ L1.filter (lsP w n) ++ L2.filter (lsP w n) ↔ ((x ∈ L1 ∨ x ∈ L2) ∧ lsP w n x = true) := fun x => by
    rw [List.mem_append, List.mem_filter, List.mem_filter]
    constructor
    · rintro (a | a)
      · exact ⟨Or.inl a.1, a.2⟩
      · exact ⟨Or.inr a.1, a.2⟩
    · rintro ⟨a | a, b⟩
      · exact Or.inl ⟨a, b⟩
      · exact Or.inr ⟨a, b⟩
  unfold zN
  rw [zS_fold nL, Nat.zero_add]
  generalize hLo : L1.filter (lsP w n) ++ L2.filter (lsP w n) = Lo at *
  rw [← hLo, List.countP_append, List.countP_filter, List.countP_filter, cntP_split (czP w n L2) (fun x => decide (sdP x = 1)) L1, hLo]
  have cz : ∀ x, czP w n L2 x = true ↔ (lsP w n x = true ∧ ∃ y, y ∈ L2 ∧ xP n y = xP n x ∧ lsP w n y = true) := fun x => by
    unfold czP
    rw [Bool.and_eq_true, List.any_eq_true]
    constructor
    · rintro ⟨a, y, b, c⟩
      rw [Bool.and_eq_true, decide_eq_true_eq] at c
      exact ⟨a, y, b, c.1, c.2⟩
    · rintro ⟨a, y, b, c, d⟩
      exact ⟨a, y, b, by rw [Bool.and_eq_true, decide_eq_true_eq]; exact ⟨c, d⟩⟩
  have hsum : ∀ x : Nat, sdP x = 1 → x < 2147483648 → sdP (x + 1073741824) = 2 := fun x a b => by unfold sdP at *; omega
  congr 1
  · refine List.countP_congr (fun x hx => ?_)
    rw [Bool.and_eq_true, Bool.and_eq_true, cz, decide_eq_true_eq]
    unfold zP
    rw [decide_eq_true_eq, mem]
    constructor
    · rintro ⟨⟨a, b | b, c⟩, d⟩
      · have := same_sd hn (q1 x hx) (q1 _ b) (xP_flip hn).symm
        rw [hsum x a (q1 x hx).1.1] at this
        omega
      · exact ⟨⟨d, _, b, xP_flip hn, c⟩, a⟩
    · rintro ⟨⟨a, y, b, c, d⟩, f⟩
      rcases pair_sd hn hb h1 h2 (q1 x hx) (q2 y b) c.symm with z | z
      · rw [← z.2.2]
        exact ⟨⟨f, Or.inr b, d⟩, a⟩
      · omega
  · rw [List.countP_eq_length_filter, List.countP_eq_length_filter, ← List.length_map (f := fun x => x + 1073741824)]
    refine List.Perm.length_eq ((List.perm_ext_iff_of_nodup ?_ (n1.filter _)).mpr (fun a => ?_))
    · exact List.Pairwise.map _ (fun x y (hxy : x ≠ y) => by omega) (n2.filter _)
    · rw [List.mem_map, List.mem_filter, Bool.and_eq_true, cz, Bool.not_eq_true', decide_eq_false_iff_not]
      constructor
      · rintro ⟨x, hx, rfl⟩
        rw [List.mem_filter, Bool.and_eq_true] at hx
        obtain ⟨a, b, c⟩ := hx
        unfold zP at b
        rw [decide_eq_true_eq, mem] at b
        obtain ⟨b1, b2 | b2, b3⟩ := b
        · exact ⟨b2, ⟨b3, x, a, (xP_flip hn).symm, c⟩, by rw [hsum x b1 (q2 x a).1.1]; omega⟩
        · have := same_sd hn (q2 x a) (q2 _ b2) (xP_flip hn).symm
          rw [hsum x b1 (q2 x a).1.1] at this
          omega
      · rintro ⟨a1, ⟨b, y, c, d, f⟩, g⟩
        rcases pair_sd hn hb h1 h2 (q1 a a1) (q2 y c) d.symm with z | z
        · omega
        · refine ⟨y, ?_, z.2.2.symm⟩
          rw [List.mem_filter, Bool.and_eq_true]
          unfold zP
          rw [decide_eq_true_eq, mem, ← z.2.2]
          exact ⟨c, ⟨z.2.1, Or.inl a1, b⟩, f⟩
theorem t_X8_zugzwangs (E : gE) (S : gS) (w h n : Nat) (hg : xG S w h n) (B : Nat → Int) (hX : XB S n B) (hB : mBd B n) (hc : mC3 B n) : Ct E LAY mX8_zugzwangs [.ref (gad E 0)] S (fun r S' => Eqx [6, 7, 10, 11, 12, 13, 14, 15, 16, 20, 21, 22, 23, 24, 25, 26] S S' ∧ r = some (iV (aZug w n B))) := by
  have hn := hg.n15
  obtain ⟨x, x1, hx⟩ := id hX
  obtain ⟨s1, s2, s3⟩ := st_ok (s := 1) true hn hB hc (by omega)
  obtain ⟨r1, r2, r3⟩ := st_ok (s := 2) true hn hB hc (by omega)
  have ex := s3 x hx
  have ey := r3 x hx
  have hbb : bcP n (cod B n + 1073741824 * (1 - 1)) = bcP n (cod B n + 1073741824 * (2 - 1)) := by
    refine cntZ_cong (fun k hk => ?_)
    rw [bdP_side (by omega), bdP_side (by omega)]
  refine Ct.intro LAY_ok (by decide +kernel) (Nat.le_of_ble_eq_true rfl) rfl ?_
  intro Z hZ
  have no : ∀ (S₁ : gS), Eqx [6, 7, 10, 11, 12, 13, 14, 15, 16, 20, 21, 22, 23, 24, 25, 26] S S₁ → aZug w n B = -1004 → Z S₁ [(0, .ref (gad E 0))] 30 [] := by
    intro S₁ he ea
    rw [ea] at hZ
    refine g_sipush hZ (z := (-1004)) dX8_zugzwangs_30 rfl ?_
    refine g_iret hZ dX8_zugzwangs_33 rfl ⟨he, rfl⟩
  refine g_aload_n hZ dX8_zugzwangs_0 rfl ?_
  refine g_getr hZ fX8_30 rfl rfl dX8_zugzwangs_1 ?_
  refine g_aload_n hZ dX8_zugzwangs_4 rfl ?_
  refine g_getj hZ fX8_69 rfl rfl dX8_zugzwangs_5 x1 ?_
  refine g_iconst hZ dX8_zugzwangs_8 ?_
  refine g_callS hZ (As := [.ref (gad E 5), jV (x : Int), iV 1]) (by have := t_X8_exploreAndSolveL E S w h n hg _ s1; rw [← ex, s2] at this; exact this) kX8_184 ⟨by decide, by decide⟩ rfl rfl (Nat.le_of_ble_eq_true rfl) dX8_zugzwangs_9 ?_
  rintro _ S₁ ⟨he₁, z, rfl, hz⟩
  rcases hz with ⟨rfl, hb⟩ | ⟨rfl, L, hb, hPS, h0, hbok, hv⟩
  · refine g_if_eq hZ 30 dX8_zugzwangs_12 rfl (by omega) (fun _ => ?_) (fun cX => absurd (by omega) cX)
    exact no S₁ (he₁.mono rfl) (by unfold aZug stP; rw [hb])
  · have hg₁ := hg.x he₁ rfl
    have x1₁ : S₁ 0 0 = (x : Int) := (he₁ 0 0 rfl).trans x1
    refine g_if_eq hZ 30 dX8_zugzwangs_12 rfl (by omega) (fun cX => absurd cX (by omega)) (fun _ => ?_)
    refine g_aload_n hZ dX8_zugzwangs_15 rfl ?_
    refine g_getr hZ fX8_34 rfl rfl dX8_zugzwangs_16 ?_
    refine g_aload_n hZ dX8_zugzwangs_19 rfl ?_
    refine g_getj hZ fX8_69 rfl rfl dX8_zugzwangs_20 x1₁ ?_
    refine g_iconst hZ dX8_zugzwangs_23 ?_
    refine g_callS hZ (As := [.ref (gad E 10), jV (x : Int), iV 2]) (by have := t_X8_exploreAndSolveR E S₁ w h n hg₁ _ r1; rw [← ey, r2] at this; exact this) kX8_184 ⟨by decide, by decide⟩ rfl rfl (Nat.le_of_ble_eq_true rfl) dX8_zugzwangs_24 ?_
    rintro _ S₂ ⟨he₂, z, rfl, hz⟩
    have heT : Eqx [6, 7, 10, 11, 12, 13, 14, 15, 16, 20, 21, 22, 23, 24, 25, 26] S S₂ := (he₁.mono rfl).tr (he₂.mono rfl)
    rcases hz with ⟨rfl, hb2⟩ | ⟨rfl, L2, hb2, hPS2, h02, hbok2, hv2⟩
    · refine g_if_ne hZ 34 dX8_zugzwangs_27 rfl (by omega) (fun cX => absurd (by omega) cX) (fun _ => ?_)
      exact no S₂ heT (by unfold aZug stP; rw [hb]; simp only [hb2])
    · have ea : aZug w n B = ((L.countP (czP w n L2) : Nat) : Int) := by
        have e := zug_eq (w := w) hn hbb s2 r2 hbok.1 hbok2.1 hbok.2.2.1 hbok2.2.2.1
        rw [← e]
        unfold aZug stP
        rw [hb]
        simp only [hb2]
      rw [ea] at hZ
      have hPS₂ : PS S₂ 12 13 16 (L.map (xP n)) := hPS.x he₂ rfl rfl rfl
      have hle := hbok.2.1
      have hle2 := hbok2.2.1
      have hsz : S₂ 12 0 = (L.length : Int) := hPS₂.1.trans (by rw [List.length_map])
      refine g_if_ne hZ 34 dX8_zugzwangs_27 rfl (by omega) (fun _ => ?_) (fun cX => absurd cX (by omega))
      have loop : ∀ (m i : Nat) (L9 : List (Nat × Value)), i + m = L.length → lkeep L9 [0, 1, 2] = [(0, .ref (gad E 0)), (1, iV (((L.take i).countP (czP w n L2) : Nat) : Int)), (2, iV (i : Int))] → Z S₂ L9 38 [] := by
        intro m
        induction m with
        | zero =>
          intro i L9 hi hL9
          rw [List.take_of_length_le (by omega)] at hL9
          refine g_keep hZ [0, 1, 2] hL9 ?_
          refine g_iload_n hZ dX8_zugzwangs_38 rfl ?_
          refine g_aload_n hZ dX8_zugzwangs_39 rfl ?_
          refine g_getr hZ fX8_30 rfl rfl dX8_zugzwangs_40 ?_
          refine g_geti hZ fX8_183 rfl rfl dX8_zugzwangs_43 hsz ?_
          refine g_icmp_ge hZ 101 dX8_zugzwangs_46 rfl (by omega) (fun _ => ?_) (fun cX => absurd (by omega) cX)
          refine g_iload_n hZ dX8_zugzwangs_101 rfl ?_
          refine g_iret hZ dX8_zugzwangs_102 rfl ⟨heT, rfl⟩
        | succ m ih =>
          intro i L9 hi hL9
          obtain ⟨p, hp⟩ : ∃ p, L[i]? = some p := ⟨_, List.getElem?_eq_getElem (by omega)⟩
          have hqp := hbok.2.2.1 p (List.mem_of_getElem? hp)
          have hXp : (L.map (xP n))[i]? = some (xP n p) := by rw [List.getElem?_map, hp]; rfl
          have hwp : S₂ 14 i = b2i (GV w n true p).1 := (he₂ 14 i rfl).trans (hv i p hp).1
          have htk : (L.take (i + 1)).countP (czP w n L2) = (L.take i).countP (czP w n L2) + (if czP w n L2 p = true then 1 else 0) := by
            rw [List.take_add_one, hp, List.countP_append]
            show _ + List.countP _ [p] = _
            rw [List.countP_cons]
            simp
          have ih' := ih (i + 1)
          rw [htk] at ih'
          generalize (L.take i).countP (czP w n L2) = a at *
          have skip : czP w n L2 p = false → ∀ L9 : List (Nat × Value), lkeep L9 [0, 1, 2] = [(0, .ref (gad E 0)), (1, iV (a : Int)), (2, iV (i : Int))] → Z S₂ L9 95 [] := by
            intro hf L9 hL9
            refine g_keep hZ [0, 1, 2] hL9 ?_
            refine g_iinc hZ dX8_zugzwangs_95 rfl (by decide) ?_
            refine g_goto hZ 38 dX8_zugzwangs_98 rfl ?_
            exact ih' _ (by omega) (by rw [hf]; rfl)
          refine g_keep hZ [0, 1, 2] hL9 ?_
          refine g_iload_n hZ dX8_zugzwangs_38 rfl ?_
          refine g_aload_n hZ dX8_zugzwangs_39 rfl ?_
          refine g_getr hZ fX8_30 rfl rfl dX8_zugzwangs_40 ?_
          refine g_geti hZ fX8_183 rfl rfl dX8_zugzwangs_43 hsz ?_
          refine g_icmp_ge hZ 101 dX8_zugzwangs_46 rfl (by omega) (fun cX => absurd cX (by omega)) (fun _ => ?_)
          refine g_aload_n hZ dX8_zugzwangs_49 rfl ?_
          refine g_getr hZ fX8_34 rfl rfl dX8_zugzwangs_50 ?_
          refine g_aload_n hZ dX8_zugzwangs_53 rfl ?_
          refine g_getr hZ fX8_30 rfl rfl dX8_zugzwangs_54 ?_
          refine g_iload_n hZ dX8_zugzwangs_57 rfl ?_
          refine g_callV hZ (t_X4_contentsOfL E S₂ (L.map (xP n)) hPS₂ i _ hXp) kX8_209 ⟨by decide, by decide⟩ rfl rfl rfl rfl (Nat.le_of_ble_eq_true rfl) dX8_zugzwangs_58 ?_
          rintro _ _ ⟨rfl, rfl⟩
          refine g_callV hZ (t_X4_findR E S₂ (L2.map (xP n)) hPS2 (xP n p) (xP_lt n p)) kX8_203 ⟨by decide, by decide⟩ rfl rfl rfl rfl (Nat.le_of_ble_eq_true rfl) dX8_zugzwangs_61 ?_
          rintro _ _ ⟨rfl, z, rfl, hz⟩
          rcases hz with ⟨rfl, hni⟩ | ⟨j, rfl, hj⟩
          · refine g_istore_n hZ dX8_zugzwangs_64 (by decide) ?_
            refine g_iload_n hZ dX8_zugzwangs_65 rfl ?_
            refine g_iconst hZ dX8_zugzwangs_66 ?_
            refine g_icmp_eq hZ 95 dX8_zugzwangs_67 rfl (by omega) (fun _ => ?_) (fun cX => absurd (by omega) cX)
            refine skip ?_ _ rfl
            cases q : czP w n L2 p with
            | false => rfl
            | true =>
              unfold czP at q
              rw [Bool.and_eq_true, List.any_eq_true] at q
              obtain ⟨-, y, c, d⟩ := q
              rw [Bool.and_eq_true, decide_eq_true_eq] at d
              exact absurd (List.mem_map.mpr ⟨y, c, d.1⟩) hni
          · have hjl := (List.getElem?_eq_some_iff.mp hj).1
            rw [List.length_map] at hjl
            obtain ⟨y, hy⟩ : ∃ y, L2[j]? = some y := ⟨_, List.getElem?_eq_getElem hjl⟩
            have hxy : xP n y = xP n p := by
              rw [List.getElem?_map, hy] at hj
              exact Option.some.inj hj
            have hqy := hbok2.2.2.1 y (List.mem_of_getElem? hy)
            have hwy : S₂ 24 j = b2i (GV w n true y).1 := (hv2 j y hy).1
            have hcz : czP w n L2 p = (lsP w n p && lsP w n y) := by
              unfold czP
              congr 1
              rw [Bool.eq_iff_iff, List.any_eq_true]
              constructor
              · rintro ⟨y2, c, d⟩
                rw [Bool.and_eq_true, decide_eq_true_eq] at d
                have e := xP_inj hn (hbok2.2.2.1 y2 c) hqy (d.1.trans hxy.symm)
                rw [← e]; exact d.2
              · intro q
                exact ⟨y, List.mem_of_getElem? hy, by rw [Bool.and_eq_true, decide_eq_true_eq]; exact ⟨hxy, q⟩⟩
            refine g_istore_n hZ dX8_zugzwangs_64 (by decide) ?_
            refine g_iload_n hZ dX8_zugzwangs_65 rfl ?_
            refine g_iconst hZ dX8_zugzwangs_66 ?_
            refine g_icmp_eq hZ 95 dX8_zugzwangs_67 rfl (by omega) (fun cX => absurd cX (by omega)) (fun _ => ?_)
            refine g_aload_n hZ dX8_zugzwangs_70 rfl ?_
            refine g_getr hZ fX8_30 rfl rfl dX8_zugzwangs_71 ?_
            refine g_iload_n hZ dX8_zugzwangs_74 rfl ?_
            refine g_callV hZ (t_X4_isWonL E S₂ i (by omega) _ hwp (b2i_01 _)) kX8_188 ⟨by decide, by decide⟩ rfl rfl rfl rfl (Nat.le_of_ble_eq_true rfl) dX8_zugzwangs_75 ?_
            rintro _ _ ⟨rfl, rfl⟩
            cases gp : (GV w n true p).1 with
            | true =>
              refine g_if_ne hZ 95 dX8_zugzwangs_78 rfl ⟨by decide, by decide⟩ (fun _ => ?_) (fun cX => absurd cX (by decide))
              exact skip (by rw [hcz]; unfold lsP; rw [gp]; rfl) _ rfl
            | false =>
              refine g_if_ne hZ 95 dX8_zugzwangs_78 rfl ⟨by decide, by decide⟩ (fun cX => absurd (by decide) cX) (fun _ => ?_)
              refine g_aload_n hZ dX8_zugzwangs_81 rfl ?_
              refine g_getr hZ fX8_34 rfl rfl dX8_zugzwangs_82 ?_
              refine g_iload_n hZ dX8_zugzwangs_85 rfl ?_
              refine g_callV hZ (t_X4_isWonR E S₂ j (by omega) _ hwy (b2i_01 _)) kX8_188 ⟨by decide, by decide⟩ rfl rfl rfl rfl (Nat.le_of_ble_eq_true rfl) dX8_zugzwangs_86 ?_
              rintro _ _ ⟨rfl, rfl⟩
              cases gy : (GV w n true y).1 with
              | true =>
                refine g_if_ne hZ 95 dX8_zugzwangs_89 rfl ⟨by decide, by decide⟩ (fun _ => ?_) (fun cX => absurd cX (by decide))
                exact skip (by rw [hcz]; unfold lsP; rw [gy]; simp) _ rfl
              | false =>
                have ht : czP w n L2 p = true := by rw [hcz]; unfold lsP; rw [gp, gy]; rfl
                refine g_if_ne hZ 95 dX8_zugzwangs_89 rfl ⟨by decide, by decide⟩ (fun cX => absurd (by decide) cX) (fun _ => ?_)
                refine g_iinc hZ dX8_zugzwangs_92 rfl (by decide) ?_
                refine g_iinc hZ dX8_zugzwangs_95 rfl (by decide) ?_
                refine g_goto hZ 38 dX8_zugzwangs_98 rfl ?_
                exact ih' _ (by omega) (by rw [ht]; rfl)
      refine g_iconst hZ dX8_zugzwangs_34 ?_
      refine g_istore_n hZ dX8_zugzwangs_35 (by decide) ?_
      refine g_iconst hZ dX8_zugzwangs_36 ?_
      refine g_istore_n hZ dX8_zugzwangs_37 (by decide) ?_
      exact loop _ 0 _ (Nat.zero_add _) rfl
