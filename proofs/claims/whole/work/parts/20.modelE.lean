/-! the reference: a command, the fault, run -/
def cntW (w : Nat) : Nat := if w = 4 then 4 else if w = 5 then 0 else 1
def rdNs (tx : List Nat) : Nat → Nat → Option (List Nat × Nat)
  | 0, a => some ([], a)
  | k + 1, a => match rdN tx a with
    | none => none
    | some (v, b) => match rdNs tx k b with
      | none => none
      | some (vs, c) => some (v :: vs, c)
/-- a command that stands at i: word, numbers, where the next one begins -/
def pcmd (tx : List Nat) (i : Nat) : Option (Nat × List Nat × Nat) := match wrd tx i with
  | none => none
  | some (w, l) => match rdNs tx (cntW w) (i + l) with
    | none => none
    | some (vs, b) => if chA tx b = 59 then some (w, vs, b + 1) else none
theorem rdNs_ok {tx : List Nat} : ∀ {k a : Nat} {vs : List Nat} {b : Nat}, rdNs tx k a = some (vs, b) → vs.length = k ∧ a ≤ b ∧ b ≤ a + 3 * k ∧ ∀ v ∈ vs, v ≤ 99
  | 0, a, vs, b, h => by cases h; exact ⟨rfl, Nat.le_refl _, by omega, by simp⟩
  | k + 1, a, vs, b, h => by
    rw [rdNs] at h
    cases e : rdN tx a with
    | none => simp [e] at h
    | some q =>
      obtain ⟨v, c⟩ := q
      simp only [e] at h
      obtain ⟨r1, r2, r3, r4⟩ := rdN_ok e
      cases e2 : rdNs tx k c with
      | none => simp [e2] at h
      | some q2 =>
        obtain ⟨ws, d⟩ := q2
        simp only [e2, Option.some.injEq, Prod.mk.injEq] at h
        obtain ⟨h1, h2⟩ := h
        obtain ⟨i1, i2, i3, i4⟩ := rdNs_ok e2
        subst h1; subst h2
        refine ⟨by simp [i1], by omega, by omega, fun x hx => ?_⟩
        rcases List.mem_cons.mp hx with z | z
        · omega
        · exact i4 x z
theorem wrd_ok {tx : List Nat} {i w l : Nat} (h : wrd tx i = some (w, l)) : w ≤ 5 ∧ 4 ≤ l ∧ l ≤ 5 := by
  unfold wrd at h
  split at h
  · cases h; omega
  · split at h
    · cases h; omega
    · split at h
      · cases h; omega
      · split at h
        · cases h; omega
        · split at h
          · cases h; omega
          · split at h
            · cases h; omega
            · cases h
theorem pcmd_ok {tx : List Nat} {i : Nat} {q : Nat × List Nat × Nat} (h : pcmd tx i = some q) : q.1 ≤ 5 ∧ q.2.1.length = cntW q.1 ∧ (∀ v ∈ q.2.1, v ≤ 99) ∧ i + 5 ≤ q.2.2 ∧ q.2.2 ≤ tx.length := by
  unfold pcmd at h
  cases e : wrd tx i with
  | none => simp [e] at h
  | some p =>
    obtain ⟨w, l⟩ := p
    simp only [e] at h
    obtain ⟨w1, w2, w3⟩ := wrd_ok e
    cases e2 : rdNs tx (cntW w) (i + l) with
    | none => simp [e2] at h
    | some p2 =>
      obtain ⟨vs, b⟩ := p2
      simp only [e2] at h
      obtain ⟨n1, n2, n3, n4⟩ := rdNs_ok e2
      split at h
      · rename_i hc
        simp only [Option.some.injEq] at h
        subst h
        have := chA_in (tx := tx) (k := b) (by omega)
        refine ⟨w1, n1, n4, ?_, ?_⟩
        · show i + 5 ≤ b + 1; omega
        · show b + 1 ≤ tx.length; omega
      · cases h
theorem t_X9_isCommand (E : gE) (S : gS) (tx : List Nat) (hT : mTx S tx) (i : Nat) (hi : i ≤ 60) (hs : S 59 0 = (i : Int)) : Ct E LAY mX9_isCommand [.ref (gad E 27)] S (fun r S' => Eqx [59, 60, 74] S S' ∧ ∃ z, r = some (iV z) ∧ ((z = 0 ∧ pcmd tx i = none) ∨ (z = 1 ∧ ∃ q, pcmd tx i = some q ∧ S' 60 0 = (q.1 : Int) ∧ S' 59 0 = (q.2.2 : Int) ∧ HL (fun v : Nat => (v : Int)) (S' 74) q.2.1))) := by
  obtain ⟨h1, h2, h3, h4⟩ := id hT
  refine Ct.intro LAY_ok (by decide +kernel) (Nat.le_of_ble_eq_true rfl) rfl ?_
  intro Z hZ
  have bad : ∀ (S₁ : gS) (z : Int) (L9 : List (Nat × Value)), Eqx [59, 60, 74] S S₁ → R32 (S₁ 59 0) → pcmd tx i = none → lkeep L9 [0, 1] = [(0, .ref (gad E 27)), (1, iV 0)] → Z S₁ L9 71 [] := by
    intro S₁ z L9 he hr hp hL9
    refine g_keep hZ [0, 1] hL9 ?_
    refine g_aload_n hZ dX9_isCommand_71 rfl ?_
    refine g_dup hZ dX9_isCommand_72 rfl ?_
    refine g_geti hZ fX9_183 rfl rfl dX9_isCommand_73 rfl ?_
    refine g_iconst hZ dX9_isCommand_76 ?_
    refine g_iadd hZ dX9_isCommand_77 ?_
    refine g_puti hZ fX9_183 rfl rfl dX9_isCommand_78 ?_
    refine g_iload_n hZ dX9_isCommand_81 rfl ?_
    refine g_if_eq hZ 104 dX9_isCommand_82 rfl (by omega) (fun _ => ?_) (fun cX => absurd (by omega) cX)
    refine g_iconst hZ dX9_isCommand_104 ?_
    refine g_zret hZ dX9_isCommand_105 rfl (Or.inl rfl) ⟨he.up rfl, 0, rfl, Or.inl ⟨rfl, hp⟩⟩
  refine g_aload_n hZ dX9_isCommand_0 rfl ?_
  refine g_aload_n hZ dX9_isCommand_1 rfl ?_
  refine g_callV hZ (t_X9_letters E S tx hT i hi hs) kX9_193 ⟨by decide, by decide⟩ rfl rfl rfl rfl (Nat.le_of_ble_eq_true rfl) dX9_isCommand_2 ?_
  rintro _ S₁ ⟨he₁, m, hrun, him, hs₁, rfl⟩
  have hwr := wrd_run hrun
  have hzr : R32 (if m ≤ 5 then (pkL tx i m : Int) else 0) := by
    split
    · have a1 := pkL_lt hrun.1
      have a2 := Nat.pow_le_pow_right (show 0 < 32 by omega) (show m ≤ 5 by omega)
      have a3 : 32 ^ 5 = 33554432 := by decide
      omega
    · omega
  refine g_callS hZ (t_X9_commandOf E S₁ _ hzr) kX9_196 ⟨by decide, by decide⟩ rfl rfl (Nat.le_of_ble_eq_true rfl) dX9_isCommand_5 ?_
  rintro _ _ ⟨rfl, rfl⟩
  generalize cmdZ (if m ≤ 5 then (pkL tx i m : Int) else 0) = cz at *
  have he₁' : Eqx [59, 60, 74] S S₁ := he₁.mono rfl
  have hT₂ : mTx (upS S₁ 60 0 cz) tx := hT.x (vs := [59, 60]) ((he₁.mono rfl).up rfl) rfl rfl
  rcases hwr with ⟨rfl, hw⟩ | ⟨w, rfl, hw, w5⟩
  · have hp : pcmd tx i = none := by unfold pcmd; rw [hw]
    refine g_puti hZ fX9_199 rfl rfl dX9_isCommand_8 ?_
    refine g_aload_n hZ dX9_isCommand_11 rfl ?_
    refine g_geti hZ fX9_199 rfl rfl dX9_isCommand_12 rfl ?_
    refine g_if_lt hZ 22 dX9_isCommand_15 rfl (by rw [upS_eq]; omega) (fun _ => ?_) (fun cX => absurd (by rw [upS_eq]; omega) cX)
    refine g_iconst hZ dX9_isCommand_22 ?_
    refine g_istore_n hZ dX9_isCommand_23 (by decide) ?_
    refine g_iconst hZ dX9_isCommand_24 ?_
    refine g_istore_n hZ dX9_isCommand_25 (by decide) ?_
    have e60 : upS S₁ 60 0 (-1) 60 0 = -1 := upS_eq _ _ _ _
    refine g_iload_n hZ dX9_isCommand_26 rfl ?_
    refine g_aload_n hZ dX9_isCommand_27 rfl ?_
    refine g_geti hZ fX9_199 rfl rfl dX9_isCommand_28 e60 ?_
    refine g_iconst hZ dX9_isCommand_31 ?_
    refine g_icmp_ne hZ 39 dX9_isCommand_32 rfl (by omega) (fun _ => ?_) (fun cX => absurd cX (by omega))
    refine g_aload_n hZ dX9_isCommand_39 rfl ?_
    refine g_geti hZ fX9_199 rfl rfl dX9_isCommand_40 e60 ?_
    refine g_iconst hZ dX9_isCommand_43 ?_
    refine g_icmp_ne hZ 51 dX9_isCommand_44 rfl (by omega) (fun _ => ?_) (fun cX => absurd cX (by omega))
    refine g_iconst hZ dX9_isCommand_51 ?_
    refine g_icmp_ge hZ 71 dX9_isCommand_52 rfl (by omega) (fun cX => absurd cX (by omega)) (fun _ => ?_)
    refine g_iload_n hZ dX9_isCommand_55 rfl ?_
    refine g_if_eq hZ 71 dX9_isCommand_56 rfl (by omega) (fun _ => ?_) (fun cX => absurd (by omega) cX)
    exact bad _ 0 _ (he₁'.up rfl) (by rw [upS_v _ _ (by decide), hs₁]; omega) hp rfl
  · have e60 : upS S₁ 60 0 (w : Int) 60 0 = (w : Int) := upS_eq _ _ _ _
    have e59 : upS S₁ 60 0 (w : Int) 59 0 = ((i + m : Nat) : Int) := by rw [upS_v _ _ (by decide)]; exact hs₁
    have hpc : ∀ R, rdNs tx (cntW w) (i + m) = R → pcmd tx i = (match R with | none => none | some (vs, b) => if chA tx b = 59 then some (w, vs, b + 1) else none) := by
      intro R hR
      unfold pcmd
      rw [hw]
      simp only [hR]
    have good : ∀ (S₂ : gS) (vs : List Nat) (b : Nat) (L9 : List (Nat × Value)), rdNs tx (cntW w) (i + m) = some (vs, b) → b ≤ 100 → Eqx [59, 60, 74] S S₂ → S₂ 59 0 = (b : Int) → S₂ 60 0 = (w : Int) → HL (fun v : Nat => (v : Int)) (S₂ 74) vs → lkeep L9 [0, 1] = [(0, .ref (gad E 27)), (1, iV 1)] → Z S₂ L9 71 [] := by
      intro S₂ vs b L9 hR hb he hs₂ hw₂ hvs hL9
      have hpp := hpc _ hR
      simp only at hpp
      have hcb := chA_lt h4 b
      refine g_keep hZ [0, 1] hL9 ?_
      refine g_aload_n hZ dX9_isCommand_71 rfl ?_
      refine g_dup hZ dX9_isCommand_72 rfl ?_
      refine g_geti hZ fX9_183 rfl rfl dX9_isCommand_73 hs₂ ?_
      refine g_iconst hZ dX9_isCommand_76 ?_
      refine g_iadd hZ dX9_isCommand_77 ?_
      refine g_puti hZ fX9_183 rfl rfl dX9_isCommand_78 ?_
      refine g_iload_n hZ dX9_isCommand_81 rfl ?_
      refine g_if_eq hZ 104 dX9_isCommand_82 rfl (by omega) (fun cX => absurd cX (by omega)) (fun _ => ?_)
      have e61 : upS S₂ 59 0 ((b : Int) + 1) 59 0 = (b : Int) + 1 := upS_eq _ _ _ _
      have e62 : (b : Int) + 1 - 1 = (b : Int) := by omega
      refine g_aload_n hZ dX9_isCommand_85 rfl ?_
      refine g_aload_n hZ dX9_isCommand_86 rfl ?_
      refine g_geti hZ fX9_183 rfl rfl dX9_isCommand_87 e61 ?_
      refine g_iconst hZ dX9_isCommand_90 ?_
      refine g_isub hZ dX9_isCommand_91 ?_
      rw [e62]
      refine g_callV hZ (t_X9_charAt E _ tx (hT.x (he.up (v := 59) rfl) rfl rfl) b (by omega)) kX9_186 ⟨by decide, by decide⟩ rfl rfl rfl rfl (Nat.le_of_ble_eq_true rfl) dX9_isCommand_92 ?_
      rintro _ _ ⟨rfl, rfl⟩
      refine g_bipush hZ (z := 59) dX9_isCommand_95 rfl ?_
      refine g_icmp_ne hZ 104 dX9_isCommand_97 rfl (by omega) (fun c => ?_) (fun c => ?_)
      · refine g_iconst hZ dX9_isCommand_104 ?_
        refine g_zret hZ dX9_isCommand_105 rfl (Or.inl rfl) ⟨he.up rfl, 0, rfl, Or.inl ⟨rfl, by rw [hpp, if_neg (by omega)]⟩⟩
      · refine g_iconst hZ dX9_isCommand_100 ?_
        refine g_goto hZ 105 dX9_isCommand_101 rfl ?_
        refine g_zret hZ dX9_isCommand_105 rfl (Or.inr rfl) ⟨he.up rfl, 1, rfl, Or.inr ⟨rfl, (w, vs, b + 1), by rw [hpp, if_pos (by omega)], hw₂, upS_eq _ _ _ _, hvs⟩⟩
    have loop : ∀ (f k : Nat) (S₂ : gS) (vs : List Nat) (a : Nat) (L9 : List (Nat × Value)), k + f = cntW w → vs.length = k → a ≤ 66 + 3 * k → Eqx [59, 60, 74] S S₂ → S₂ 59 0 = (a : Int) → S₂ 60 0 = (w : Int) → HL (fun v : Nat => (v : Int)) (S₂ 74) vs → (match rdNs tx f a with | none => rdNs tx (cntW w) (i + m) = none | some (us, b) => rdNs tx (cntW w) (i + m) = some (vs ++ us, b)) → lkeep L9 [0, 1, 2] = [(0, .ref (gad E 27)), (1, iV 1), (2, iV (k : Int))] → Z S₂ L9 26 [] := by
      intro f
      have hc4 : cntW w ≤ 4 := by unfold cntW; split; omega; split <;> omega
      have head : ∀ (k : Nat) (S₂ : gS) (is : Int), k ≤ 4 → S₂ 60 0 = (w : Int) → Z S₂ [(0, .ref (gad E 27)), (1, iV is), (2, iV (k : Int))] 52 [iV (cntW w : Int), iV (k : Int)] → Z S₂ [(0, .ref (gad E 27)), (1, iV is), (2, iV (k : Int))] 26 [] := by
        intro k S₂ is hk4 hw₂ hz
        refine g_iload_n hZ dX9_isCommand_26 rfl ?_
        refine g_aload_n hZ dX9_isCommand_27 rfl ?_
        refine g_geti hZ fX9_199 rfl rfl dX9_isCommand_28 hw₂ ?_
        refine g_iconst hZ dX9_isCommand_31 ?_
        refine g_icmp_ne hZ 39 dX9_isCommand_32 rfl (by omega) (fun c => ?_) (fun c => ?_)
        · refine g_aload_n hZ dX9_isCommand_39 rfl ?_
          refine g_geti hZ fX9_199 rfl rfl dX9_isCommand_40 hw₂ ?_
          refine g_iconst hZ dX9_isCommand_43 ?_
          refine g_icmp_ne hZ 51 dX9_isCommand_44 rfl (by omega) (fun c2 => ?_) (fun c2 => ?_)
          · rw [show cntW w = 1 by unfold cntW; rw [if_neg (by omega), if_neg (by omega)]] at hz
            refine g_iconst hZ dX9_isCommand_51 ?_
            exact hz
          · rw [show cntW w = 0 by unfold cntW; rw [if_neg (by omega), if_pos (by omega)]] at hz
            refine g_iconst hZ dX9_isCommand_47 ?_
            refine g_goto hZ 52 dX9_isCommand_48 rfl ?_
            exact hz
        · rw [show cntW w = 4 by unfold cntW; rw [if_pos (by omega)]] at hz
          refine g_iconst hZ dX9_isCommand_35 ?_
          refine g_goto hZ 52 dX9_isCommand_36 rfl ?_
          exact hz
      induction f with
      | zero =>
        intro k S₂ vs a L9 hkf hvl ha he hs₂ hw₂ hvs hR hL9
        refine g_keep hZ [0, 1, 2] hL9 (head k S₂ 1 (by omega) hw₂ ?_)
        refine g_icmp_ge hZ 71 dX9_isCommand_52 rfl (by omega) (fun _ => ?_) (fun cX => absurd (by omega) cX)
        simp only [rdNs, List.append_nil] at hR
        exact good S₂ vs a _ hR (by omega) he hs₂ hw₂ hvs rfl
      | succ f ih =>
        intro k S₂ vs a L9 hkf hvl ha he hs₂ hw₂ hvs hR hL9
        refine g_keep hZ [0, 1, 2] hL9 (head k S₂ 1 (by omega) hw₂ ?_)
        refine g_icmp_ge hZ 71 dX9_isCommand_52 rfl (by omega) (fun cX => absurd cX (by omega)) (fun _ => ?_)
        refine g_iload_n hZ dX9_isCommand_55 rfl ?_
        refine g_if_eq hZ 71 dX9_isCommand_56 rfl (by omega) (fun cX => absurd cX (by omega)) (fun _ => ?_)
        refine g_aload_n hZ dX9_isCommand_59 rfl ?_
        refine g_iload_n hZ dX9_isCommand_60 rfl ?_
        refine g_callV hZ (t_X9_isNumber E S₂ tx (hT.x he rfl rfl) a (by omega) hs₂ k (by omega)) kX9_202 ⟨by decide, by decide⟩ rfl rfl rfl rfl (Nat.le_of_ble_eq_true rfl) dX9_isCommand_61 ?_
        rintro _ S₃ ⟨he₃, ho₃, z, rfl, hz⟩
        have he₂₃ : Eqx [59, 60, 74] S S₃ := he.tr (he₃.mono rfl)
        have hw₃ : S₃ 60 0 = (w : Int) := (he₃ 60 0 rfl).trans hw₂
        rcases hz with ⟨rfl, hz⟩ | ⟨rfl, v, b, hz, hs₃, hv₃⟩
        · rw [rdNs, hz] at hR
          simp only at hR
          have hp : pcmd tx i = none := by rw [hpc _ hR]
          refine g_istore_n hZ dX9_isCommand_64 (by decide) ?_
          refine g_iinc hZ dX9_isCommand_65 rfl (by decide) ?_
          refine g_goto hZ 26 dX9_isCommand_68 rfl ?_
          refine head (k + 1) S₃ 0 (by omega) hw₃ ?_
          refine g_icmp_ge hZ 71 dX9_isCommand_52 rfl (by omega) (fun c => ?_) (fun c => ?_)
          · refine g_aload_n hZ dX9_isCommand_71 rfl ?_
            refine g_dup hZ dX9_isCommand_72 rfl ?_
            refine g_geti hZ fX9_183 rfl rfl dX9_isCommand_73 rfl ?_
            refine g_iconst hZ dX9_isCommand_76 ?_
            refine g_iadd hZ dX9_isCommand_77 ?_
            refine g_puti hZ fX9_183 rfl rfl dX9_isCommand_78 ?_
            refine g_iload_n hZ dX9_isCommand_81 rfl ?_
            refine g_if_eq hZ 104 dX9_isCommand_82 rfl (by omega) (fun _ => ?_) (fun cX => absurd (by omega) cX)
            refine g_iconst hZ dX9_isCommand_104 ?_
            refine g_zret hZ dX9_isCommand_105 rfl (Or.inl rfl) ⟨he₂₃.up rfl, 0, rfl, Or.inl ⟨rfl, hp⟩⟩
          · refine g_iload_n hZ dX9_isCommand_55 rfl ?_
            refine g_if_eq hZ 71 dX9_isCommand_56 rfl (by omega) (fun _ => ?_) (fun cX => absurd (by omega) cX)
            refine g_aload_n hZ dX9_isCommand_71 rfl ?_
            refine g_dup hZ dX9_isCommand_72 rfl ?_
            refine g_geti hZ fX9_183 rfl rfl dX9_isCommand_73 rfl ?_
            refine g_iconst hZ dX9_isCommand_76 ?_
            refine g_iadd hZ dX9_isCommand_77 ?_
            refine g_puti hZ fX9_183 rfl rfl dX9_isCommand_78 ?_
            refine g_iload_n hZ dX9_isCommand_81 rfl ?_
            refine g_if_eq hZ 104 dX9_isCommand_82 rfl (by omega) (fun _ => ?_) (fun cX => absurd (by omega) cX)
            refine g_iconst hZ dX9_isCommand_104 ?_
            refine g_zret hZ dX9_isCommand_105 rfl (Or.inl rfl) ⟨he₂₃.up rfl, 0, rfl, Or.inl ⟨rfl, hp⟩⟩
        · obtain ⟨r1, r2, r3, -⟩ := rdN_ok hz
          rw [rdNs, hz] at hR
          simp only at hR
          refine g_istore_n hZ dX9_isCommand_64 (by decide) ?_
          refine g_iinc hZ dX9_isCommand_65 rfl (by decide) ?_
          refine g_goto hZ 26 dX9_isCommand_68 rfl ?_
          refine ih (k + 1) S₃ (vs ++ [v]) b _ (by omega) (by simp [hvl]) (by omega) he₂₃ hs₃ hw₃ (HL_add hvs (fun j hj => ho₃ j (by omega)) (by rw [hvl]; exact hv₃)) ?_ rfl
          cases e2 : rdNs tx f b with
          | none =>
            rw [e2] at hR
            exact hR
          | some q2 =>
            obtain ⟨us, c⟩ := q2
            rw [e2] at hR
            simp only at hR ⊢
            rw [hR, List.append_assoc]; rfl
    refine g_puti hZ fX9_199 rfl rfl dX9_isCommand_8 ?_
    refine g_aload_n hZ dX9_isCommand_11 rfl ?_
    refine g_geti hZ fX9_199 rfl rfl dX9_isCommand_12 e60 ?_
    refine g_if_lt hZ 22 dX9_isCommand_15 rfl (by omega) (fun cX => absurd cX (by omega)) (fun _ => ?_)
    refine g_iconst hZ dX9_isCommand_18 ?_
    refine g_goto hZ 23 dX9_isCommand_19 rfl ?_
    refine g_istore_n hZ dX9_isCommand_23 (by decide) ?_
    refine g_iconst hZ dX9_isCommand_24 ?_
    refine g_istore_n hZ dX9_isCommand_25 (by decide) ?_
    refine loop (cntW w) 0 _ [] (i + m) _ (by omega) rfl (by omega) (he₁'.up rfl) e59 e60 (HL_nil _ _) ?_ rfl
    cases rdNs tx (cntW w) (i + m) with
    | none => rfl
    | some q => rfl
def flt (tx : List Nat) : Nat → Nat → Int
  | 0, _ => -1005
  | f + 1, i => if i < tx.length then (match pcmd tx i with | none => (i : Int) | some q => flt tx f q.2.2) else -1005
theorem t_X9_faultOf (E : gE) (S : gS) (tx : List Nat) (hT : mTx S tx) : Ct E LAY mX9_faultOf [.ref (gad E 27)] S (fun r S' => Eqx [59, 60, 74] S S' ∧ r = some (iV (flt tx 61 0))) := by
  obtain ⟨h1, h2, h3, h4⟩ := id hT
  refine Ct.intro LAY_ok (by decide +kernel) (Nat.le_of_ble_eq_true rfl) rfl ?_
  intro Z hZ
  have loop : ∀ (f i : Nat) (S₁ : gS) (L9 : List (Nat × Value)), i + f = 61 → i ≤ tx.length → Eqx [59, 60, 74] S S₁ → S₁ 59 0 = (i : Int) → (∀ g, f ≤ g → flt tx g i = flt tx 61 0) → lkeep L9 [0] = [(0, .ref (gad E 27))] → Z S₁ L9 5 [] := by
    intro f
    induction f using Nat.strongRecOn with
    | ind f ih =>
      intro i S₁ L9 hf hi he hs hR hL9
      have hT₁ := hT.x he rfl rfl
      refine g_keep hZ [0] hL9 ?_
      refine g_aload_n hZ dX9_faultOf_5 rfl ?_
      refine g_geti hZ fX9_183 rfl rfl dX9_faultOf_6 hs ?_
      refine g_aload_n hZ dX9_faultOf_9 rfl ?_
      refine g_geti hZ fX9_180 rfl rfl dX9_faultOf_10 hT₁.1 ?_
      refine g_icmp_ge hZ 33 dX9_faultOf_13 rfl (by omega) (fun c => ?_) (fun c => ?_)
      · have := hR (f + 1) (by omega)
        rw [flt, if_neg (by omega)] at this
        refine g_sipush hZ (z := (-1005)) dX9_faultOf_33 rfl ?_
        refine g_iret hZ dX9_faultOf_36 rfl ⟨he, by rw [← this]⟩
      · refine g_aload_n hZ dX9_faultOf_16 rfl ?_
        refine g_geti hZ fX9_183 rfl rfl dX9_faultOf_17 hs ?_
        refine g_istore_n hZ dX9_faultOf_20 (by decide) ?_
        refine g_aload_n hZ dX9_faultOf_21 rfl ?_
        refine g_callV hZ (t_X9_isCommand E S₁ tx hT₁ i (by omega) hs) kX9_205 ⟨by decide, by decide⟩ rfl rfl rfl rfl (Nat.le_of_ble_eq_true rfl) dX9_faultOf_22 ?_
        rintro _ S₂ ⟨he₂, z, rfl, hz⟩
        rcases hz with ⟨rfl, hz⟩ | ⟨rfl, q, hz, hw₂, hs₂, hv₂⟩
        · have := hR (f + 1) (by omega)
          rw [flt, if_pos (by omega), hz] at this
          refine g_if_ne hZ 30 dX9_faultOf_25 rfl (by omega) (fun cX => absurd (by omega) cX) (fun _ => ?_)
          refine g_iload_n hZ dX9_faultOf_28 rfl ?_
          refine g_iret hZ dX9_faultOf_29 rfl ⟨he.tr he₂, by rw [← this]⟩
        · obtain ⟨p1, p2, p3, p4, p5⟩ := pcmd_ok hz
          refine g_if_ne hZ 30 dX9_faultOf_25 rfl (by omega) (fun _ => ?_) (fun cX => absurd cX (by omega))
          refine g_goto hZ 5 dX9_faultOf_30 rfl ?_
          refine ih (61 - q.2.2) (by omega) q.2.2 S₂ _ (by omega) p5 (he.tr he₂) hs₂ (fun g hg => ?_) rfl
          have := hR (max (g + 1) (f + 1)) (by omega)
          have mono : ∀ (g g2 j : Nat), tx.length < j + g → tx.length < j + g2 → flt tx g j = flt tx g2 j := by
            intro g
            induction g with
            | zero =>
              intro g2 j a1 a2
              cases g2 with
              | zero => rfl
              | succ g2 => rw [flt, flt, if_neg (by omega)]
            | succ g ihg =>
              intro g2 j a1 a2
              cases g2 with
              | zero => rw [flt, flt, if_neg (by omega)]
              | succ g2 =>
                rw [flt, flt]
                by_cases e : j < tx.length
                · rw [if_pos e, if_pos e]
                  cases hp : pcmd tx j with
                  | none => rfl
                  | some q =>
                    have := pcmd_ok hp
                    exact ihg g2 q.2.2 (by omega) (by omega)
                · rw [if_neg e, if_neg e]
          have e1 := hR (f + 1) (by omega)
          rw [flt, if_pos (by omega), hz] at e1
          rw [← e1]
          exact mono _ _ _ (by omega) (by omega)
  refine g_aload_n hZ dX9_faultOf_0 rfl ?_
  refine g_iconst hZ dX9_faultOf_1 ?_
  refine g_puti hZ fX9_183 rfl rfl dX9_faultOf_2 ?_
  exact loop 61 0 _ _ (by omega) (Nat.zero_le _) (Eqx.rf.up rfl) (upS_eq _ _ _ _) (fun g hg => by
    have mono : ∀ (g g2 j : Nat), tx.length < j + g → tx.length < j + g2 → flt tx g j = flt tx g2 j := by
      intro g
      induction g with
      | zero =>
        intro g2 j a1 a2
        cases g2 with
        | zero => rfl
        | succ g2 => rw [flt, flt, if_neg (by omega)]
      | succ g ihg =>
        intro g2 j a1 a2
        cases g2 with
        | zero => rw [flt, flt, if_neg (by omega)]
        | succ g2 =>
          rw [flt, flt]
          by_cases e : j < tx.length
          · rw [if_pos e, if_pos e]
            cases hp : pcmd tx j with
            | none => rfl
            | some q =>
              have := pcmd_ok hp
              exact ihg g2 q.2.2 (by omega) (by omega)
          · rw [if_neg e, if_neg e]
    exact mono _ _ _ (by omega) (by omega)) rfl
theorem t_X9_fault (E : gE) (S : gS) (tx : List Nat) (hT : mTx S tx) : Ct E LAY mX9_fault [.ref (gad E 27)] S (fun r S' => Eqx [59, 60, 74] S S' ∧ r = some (iV (flt tx 61 0))) := by
  refine Ct.intro LAY_ok (by decide +kernel) (Nat.le_of_ble_eq_true rfl) rfl ?_
  intro Z hZ
  refine g_aload_n hZ dX9_fault_0 rfl ?_
  refine g_callV hZ (t_X9_faultOf E S tx hT) kX9_209 ⟨by decide, by decide⟩ rfl rfl rfl rfl (Nat.le_of_ble_eq_true rfl) dX9_fault_1 ?_
  rintro _ S₁ ⟨he₁, rfl⟩
  refine g_iret hZ dX9_fault_4 rfl ⟨he₁, rfl⟩
def exC (w n : Nat) (B : Nat → Int) (wd : Nat) (vs : List Nat) : Option (Nat → Int) :=
  if wd = 5 then some B else if wd < 4 then (if aSet n B (vs.getD 0 0 : Nat) (wd : Int) < 0 then none else some (upB B (vs.getD 0 0) (wd : Int))) else
    (if aMove w n B (vs.getD 0 0 : Nat) (vs.getD 1 0 : Nat) (vs.getD 2 0 : Nat) (vs.getD 3 0 : Nat) < 0 then none else some (aftB B (vs.getD 1 0, vs.getD 2 0, vs.getD 3 0) (vs.getD 0 0 : Nat)))
theorem t_X9_does (E : gE) (S : gS) (w h n : Nat) (hg : mG S w h n) (hB : mBd (S 61) n) (hc : mC3 (S 61) n) (wd : Nat) (vs : List Nat) (hw : S 60 0 = (wd : Int)) (hwd : wd ≤ 5) (hvl : vs.length = cntW wd) (hv : ∀ v ∈ vs, v ≤ 99) (hHL : HL (fun v : Nat => (v : Int)) (S 74) vs) : Ct E LAY mX9_does [.ref (gad E 27)] S (fun r S' => Eqx [55, 61, 62, 66] S S' ∧ ∃ z, r = some (iV z) ∧ ((z = 0 ∧ exC w n (S 61) wd vs = none ∧ S' 61 = S 61) ∨ (z = 1 ∧ exC w n (S 61) wd vs = some (S' 61)))) := by
  have hn := hg.n15
  have gv : ∀ j, j < cntW wd → S 74 j = ((vs.getD j 0 : Nat) : Int) ∧ vs.getD j 0 ≤ 99 := by
    intro j hj
    obtain ⟨x, hx⟩ : ∃ x, vs[j]? = some x := ⟨_, List.getElem?_eq_getElem (by omega)⟩
    rw [List.getD_eq_getElem?_getD, hx]
    exact ⟨hHL j x hx, hv x (List.mem_of_getElem? hx)⟩
  refine Ct.intro LAY_ok (by decide +kernel) (Nat.le_of_ble_eq_true rfl) rfl ?_
  intro Z hZ
  refine g_aload_n hZ dX9_does_0 rfl ?_
  refine g_geti hZ fX9_199 rfl rfl dX9_does_1 hw ?_
  refine g_iconst hZ dX9_does_4 ?_
  refine g_icmp_ne hZ 10 dX9_does_5 rfl (by omega) (fun c1 => ?_) (fun c1 => ?_)
  · refine g_aload_n hZ dX9_does_10 rfl ?_
    refine g_geti hZ fX9_199 rfl rfl dX9_does_11 hw ?_
    refine g_iconst hZ dX9_does_14 ?_
    refine g_icmp_ge hZ 54 dX9_does_15 rfl (by omega) (fun c2 => ?_) (fun c2 => ?_)
    · have hw4 : wd = 4 := by omega
      have hcw : cntW wd = 4 := by unfold cntW; rw [if_pos hw4]
      obtain ⟨g0, l0⟩ := gv 0 (by omega)
      obtain ⟨g1, l1⟩ := gv 1 (by omega)
      obtain ⟨g2, l2⟩ := gv 2 (by omega)
      obtain ⟨g3, l3⟩ := gv 3 (by omega)
      have hex : exC w n (S 61) wd vs = (if aMove w n (S 61) (vs.getD 0 0 : Nat) (vs.getD 1 0 : Nat) (vs.getD 2 0 : Nat) (vs.getD 3 0 : Nat) < 0 then none else some (aftB (S 61) (vs.getD 1 0, vs.getD 2 0, vs.getD 3 0) (vs.getD 0 0 : Nat))) := by
        unfold exC
        rw [if_neg (by omega), if_neg (by omega)]
      generalize vs.getD 0 0 = v0 at *
      generalize vs.getD 1 0 = v1 at *
      generalize vs.getD 2 0 = v2 at *
      generalize vs.getD 3 0 = v3 at *
      refine g_aload_n hZ dX9_does_54 rfl ?_
      refine g_aload_n hZ dX9_does_55 rfl ?_
      refine g_getr hZ fX9_57 rfl rfl dX9_does_56 ?_
      refine g_iconst hZ dX9_does_59 ?_
      refine g_iald hZ (0) rfl dX9_does_60 (rfl) (by omega) (by decide) (g0) ?_
      refine g_aload_n hZ dX9_does_61 rfl ?_
      refine g_getr hZ fX9_57 rfl rfl dX9_does_62 ?_
      refine g_iconst hZ dX9_does_65 ?_
      refine g_iald hZ (1) rfl dX9_does_66 (rfl) (by omega) (by decide) (g1) ?_
      refine g_aload_n hZ dX9_does_67 rfl ?_
      refine g_getr hZ fX9_57 rfl rfl dX9_does_68 ?_
      refine g_iconst hZ dX9_does_71 ?_
      refine g_iald hZ (2) rfl dX9_does_72 (rfl) (by omega) (by decide) (g2) ?_
      refine g_aload_n hZ dX9_does_73 rfl ?_
      refine g_getr hZ fX9_57 rfl rfl dX9_does_74 ?_
      refine g_iconst hZ dX9_does_77 ?_
      refine g_iald hZ (3) rfl dX9_does_78 (rfl) (by omega) (by decide) (g3) ?_
      refine g_callV hZ (t_X9_noMove E S w h n hg hB hc v0 v1 v2 v3 (by omega) (by omega) (by omega) (by omega)) kX9_112 ⟨by decide, by decide⟩ rfl rfl rfl rfl (Nat.le_of_ble_eq_true rfl) dX9_does_79 ?_
      rintro _ S₁ ⟨he₁, z, rfl, hz⟩
      have e61 : S₁ 61 = S 61 := funext fun j => he₁ 61 j rfl
      have hz2 : (z < 0 ∧ aMove w n (S 61) v0 v1 v2 v3 < 0) ∨ (z = 0 ∧ ¬ aMove w n (S 61) v0 v1 v2 v3 < 0 ∧ ((v0 : Int) = 1 ∨ (v0 : Int) = 2) ∧ (v1, v2, v3) ∈ mvs w n (S 61) v0) := by
        unfold mNo at hz
        unfold aMove
        simp only [Int.toNat_natCast] at hz ⊢
        rcases hz with ⟨a1, a2⟩ | ⟨a1, a2, a3⟩ | ⟨a1, a2, a3⟩
        · exact Or.inl ⟨by omega, by rw [if_neg a1]; omega⟩
        · exact Or.inr ⟨by omega, by rw [if_pos a1, if_pos a2]; omega, a1.1, a2⟩
        · exact Or.inl ⟨by omega, by rw [if_pos a1, if_neg a2]; omega⟩
      have hzr : R32 z := by unfold mNo at hz; omega
      refine g_if_ge hZ 87 dX9_does_82 rfl (by omega) (fun c => ?_) (fun c => ?_)
      · obtain ⟨-, hnn, hs12, hin⟩ := hz2.resolve_left (by omega)
        rw [if_neg hnn] at hex
        have hg₁ := hg.x he₁ rfl rfl
        have k0 := (he₁ 74 0 rfl).trans g0
        have k1 := (he₁ 74 1 rfl).trans g1
        have k2 := (he₁ 74 2 rfl).trans g2
        have k3 := (he₁ 74 3 rfl).trans g3
        refine g_aload_n hZ dX9_does_87 rfl ?_
        refine g_aload_n hZ dX9_does_88 rfl ?_
        refine g_getr hZ fX9_57 rfl rfl dX9_does_89 ?_
        refine g_iconst hZ dX9_does_92 ?_
        refine g_iald hZ (0) rfl dX9_does_93 (rfl) (by omega) (by decide) (k0) ?_
        refine g_aload_n hZ dX9_does_94 rfl ?_
        refine g_getr hZ fX9_57 rfl rfl dX9_does_95 ?_
        refine g_iconst hZ dX9_does_98 ?_
        refine g_iald hZ (1) rfl dX9_does_99 (rfl) (by omega) (by decide) (k1) ?_
        refine g_aload_n hZ dX9_does_100 rfl ?_
        refine g_getr hZ fX9_57 rfl rfl dX9_does_101 ?_
        refine g_iconst hZ dX9_does_104 ?_
        refine g_iald hZ (2) rfl dX9_does_105 (rfl) (by omega) (by decide) (k2) ?_
        refine g_aload_n hZ dX9_does_106 rfl ?_
        refine g_getr hZ fX9_57 rfl rfl dX9_does_107 ?_
        refine g_iconst hZ dX9_does_110 ?_
        refine g_iald hZ (3) rfl dX9_does_111 (rfl) (by omega) (by decide) (k3) ?_
        refine g_callV hZ (t_X9_goes E S₁ w h n hg₁ (by rw [e61]; exact hB) (by rw [e61]; exact hc) v0 hs12 (v1, v2, v3) (by rw [e61]; exact hin)) kX9_116 ⟨by decide, by decide⟩ rfl rfl rfl rfl (Nat.le_of_ble_eq_true rfl) dX9_does_112 ?_
        rintro _ S₂ ⟨rfl, he₂, h61⟩
        rw [e61] at h61
        refine g_pop hZ dX9_does_115 rfl ?_
        refine g_iconst hZ dX9_does_116 ?_
        refine g_zret hZ dX9_does_117 rfl (Or.inr rfl) ⟨(he₁.mono rfl).tr he₂, 1, rfl, Or.inr ⟨rfl, by rw [hex, h61]⟩⟩
      · obtain ⟨-, hneg⟩ := hz2.resolve_right (by omega)
        rw [if_pos hneg] at hex
        refine g_iconst hZ dX9_does_85 ?_
        refine g_zret hZ dX9_does_86 rfl (Or.inl rfl) ⟨he₁.mono rfl, 0, rfl, Or.inl ⟨rfl, hex, e61⟩⟩
    · have hcw : cntW wd = 1 := by unfold cntW; rw [if_neg (by omega), if_neg (by omega)]
      obtain ⟨g0, l0⟩ := gv 0 (by omega)
      have hex : exC w n (S 61) wd vs = (if aSet n (S 61) (vs.getD 0 0 : Nat) (wd : Int) < 0 then none else some (upB (S 61) (vs.getD 0 0) (wd : Int))) := by
        unfold exC
        rw [if_neg (by omega), if_pos (by omega)]
      generalize vs.getD 0 0 = v0 at *
      refine g_aload_n hZ dX9_does_18 rfl ?_
      refine g_aload_n hZ dX9_does_19 rfl ?_
      refine g_getr hZ fX9_57 rfl rfl dX9_does_20 ?_
      refine g_iconst hZ dX9_does_23 ?_
      refine g_iald hZ (0) rfl dX9_does_24 (rfl) (by omega) (by decide) (g0) ?_
      refine g_aload_n hZ dX9_does_25 rfl ?_
      refine g_geti hZ fX9_199 rfl rfl dX9_does_26 hw ?_
      refine g_callV hZ (t_X9_inWay E S w h n hg hB v0 wd (by omega) (by omega)) kX9_88 ⟨by decide, by decide⟩ rfl rfl rfl rfl (Nat.le_of_ble_eq_true rfl) dX9_does_29 ?_
      rintro _ _ ⟨rfl, z, rfl, hz⟩
      have hz2 : (z < 0 ∧ aSet n (S 61) v0 wd < 0) ∨ (z = 0 ∧ ¬ aSet n (S 61) v0 wd < 0 ∧ v0 < n) := by
        unfold aSet
        rcases hz with ⟨a1, a2⟩ | ⟨a1, a2, a3⟩ | ⟨a1, a2, a3⟩
        · exact Or.inl ⟨by omega, by rw [if_neg a1]; omega⟩
        · exact Or.inl ⟨by omega, by rw [if_pos a1, if_pos a2]; omega⟩
        · exact Or.inr ⟨by omega, by rw [if_pos a1, if_neg a2]; have := hB (v0 : Int).toNat (by omega); omega, by omega⟩
      have hzr : R32 z := by omega
      refine g_if_ge hZ 37 dX9_does_32 rfl (by omega) (fun c => ?_) (fun c => ?_)
      · obtain ⟨-, hnn, hvn⟩ := hz2.resolve_left (by omega)
        rw [if_neg hnn] at hex
        refine g_aload_n hZ dX9_does_37 rfl ?_
        refine g_aload_n hZ dX9_does_38 rfl ?_
        refine g_getr hZ fX9_57 rfl rfl dX9_does_39 ?_
        refine g_iconst hZ dX9_does_42 ?_
        refine g_iald hZ (0) rfl dX9_does_43 (rfl) (by omega) (by decide) (g0) ?_
        refine g_aload_n hZ dX9_does_44 rfl ?_
        refine g_geti hZ fX9_199 rfl rfl dX9_does_45 hw ?_
        refine g_callV hZ (t_X9_puts E S v0 wd (by omega)) kX9_92 ⟨by decide, by decide⟩ rfl rfl rfl rfl (Nat.le_of_ble_eq_true rfl) dX9_does_48 ?_
        rintro _ _ ⟨rfl, rfl⟩
        refine g_pop hZ dX9_does_51 rfl ?_
        refine g_iconst hZ dX9_does_52 ?_
        refine g_zret hZ dX9_does_53 rfl (Or.inr rfl) ⟨Eqx.rf.up rfl, 1, rfl, Or.inr ⟨rfl, by rw [hex, upS_61]⟩⟩
      · obtain ⟨-, hneg⟩ := hz2.resolve_right (by omega)
        rw [if_pos hneg] at hex
        refine g_iconst hZ dX9_does_35 ?_
        refine g_zret hZ dX9_does_36 rfl (Or.inl rfl) ⟨Eqx.rf, 0, rfl, Or.inl ⟨rfl, hex, rfl⟩⟩
  · refine g_iconst hZ dX9_does_8 ?_
    refine g_zret hZ dX9_does_9 rfl (Or.inr rfl) ⟨Eqx.rf, 1, rfl, Or.inr ⟨rfl, by unfold exC; rw [if_pos (by omega)]⟩⟩
theorem upB_cnt (B : Nat → Int) (f : Nat) (v z : Int) (n : Nat) : cntZ (upB B f v) z n + (if f < n ∧ B f = z then 1 else 0) = cntZ B z n + (if f < n ∧ v = z then 1 else 0) := cntZ_set B f v z n
theorem aSet_ok {n : Nat} {B : Nat → Int} {f v : Int} (hB : mBd B n) (hc : mC3 B n) (h : ¬ aSet n B f v < 0) : (0 ≤ f ∧ f < n ∧ 0 ≤ v ∧ v ≤ 3) ∧ mBd (upB B f.toNat v) n ∧ mC3 (upB B f.toNat v) n := by
  unfold aSet at h
  by_cases c1 : 0 ≤ f ∧ f < n ∧ 0 ≤ v ∧ v ≤ 3
  · rw [if_pos c1] at h
    by_cases c2 : (v = 1 ∨ v = 2) ∧ B f.toNat ≠ v ∧ cntZ B v n = 3
    · rw [if_pos c2] at h; omega
    · refine ⟨c1, fun k hk => ?_, ?_, ?_⟩
      · have := hB k hk
        unfold upB; split <;> omega
      · have e1 := upB_cnt B f.toNat v 1 n
        have h1 := hc.1
        by_cases q : v = 1
        · subst q
          by_cases q2 : B f.toNat = 1
          · simp only [q2, and_true] at e1; omega
          · have : cntZ B 1 n ≠ 3 := fun e => c2 ⟨Or.inl rfl, q2, e⟩
            split at e1 <;> split at e1 <;> omega
        · simp only [q, and_false, if_false] at e1; omega
      · have e1 := upB_cnt B f.toNat v 2 n
        have h1 := hc.2
        by_cases q : v = 2
        · subst q
          by_cases q2 : B f.toNat = 2
          · simp only [q2, and_true] at e1; omega
          · have : cntZ B 2 n ≠ 3 := fun e => c2 ⟨Or.inr rfl, q2, e⟩
            split at e1 <;> split at e1 <;> omega
        · simp only [q, and_false, if_false] at e1; omega
  · rw [if_neg c1] at h; omega
theorem aMove_ok {w h n : Nat} {B : Nat → Int} {s a t u : Int} (hg : gOK w h n) (hB : mBd B n) (hc : mC3 B n) (hm : ¬ aMove w n B s a t u < 0) : ((s = 1 ∨ s = 2) ∧ 0 ≤ a ∧ a < n ∧ 0 ≤ t ∧ t < n ∧ 0 ≤ u ∧ u < n) ∧ (a.toNat, t.toNat, u.toNat) ∈ mvs w n B s ∧ mBd (aftB B (a.toNat, t.toNat, u.toNat) s) n ∧ mC3 (aftB B (a.toNat, t.toNat, u.toNat) s) n := by
  unfold aMove at hm
  by_cases c1 : (s = 1 ∨ s = 2) ∧ 0 ≤ a ∧ a < n ∧ 0 ≤ t ∧ t < n ∧ 0 ≤ u ∧ u < n
  · rw [if_pos c1] at hm
    by_cases c2 : (a.toNat, t.toNat, u.toNat) ∈ mvs w n B s
    · refine ⟨c1, c2, aftB_bd hB c1.1, ?_, ?_⟩
      · rw [aftB_cnt hg c1.1 c2 (Or.inl rfl)]; exact hc.1
      · rw [aftB_cnt hg c1.1 c2 (Or.inr rfl)]; exact hc.2
    · rw [if_neg c2] at hm; omega
  · rw [if_neg c1] at hm; omega
theorem exC_ok {w h n : Nat} {B B2 : Nat → Int} {wd : Nat} {vs : List Nat} (hg : gOK w h n) (hB : mBd B n) (hc : mC3 B n) (he : exC w n B wd vs = some B2) : mBd B2 n ∧ mC3 B2 n := by
  unfold exC at he
  split at he
  · cases he; exact ⟨hB, hc⟩
  · split at he
    · split at he
      · cases he
      · rename_i hs
        cases he
        have := aSet_ok hB hc hs
        simp only [Int.toNat_natCast] at this
        exact this.2
    · split at he
      · cases he
      · rename_i hs
        cases he
        have := aMove_ok hg hB hc hs
        simp only [Int.toNat_natCast] at this
        exact this.2.2
def rnF (w n : Nat) (tx : List Nat) : Nat → Nat → (Nat → Int) → Nat → Nat × (Nat → Int)
  | 0, _, B, k => (k, B)
  | f + 1, i, B, k => if i < tx.length then (match pcmd tx i with
    | none => (k, B)
    | some q => match exC w n B q.1 q.2.1 with
      | none => (k, B)
      | some B2 => rnF w n tx f q.2.2 B2 (k + 1)) else (k, B)
theorem rnF_mono (w n : Nat) (tx : List Nat) : ∀ (g g2 j : Nat) (B : Nat → Int) (k : Nat), tx.length < j + g → tx.length < j + g2 → rnF w n tx g j B k = rnF w n tx g2 j B k := by
  intro g
  induction g with
  | zero =>
    intro g2 j B k a1 a2
    cases g2 with
    | zero => rfl
    | succ g2 => rw [rnF, rnF, if_neg (by omega)]
  | succ g ihg =>
    intro g2 j B k a1 a2
    cases g2 with
    | zero => rw [rnF, rnF, if_neg (by omega)]
    | succ g2 =>
      rw [rnF, rnF]
      by_cases e : j < tx.length
      · rw [if_pos e, if_pos e]
        cases hp : pcmd tx j with
        | none => rfl
        | some q =>
          have := pcmd_ok hp
          simp only
          cases exC w n B q.1 q.2.1 with
          | none => rfl
          | some B2 => exact ihg g2 q.2.2 B2 (k + 1) (by omega) (by omega)
      · rw [if_neg e, if_neg e]
theorem t_X9_run (E : gE) (S : gS) (w h n : Nat) (hg : mG S w h n) (hB : mBd (S 61) n) (hc : mC3 (S 61) n) (hs : List hEn) (hh : mHs S hs) (tx : List Nat) (hT : mTx S tx) : Ct E LAY mX9_run [.ref (gad E 27)] S (fun r S' => (flt tx 61 0 ≠ -1005 ∧ r = some (iV (-1002)) ∧ Eqx [59, 60, 74] S S') ∨ (flt tx 61 0 = -1005 ∧ r = some (iV ((rnF w n tx 61 0 (S 61) 0).1 : Int)) ∧ Eqx [52, 55, 59, 60, 61, 62, 63, 66, 74] S S' ∧ S' 61 = (rnF w n tx 61 0 (S 61) 0).2 ∧ mHs S' (hpush hs (w, h, S 61)))) := by
  have hn := hg.n15
  obtain ⟨h1, h2, h3, h4⟩ := id hT
  have hfb : R32 (flt tx 61 0) := by
    have : ∀ (f i : Nat), flt tx f i = -1005 ∨ (0 ≤ flt tx f i ∧ flt tx f i ≤ 60) := by
      intro f
      induction f with
      | zero => intro i; exact Or.inl rfl
      | succ f ih =>
        intro i
        rw [flt]
        split
        · split
          · right; omega
          · exact ih _
        · left; rfl
    have := this 61 0
    omega
  refine Ct.intro LAY_ok (by decide +kernel) (Nat.le_of_ble_eq_true rfl) rfl ?_
  intro Z hZ
  refine g_aload_n hZ dX9_run_0 rfl ?_
  refine g_callV hZ (t_X9_faultOf E S tx hT) kX9_209 ⟨by decide, by decide⟩ rfl rfl rfl rfl (Nat.le_of_ble_eq_true rfl) dX9_run_1 ?_
  rintro _ S₁ ⟨he₁, rfl⟩
  refine g_sipush hZ (z := (-1005)) dX9_run_4 rfl ?_
  refine g_icmp_eq hZ 14 dX9_run_7 rfl (by omega) (fun c => ?_) (fun c => ?_)
  · have hg₁ := hg.x he₁ rfl rfl
    have e61 : S₁ 61 = S 61 := funext fun j => he₁ 61 j rfl
    refine g_aload_n hZ dX9_run_14 rfl ?_
    refine g_callV hZ (t_X9_keeps E S₁ w h n hg₁ hs (hh.x he₁ rfl rfl)) kX9_71 ⟨by decide, by decide⟩ rfl rfl rfl rfl (Nat.le_of_ble_eq_true rfl) dX9_run_15 ?_
    rintro _ S₂ ⟨rfl, he₂, hh₂⟩
    rw [e61] at hh₂
    have e62 : S₂ 61 = S 61 := funext fun j => (he₂ 61 j rfl).trans (he₁ 61 j rfl)
    have loop : ∀ (f i : Nat) (S₃ : gS) (k : Nat), i + f = 61 → i ≤ tx.length → k ≤ i → Eqx [52, 55, 59, 60, 61, 62, 63, 66, 74] S S₃ → mHs S₃ (hpush hs (w, h, S 61)) → S₃ 59 0 = (i : Int) → mBd (S₃ 61) n → mC3 (S₃ 61) n → (∀ g, tx.length < i + g → rnF w n tx g i (S₃ 61) k = rnF w n tx 61 0 (S 61) 0) → Z S₃ [(0, .ref (gad E 27)), (1, iV (k : Int))] 25 [] := by
      intro f
      induction f using Nat.strongRecOn with
      | ind f ih =>
        intro i S₃ k hf hi hki he hh₃ hs₃ hB₃ hc₃ hR
        have hT₃ := hT.x he rfl rfl
        have hR1 := hR (f + 1) (by omega)
        refine g_aload_n hZ dX9_run_25 rfl ?_
        refine g_geti hZ fX9_183 rfl rfl dX9_run_26 hs₃ ?_
        refine g_aload_n hZ dX9_run_29 rfl ?_
        refine g_geti hZ fX9_180 rfl rfl dX9_run_30 hT₃.1 ?_
        refine g_icmp_ge hZ 56 dX9_run_33 rfl (by omega) (fun c2 => ?_) (fun c2 => ?_)
        · rw [rnF, if_neg (by omega)] at hR1
          refine g_iload_n hZ dX9_run_56 rfl ?_
          refine g_iret hZ dX9_run_57 rfl (Or.inr ⟨c, by rw [← hR1], he, by rw [← hR1], hh₃⟩)
        · rw [rnF, if_pos (by omega)] at hR1
          refine g_aload_n hZ dX9_run_36 rfl ?_
          refine g_callV hZ (t_X9_isCommand E S₃ tx hT₃ i (by omega) hs₃) kX9_205 ⟨by decide, by decide⟩ rfl rfl rfl rfl (Nat.le_of_ble_eq_true rfl) dX9_run_37 ?_
          rintro _ S₄ ⟨he₄, z, rfl, hz⟩
          have he₃₄ : Eqx [52, 55, 59, 60, 61, 62, 63, 66, 74] S S₄ := he.tr (he₄.mono rfl)
          have e61₄ : S₄ 61 = S₃ 61 := funext fun j => he₄ 61 j rfl
          have hh₄ := hh₃.x he₄ rfl rfl
          rcases hz with ⟨rfl, hz⟩ | ⟨rfl, q, hz, hw₄, hs₄, hv₄⟩
          · rw [hz] at hR1
            simp only at hR1
            refine g_if_eq hZ 56 dX9_run_40 rfl (by omega) (fun _ => ?_) (fun cX => absurd (by omega) cX)
            refine g_iload_n hZ dX9_run_56 rfl ?_
            refine g_iret hZ dX9_run_57 rfl (Or.inr ⟨c, by rw [← hR1], he₃₄, by rw [← hR1]; exact e61₄, hh₄⟩)
          · obtain ⟨p1, p2, p3, p4, p5⟩ := pcmd_ok hz
            rw [hz] at hR1
            simp only at hR1
            refine g_if_eq hZ 56 dX9_run_40 rfl (by omega) (fun cX => absurd cX (by omega)) (fun _ => ?_)
            refine g_aload_n hZ dX9_run_43 rfl ?_
            refine g_callV hZ (t_X9_does E S₄ w h n (hg.x he₃₄ rfl rfl) (by rw [e61₄]; exact hB₃) (by rw [e61₄]; exact hc₃) q.1 q.2.1 hw₄ p1 p2 p3 hv₄) kX9_212 ⟨by decide, by decide⟩ rfl rfl rfl rfl (Nat.le_of_ble_eq_true rfl) dX9_run_44 ?_
            rintro _ S₅ ⟨he₅, z, rfl, hz5⟩
            have he₃₅ : Eqx [52, 55, 59, 60, 61, 62, 63, 66, 74] S S₅ := he₃₄.tr (he₅.mono rfl)
            have hh₅ := hh₄.x he₅ rfl rfl
            rw [e61₄] at hz5
            rcases hz5 with ⟨rfl, hz5, hb5⟩ | ⟨rfl, hz5⟩
            · rw [hz5] at hR1
              simp only at hR1
              refine g_if_eq hZ 56 dX9_run_47 rfl (by omega) (fun _ => ?_) (fun cX => absurd (by omega) cX)
              refine g_iload_n hZ dX9_run_56 rfl ?_
              refine g_iret hZ dX9_run_57 rfl (Or.inr ⟨c, by rw [← hR1], he₃₅, by rw [← hR1]; exact hb5, hh₅⟩)
            · obtain ⟨b1, b2⟩ := exC_ok hg.2.2 hB₃ hc₃ hz5
              refine g_if_eq hZ 56 dX9_run_47 rfl (by omega) (fun cX => absurd cX (by omega)) (fun _ => ?_)
              refine g_iinc hZ dX9_run_50 rfl (by decide) ?_
              refine g_goto hZ 25 dX9_run_53 rfl ?_
              refine ih (61 - q.2.2) (by omega) q.2.2 S₅ (k + 1) (by omega) p5 (by omega) he₃₅ hh₅ ((he₅ 59 0 rfl).trans hs₄) b1 b2 (fun g hg => ?_)
              have := hR (g + 61 + 1) (by omega)
              rw [rnF, if_pos (by omega), hz] at this
              simp only [hz5] at this
              rw [← this]
              exact rnF_mono w n tx _ _ _ _ _ (by omega) (by omega)
    refine g_aload_n hZ dX9_run_18 rfl ?_
    refine g_iconst hZ dX9_run_19 ?_
    refine g_puti hZ fX9_183 rfl rfl dX9_run_20 ?_
    refine g_iconst hZ dX9_run_23 ?_
    refine g_istore_n hZ dX9_run_24 (by decide) ?_
    refine loop 61 0 _ 0 (by omega) (Nat.zero_le _) (Nat.le_refl _) (((he₁.mono rfl).tr (he₂.mono rfl)).up rfl) (hh₂.x (Eqx.rf.up (vs := [59]) rfl) rfl rfl) (upS_eq _ _ _ _) (by show mBd (S₂ 61) n; rw [e62]; exact hB) (by show mC3 (S₂ 61) n; rw [e62]; exact hc) (fun g hg => ?_)
    show rnF w n tx g 0 (S₂ 61) 0 = _
    rw [e62]
    exact rnF_mono w n tx _ _ _ _ _ (by omega) (by omega)
  · refine g_sipush hZ (z := (-1002)) dX9_run_10 rfl ?_
    refine g_iret hZ dX9_run_13 rfl (Or.inl ⟨c, rfl, he₁⟩)
