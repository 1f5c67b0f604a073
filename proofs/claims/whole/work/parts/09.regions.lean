/-! bits of ints, counts, regions; the reference's regions -/
theorem gi_s31 : ∀ n, n < 32 → ((nI n &&& 31).toBitVec.smod 32).toNat = n := by decide +kernel
theorem gi_shl {a k : Nat} (hk : k < 32) (h : a * 2 ^ k < 4294967296) : Int32.ofInt (a : Int) <<< (Int32.ofInt (k : Int) &&& 31) = Int32.ofInt ((a * 2 ^ k : Nat) : Int) := by
  rw [gi_nat, gi_nat, gi_nat]
  exact pk_shlN _ k (gi_s31 k hk) (by omega)
theorem gi_shr {a k : Nat} (hk : k < 32) (h : a < 2147483648) : Int32.ofInt (a : Int) >>> (Int32.ofInt (k : Int) &&& 31) = Int32.ofInt ((a / 2 ^ k : Nat) : Int) := by
  rw [gi_nat, gi_nat, gi_nat]
  exact pk_shrN (by omega) _ k (gi_s31 k hk)
theorem gi_and (a b : Nat) : Int32.ofInt (a : Int) &&& Int32.ofInt (b : Int) = Int32.ofInt ((a &&& b : Nat) : Int) := by
  rw [gi_nat, gi_nat, gi_nat]
  apply Int32.toBitVec_inj.1
  show BitVec.ofNat 32 a &&& BitVec.ofNat 32 b = BitVec.ofNat 32 (a &&& b)
  apply BitVec.eq_of_getLsbD_eq
  intro i hi
  simp [hi]
theorem gi_or (a b : Nat) : Int32.ofInt (a : Int) ||| Int32.ofInt (b : Int) = Int32.ofInt ((a ||| b : Nat) : Int) := by
  rw [gi_nat, gi_nat, gi_nat]
  apply Int32.toBitVec_inj.1
  show BitVec.ofNat 32 a ||| BitVec.ofNat 32 b = BitVec.ofNat 32 (a ||| b)
  apply BitVec.eq_of_getLsbD_eq
  intro i hi
  simp [hi]
theorem gi_ors {a b k : Nat} (h : a < 2 ^ k) : Int32.ofInt (a : Int) ||| Int32.ofInt ((b * 2 ^ k : Nat) : Int) = Int32.ofInt ((a + b * 2 ^ k : Nat) : Int) := by
  rw [gi_or]
  have := Nat.two_pow_add_eq_or_of_lt h b
  rw [Nat.or_comm, Nat.mul_comm b, ← this, Nat.add_comm]
theorem gi_mask (a k : Nat) : Int32.ofInt (a : Int) &&& Int32.ofInt ((2 ^ k - 1 : Nat) : Int) = Int32.ofInt ((a % 2 ^ k : Nat) : Int) := by
  rw [gi_and, Nat.and_two_pow_sub_one_eq_mod]
def cntB (p : Nat → Bool) : Nat → Nat
  | 0 => 0
  | n + 1 => cntB p n + (if p n = true then 1 else 0)
theorem cntB_le (p : Nat → Bool) : ∀ n, cntB p n ≤ n
  | 0 => Nat.le_refl _
  | n + 1 => by
    have := cntB_le p n
    rw [cntB]; split <;> omega
theorem cntB_cong {p q : Nat → Bool} : ∀ {n : Nat}, (∀ k, k < n → p k = q k) → cntB p n = cntB q n
  | 0, _ => rfl
  | n + 1, h => by rw [cntB, cntB, cntB_cong (fun k hk => h k (by omega)), h n (by omega)]
theorem cntB_len (p : Nat → Bool) : ∀ n, ((List.range n).filter p).length = cntB p n
  | 0 => rfl
  | n + 1 => by
    rw [List.range_succ, List.filter_append, List.length_append, cntB_len p n, cntB]
    by_cases q : p n = true
    · simp [q]
    · simp [q]
/-- fields are near if they are the same or neighbours -/
def nearB (w f g : Nat) : Bool := decide (gdx w g f * gdx w g f ≤ 1) && decide (gdy w g f * gdy w g f ≤ 1)
theorem nearB_sym (w f g : Nat) : nearB w f g = nearB w g f := by
  have e1 : gdx w g f * gdx w g f = gdx w f g * gdx w f g := by
    rw [show gdx w g f = -gdx w f g by unfold gdx; omega, Int.neg_mul_neg]
  have e2 : gdy w g f * gdy w g f = gdy w f g * gdy w f g := by
    rw [show gdy w g f = -gdy w f g by unfold gdy; omega, Int.neg_mul_neg]
  unfold nearB
  rw [e1, e2]
/-- one comes from f to g by neighbours that are not burned -/
def cn (w n : Nat) (B : Nat → Int) (f g : Nat) : Prop := ∀ Q : Nat → Prop, Q f → (∀ a b, a < n → b < n → B a ≠ 3 → B b ≠ 3 → nearB w a b = true → Q a → Q b) → Q g
theorem cn.rf {w n : Nat} {B : Nat → Int} {f : Nat} : cn w n B f f := fun _ h _ => h
theorem cn.tr {w n : Nat} {B : Nat → Int} {f g k : Nat} (h1 : cn w n B f g) (h2 : cn w n B g k) : cn w n B f k := fun Q hf hc => h2 Q (h1 Q hf hc) hc
theorem cn.st {w n : Nat} {B : Nat → Int} {a b : Nat} (ha : a < n) (hb : b < n) (oa : B a ≠ 3) (ob : B b ≠ 3) (h : nearB w a b = true) : cn w n B a b := fun Q hf hc => hc a b ha hb oa ob h hf
theorem cn.sy {w n : Nat} {B : Nat → Int} {f g : Nat} (h : cn w n B f g) : cn w n B g f :=
  h (fun x => cn w n B x f) cn.rf (fun a b ha hb oa ob hn hq => (cn.st hb ha ob oa (by rw [nearB_sym]; exact hn)).tr hq)
theorem cn.op {w n : Nat} {B : Nat → Int} {f g : Nat} (h : cn w n B f g) (hf : f < n) (of : B f ≠ 3) : g < n ∧ B g ≠ 3 :=
  h (fun x => x < n ∧ B x ≠ 3) ⟨hf, of⟩ (fun _ _ _ hb _ ob _ _ => ⟨hb, ob⟩)
/-- by fields the lowest field of the region, -1 where it is burned -/
def isRL (w n : Nat) (B r : Nat → Int) : Prop := (∀ f, f < n → B f = 3 → r f = -1) ∧ (∀ f, f < n → B f ≠ 3 → ∃ g : Nat, r f = (g : Int) ∧ g ≤ f ∧ B g ≠ 3 ∧ cn w n B f g) ∧ ∀ f g, f < n → g < n → B f ≠ 3 → B g ≠ 3 → nearB w f g = true → r f = r g
theorem isRL.cn {w n : Nat} {B r : Nat → Int} (h : isRL w n B r) {f g : Nat} (hc : cn w n B f g) : r g = r f :=
  hc (fun x => r x = r f) rfl (fun a b ha hb oa ob hn q => (h.2.2 a b ha hb oa ob hn).symm.trans q)
theorem isRL.le {w n : Nat} {B r r2 : Nat → Int} (h : isRL w n B r) (h2 : isRL w n B r2) {f : Nat} (hf : f < n) (of : B f ≠ 3) : r f ≤ r2 f := by
  obtain ⟨g, e1, e2, e3, e4⟩ := h2.2.1 f hf of
  have hg : g < n := by omega
  obtain ⟨k, k1, k2, -, -⟩ := h.2.1 g hg e3
  have := h.cn e4
  omega
theorem isRL.un {w n : Nat} {B r r2 : Nat → Int} (h : isRL w n B r) (h2 : isRL w n B r2) {f : Nat} (hf : f < n) : r f = r2 f := by
  by_cases of : B f = 3
  · rw [h.1 f hf of, h2.1 f hf of]
  · have := h.le h2 hf of
    have := h2.le h hf of
    omega
noncomputable def rg (w n : Nat) (B : Nat → Int) (f : Nat) : Int := if B f = 3 then -1 else ((Classical.choose (pk_least (fun g => cn w n B f g) ⟨f, cn.rf⟩) : Nat) : Int)
theorem rg_ok (w n : Nat) (B : Nat → Int) : isRL w n B (rg w n B) := by
  have key : ∀ f, f < n → B f ≠ 3 → ∃ g : Nat, rg w n B f = (g : Int) ∧ cn w n B f g ∧ ∀ j, j < g → ¬ cn w n B f j := by
    intro f hf of
    have sp := Classical.choose_spec (pk_least (fun g => cn w n B f g) ⟨f, cn.rf⟩)
    refine ⟨_, ?_, sp.1, sp.2⟩
    unfold rg
    rw [if_neg of]
  refine ⟨fun f hf hb => by unfold rg; rw [if_pos hb], fun f hf of => ?_, fun f g hf hg of og hn => ?_⟩
  · obtain ⟨g, e1, e2, e3⟩ := key f hf of
    refine ⟨g, e1, ?_, (e2.op hf of).2, e2⟩
    rcases Nat.lt_or_ge f g with q | q
    · exact absurd cn.rf (e3 f q)
    · exact q
  · obtain ⟨a, e1, e2, e3⟩ := key f hf of
    obtain ⟨b, k1, k2, k3⟩ := key g hg og
    have c := cn.st hf hg of og hn
    rw [e1, k1]
    rcases Nat.lt_trichotomy a b with q | q | q
    · exact absurd (c.sy.tr e2) (k3 a q)
    · rw [q]
    · exact absurd (c.tr k2) (e3 b q)
theorem rg_cong {w n : Nat} {B B2 : Nat → Int} (hB : ∀ k, k < n → B k = B2 k) {f : Nat} (hf : f < n) : rg w n B f = rg w n B2 f := by
  have hc : ∀ a b, cn w n B a b → cn w n B2 a b := fun a b h Q ha hst => h Q ha (fun x y hx hy ox oy hn => hst x y hx hy (by rw [← hB x hx]; exact ox) (by rw [← hB y hy]; exact oy) hn)
  obtain ⟨h1, h2, h3⟩ := rg_ok w n B
  refine isRL.un (w := w) (n := n) (B := B2) ⟨fun f hf hb => h1 f hf (by rw [hB f hf]; exact hb), fun f hf of => ?_, fun f g hf hg of og hn => h3 f g hf hg (by rw [hB f hf]; exact of) (by rw [hB g hg]; exact og) hn⟩ (rg_ok w n B2) hf
  obtain ⟨g, e1, e2, e3, e4⟩ := h2 f hf (by rw [hB f hf]; exact of)
  exact ⟨g, e1, e2, by rw [← hB g (by omega)]; exact e3, hc _ _ e4⟩
theorem rg_bd {w n : Nat} {B : Nat → Int} {f : Nat} (hf : f < n) : -1 ≤ rg w n B f ∧ rg w n B f ≤ f := by
  by_cases of : B f = 3
  · rw [(rg_ok w n B).1 f hf of]; omega
  · obtain ⟨g, e1, e2, -, -⟩ := (rg_ok w n B).2.1 f hf of
    omega
/-- a sum of labels, for the end of the spreading -/
def muR (r : Nat → Int) : Nat → Nat
  | 0 => 0
  | n + 1 => muR r n + (r n + 1).toNat
theorem muR_cong {r r2 : Nat → Int} : ∀ {n : Nat}, (∀ k, k < n → r k = r2 k) → muR r n = muR r2 n
  | 0, _ => rfl
  | n + 1, h => by rw [muR, muR, muR_cong (fun k hk => h k (by omega)), h n (by omega)]
theorem muR_lt {r r2 : Nat → Int} {f : Nat} (h0 : 0 ≤ r2 f) (h1 : r2 f < r f) (ho : ∀ k, k ≠ f → r2 k = r k) : ∀ {n : Nat}, f < n → muR r2 n < muR r n
  | 0, h => absurd h (Nat.not_lt_zero f)
  | n + 1, h => by
    rw [muR, muR]
    by_cases q : f = n
    · subst q
      have := muR_cong (r := r2) (r2 := r) (n := f) (fun k hk => ho k (by omega))
      omega
    · have ih := muR_lt h0 h1 ho (n := n) (by omega)
      rw [ho n (fun e => q e.symm)]
      omega
theorem t_X9_areNear (E : gE) (S : gS) (w h n : Nat) (hg : mG S w h n) (f g : Nat) (hf : f < n) (hg2 : g < n) : Ct E LAY mX9_areNear [.ref (gad E 27), iV (f : Int), iV (g : Int)] S (fun r S' => S = S' ∧ ∃ z, r = some (iV z) ∧ isB z (nearB w f g = true)) := by
  have hn := hg.n15
  have hw := hg.1
  have hO := hg.2.2
  obtain ⟨ow1, ow5, oh1, oh5, -, -⟩ := id hO
  refine Ct.intro LAY_ok (by decide +kernel) (Nat.le_of_ble_eq_true rfl) rfl ?_
  intro Z hZ
  have bx := gdx_b (w := w) (a := g) (b := f) ow1 ow5
  have byy := gdy_b hO hg2 hf
  have sq : ∀ z : Int, -4 ≤ z → z ≤ 4 → 0 ≤ z * z ∧ z * z ≤ 16 := by
    intro z h1 h2
    have : z = -4 ∨ z = -3 ∨ z = -2 ∨ z = -1 ∨ z = 0 ∨ z = 1 ∨ z = 2 ∨ z = 3 ∨ z = 4 := by omega
    rcases this with rfl | rfl | rfl | rfl | rfl | rfl | rfl | rfl | rfl <;> decide
  have qx := sq _ bx.1 bx.2
  have qy := sq _ byy.1 byy.2
  have rx : R32 (gdx w g f * gdx w g f) := by omega
  have ry : R32 (gdy w g f * gdy w g f) := by omega
  refine g_iload_n hZ dX9_areNear_0 rfl ?_
  refine g_aload_n hZ dX9_areNear_1 rfl ?_
  refine g_geti hZ fX9_7 rfl rfl dX9_areNear_2 hw ?_
  refine g_irem hZ dX9_areNear_5 (by omega) (by omega) (by omega) ?_
  refine g_iload_n hZ dX9_areNear_6 rfl ?_
  refine g_aload_n hZ dX9_areNear_7 rfl ?_
  refine g_geti hZ fX9_7 rfl rfl dX9_areNear_8 hw ?_
  refine g_irem hZ dX9_areNear_11 (by omega) (by omega) (by omega) ?_
  refine g_isub hZ dX9_areNear_12 ?_
  refine g_istore_n hZ dX9_areNear_13 (by decide) ?_
  refine g_iload_n hZ dX9_areNear_14 rfl ?_
  refine g_aload_n hZ dX9_areNear_15 rfl ?_
  refine g_geti hZ fX9_7 rfl rfl dX9_areNear_16 hw ?_
  refine g_idiv hZ dX9_areNear_19 (by omega) (by omega) (by omega) ?_
  refine g_iload_n hZ dX9_areNear_20 rfl ?_
  refine g_aload_n hZ dX9_areNear_21 rfl ?_
  refine g_geti hZ fX9_7 rfl rfl dX9_areNear_22 hw ?_
  refine g_idiv hZ dX9_areNear_25 (by omega) (by omega) (by omega) ?_
  refine g_isub hZ dX9_areNear_26 ?_
  refine g_istore hZ dX9_areNear_27 (by decide) ?_
  show Z S [(0, .ref (gad E 27)), (1, iV (f : Int)), (2, iV (g : Int)), (3, iV (gdx w g f)), (4, iV (gdy w g f))] 29 []
  refine g_iload_n hZ dX9_areNear_29 rfl ?_
  refine g_iload_n hZ dX9_areNear_30 rfl ?_
  refine g_imul hZ dX9_areNear_31 ?_
  refine g_iconst hZ dX9_areNear_32 ?_
  refine g_icmp_gt hZ 49 dX9_areNear_33 rfl ⟨rx, by omega⟩ (fun c1 => ?_) (fun c1 => ?_)
  · refine g_iconst hZ dX9_areNear_49 ?_
    refine g_zret hZ dX9_areNear_50 rfl (Or.inl rfl) ⟨rfl, 0, rfl, Or.inr ⟨rfl, by unfold nearB; simp; intro; omega⟩⟩
  · refine g_iload hZ dX9_areNear_36 rfl ?_
    refine g_iload hZ dX9_areNear_38 rfl ?_
    refine g_imul hZ dX9_areNear_40 ?_
    refine g_iconst hZ dX9_areNear_41 ?_
    refine g_icmp_gt hZ 49 dX9_areNear_42 rfl ⟨ry, by omega⟩ (fun c2 => ?_) (fun c2 => ?_)
    · refine g_iconst hZ dX9_areNear_49 ?_
      refine g_zret hZ dX9_areNear_50 rfl (Or.inl rfl) ⟨rfl, 0, rfl, Or.inr ⟨rfl, by unfold nearB; simp; intro; omega⟩⟩
    · refine g_iconst hZ dX9_areNear_45 ?_
      refine g_goto hZ 50 dX9_areNear_46 rfl ?_
      refine g_zret hZ dX9_areNear_50 rfl (Or.inr rfl) ⟨rfl, 1, rfl, Or.inl ⟨rfl, by unfold nearB; simp; omega⟩⟩
theorem t_X9_parts (E : gE) (S : gS) (w h n : Nat) (hg : mG S w h n) (hB : mBd (S 61) n) : Ct E LAY mX9_parts [.ref (gad E 27)] S (fun r S' => r = none ∧ Eqx [72] S S' ∧ ∀ f, f < n → S' 72 f = rg w n (S 61) f) := by
  have hn := hg.n15
  have hO := hg.2.2
  refine Ct.intro LAY_ok (by decide +kernel) (Nat.le_of_ble_eq_true rfl) rfl ?_
  intro Z hZ
  have spread : ∀ (μ : Nat) (S₁ : gS) (L9 : List (Nat × Value)), muR (S₁ 72) n ≤ μ → Eqx [72] S S₁ → (∀ f, f < n → S 61 f = 3 → S₁ 72 f = -1) → (∀ f, f < n → S 61 f ≠ 3 → ∃ g : Nat, S₁ 72 f = (g : Int) ∧ g ≤ f ∧ S 61 g ≠ 3 ∧ cn w n (S 61) f g) → lkeep L9 [0, 1] = [(0, .ref (gad E 27)), (1, iV 1)] → Z S₁ L9 39 [] := by
    intro μ
    induction μ with
    | zero =>
      intro S₁ L9 hμ he p1 p2 hL
      -- every label is -1: then all is burned; the pass changes nothing. The same walk as below, with no smaller measure
      have hall : ∀ k, k < n → S₁ 72 k = -1 := by
        intro k hk
        have : ∀ (m : Nat), k < m → muR (S₁ 72) m = 0 → (S₁ 72 k + 1).toNat = 0 := by
          intro m
          induction m with
          | zero => intro h; omega
          | succ m ihm =>
            intro h1 h2
            rw [muR] at h2
            by_cases q : k = m
            · subst q; omega
            · exact ihm (by omega) (by omega)
        have h1 := this n hk (by omega)
        by_cases q : S 61 k = 3
        · exact p1 k hk q
        · obtain ⟨g, e1, -, -, -⟩ := p2 k hk q
          omega
      have hg₁ := hg.x he rfl rfl
      refine g_keep hZ [0, 1] hL ?_
      refine g_iload_n hZ dX9_parts_39 rfl ?_
      refine g_if_eq hZ 151 dX9_parts_40 rfl (by omega) (fun cX => absurd cX (by omega)) (fun _ => ?_)
      refine g_iconst hZ dX9_parts_43 ?_
      refine g_istore_n hZ dX9_parts_44 (by decide) ?_
      refine g_iconst hZ dX9_parts_45 ?_
      refine g_istore_n hZ dX9_parts_46 (by decide) ?_
      have pass : ∀ (m k : Nat), k + m = 225 → ∀ (L9 : List (Nat × Value)), lkeep L9 [0, 1, 2] = [(0, .ref (gad E 27)), (1, iV 0), (2, iV (k : Int))] → Z S₁ L9 47 [] := by
        intro m
        induction m with
        | zero =>
          intro k hk L9 hL
          refine g_keep hZ [0, 1, 2] hL ?_
          refine g_iload_n hZ dX9_parts_47 rfl ?_
          refine g_sipush hZ (z := 225) dX9_parts_48 rfl ?_
          refine g_icmp_ge hZ 148 dX9_parts_51 rfl (by omega) (fun _ => ?_) (fun cX => absurd (by omega) cX)
          refine g_goto hZ 39 dX9_parts_148 rfl ?_
          refine g_iload_n hZ dX9_parts_39 rfl ?_
          refine g_if_eq hZ 151 dX9_parts_40 rfl (by omega) (fun _ => ?_) (fun cX => absurd (by omega) cX)
          refine g_vret hZ dX9_parts_151 rfl ⟨rfl, he, fun f hf => ?_⟩
          by_cases q : S 61 f = 3
          · rw [p1 f hf q, (rg_ok w n (S 61)).1 f hf q]
          · obtain ⟨g, e1, -, -, -⟩ := p2 f hf q
            have := hall f hf
            omega
        | succ m ih =>
          intro k hk L9 hL
          refine g_keep hZ [0, 1, 2] hL ?_
          refine g_iload_n hZ dX9_parts_47 rfl ?_
          refine g_sipush hZ (z := 225) dX9_parts_48 rfl ?_
          refine g_icmp_ge hZ 148 dX9_parts_51 rfl (by omega) (fun cX => absurd cX (by omega)) (fun _ => ?_)
          refine g_iload_n hZ dX9_parts_54 rfl ?_
          refine g_bipush hZ (z := 15) dX9_parts_55 rfl ?_
          refine g_idiv hZ (b := 15) dX9_parts_57 (by omega) (by omega) (by omega) ?_
          refine g_istore_n hZ dX9_parts_58 (by decide) ?_
          refine g_iload_n hZ dX9_parts_59 rfl ?_
          refine g_bipush hZ (z := 15) dX9_parts_60 rfl ?_
          refine g_irem hZ (b := 15) dX9_parts_62 (by omega) (by omega) (by omega) ?_
          refine g_istore hZ dX9_parts_63 (by decide) ?_
          refine g_aload_n hZ dX9_parts_65 rfl ?_
          refine g_iload_n hZ dX9_parts_66 rfl ?_
          have fin : ∀ (L9 : List (Nat × Value)), lkeep L9 [0, 1, 2] = [(0, .ref (gad E 27)), (1, iV 0), (2, iV (k : Int))] → Z S₁ L9 142 [] := by
            intro L9 hL
            refine g_keep hZ [0, 1, 2] hL ?_
            refine g_iinc hZ dX9_parts_142 rfl (by decide) ?_
            refine g_goto hZ 47 dX9_parts_145 rfl ?_
            exact ih (k + 1) (by omega) _ rfl
          refine g_callV hZ (t_X9_isField E S₁ w h n hg₁ _ (by omega)) kX9_77 ⟨by decide, by decide⟩ rfl rfl rfl rfl (Nat.le_of_ble_eq_true rfl) dX9_parts_67 ?_
          rintro _ _ ⟨rfl, z, rfl, hz⟩
          rcases hz with ⟨rfl, hz⟩ | ⟨rfl, hz⟩
          · refine g_if_eq hZ 142 dX9_parts_70 rfl (by omega) (fun cX => absurd cX (by omega)) (fun _ => ?_)
            refine g_aload_n hZ dX9_parts_73 rfl ?_
            refine g_iload hZ dX9_parts_74 rfl ?_
            refine g_callV hZ (t_X9_isField E S₁ w h n hg₁ _ (by omega)) kX9_77 ⟨by decide, by decide⟩ rfl rfl rfl rfl (Nat.le_of_ble_eq_true rfl) dX9_parts_76 ?_
            rintro _ _ ⟨rfl, z, rfl, hz2⟩
            rcases hz2 with ⟨rfl, hz2⟩ | ⟨rfl, hz2⟩
            · refine g_if_eq hZ 142 dX9_parts_79 rfl (by omega) (fun cX => absurd cX (by omega)) (fun _ => ?_)
              refine g_aload_n hZ dX9_parts_82 rfl ?_
              refine g_getr hZ fX9_51 rfl rfl dX9_parts_83 ?_
              refine g_iload_n hZ dX9_parts_86 rfl ?_
              refine g_iald hZ ((k / 15)) rfl dX9_parts_87 (rfl) (by omega) (by decide) (hall _ (by omega)) ?_
              refine g_if_lt hZ 142 dX9_parts_88 rfl (by omega) (fun _ => ?_) (fun cX => absurd (by omega) cX)
              exact fin _ rfl
            · refine g_if_eq hZ 142 dX9_parts_79 rfl (by omega) (fun _ => ?_) (fun cX => absurd (by omega) cX)
              exact fin _ rfl
          · refine g_if_eq hZ 142 dX9_parts_70 rfl (by omega) (fun _ => ?_) (fun cX => absurd (by omega) cX)
            exact fin _ rfl
      exact pass 225 0 (by omega) _ rfl
    | succ μ ihμ =>
      intro S₁ L9 hμ he p1 p2 hL
      refine g_keep hZ [0, 1] hL ?_
      refine g_iload_n hZ dX9_parts_39 rfl ?_
      refine g_if_eq hZ 151 dX9_parts_40 rfl (by omega) (fun cX => absurd cX (by omega)) (fun _ => ?_)
      refine g_iconst hZ dX9_parts_43 ?_
      refine g_istore_n hZ dX9_parts_44 (by decide) ?_
      refine g_iconst hZ dX9_parts_45 ?_
      refine g_istore_n hZ dX9_parts_46 (by decide) ?_
      have pass : ∀ (m k : Nat) (S₂ : gS) (more : Int), k + m = 225 → Eqx [72] S S₂ → (∀ f, f < n → S 61 f = 3 → S₂ 72 f = -1) → (∀ f, f < n → S 61 f ≠ 3 → ∃ g : Nat, S₂ 72 f = (g : Int) ∧ g ≤ f ∧ S 61 g ≠ 3 ∧ cn w n (S 61) f g) → ((more = 1 ∧ muR (S₂ 72) n ≤ μ) ∨ (more = 0 ∧ S₂ = S₁ ∧ ∀ f g, f < n → g < n → 15 * f + g < k → S 61 f ≠ 3 → S 61 g ≠ 3 → nearB w f g = true → S₁ 72 f ≤ S₁ 72 g)) → ∀ (L9 : List (Nat × Value)), lkeep L9 [0, 1, 2] = [(0, .ref (gad E 27)), (1, iV more), (2, iV (k : Int))] → Z S₂ L9 47 [] := by
        intro m
        induction m with
        | zero =>
          intro k S₂ more hk he₂ q1 q2 hmore L9 hL
          refine g_keep hZ [0, 1, 2] hL ?_
          refine g_iload_n hZ dX9_parts_47 rfl ?_
          refine g_sipush hZ (z := 225) dX9_parts_48 rfl ?_
          refine g_icmp_ge hZ 148 dX9_parts_51 rfl (by omega) (fun _ => ?_) (fun cX => absurd (by omega) cX)
          refine g_goto hZ 39 dX9_parts_148 rfl ?_
          rcases hmore with ⟨rfl, hm⟩ | ⟨rfl, rfl, hfix⟩
          · exact ihμ S₂ _ hm he₂ q1 q2 rfl
          · refine g_iload_n hZ dX9_parts_39 rfl ?_
            refine g_if_eq hZ 151 dX9_parts_40 rfl (by omega) (fun _ => ?_) (fun cX => absurd (by omega) cX)
            refine g_vret hZ dX9_parts_151 rfl ⟨rfl, he₂, fun f hf => ?_⟩
            refine isRL.un (w := w) (n := n) (B := S 61) ⟨q1, q2, fun f g hf hg of og hn2 => ?_⟩ (rg_ok w n (S 61)) hf
            have z1 := hfix f g hf hg (by omega) of og hn2
            have z2 := hfix g f hg hf (by omega) og of (by rw [nearB_sym]; exact hn2)
            omega
        | succ m ih =>
          intro k S₂ more hk he₂ q1 q2 hmore L9 hL
          have hg₂ := hg.x he₂ rfl rfl
          refine g_keep hZ [0, 1, 2] hL ?_
          refine g_iload_n hZ dX9_parts_47 rfl ?_
          refine g_sipush hZ (z := 225) dX9_parts_48 rfl ?_
          refine g_icmp_ge hZ 148 dX9_parts_51 rfl (by omega) (fun cX => absurd cX (by omega)) (fun _ => ?_)
          refine g_iload_n hZ dX9_parts_54 rfl ?_
          refine g_bipush hZ (z := 15) dX9_parts_55 rfl ?_
          refine g_idiv hZ (b := 15) dX9_parts_57 (by omega) (by omega) (by omega) ?_
          refine g_istore_n hZ dX9_parts_58 (by decide) ?_
          refine g_iload_n hZ dX9_parts_59 rfl ?_
          refine g_bipush hZ (z := 15) dX9_parts_60 rfl ?_
          refine g_irem hZ (b := 15) dX9_parts_62 (by omega) (by omega) (by omega) ?_
          refine g_istore hZ dX9_parts_63 (by decide) ?_
          refine g_aload_n hZ dX9_parts_65 rfl ?_
          refine g_iload_n hZ dX9_parts_66 rfl ?_
          have kd : k = 15 * (k / 15) + k % 15 := by omega
          have fin : (∀ (f g : Nat), k = 15 * f + g → g < 15 → f < n → g < n → S 61 f ≠ 3 → S 61 g ≠ 3 → nearB w f g = true → S₂ 72 f ≤ S₂ 72 g) → ∀ (L9 : List (Nat × Value)), lkeep L9 [0, 1, 2] = [(0, .ref (gad E 27)), (1, iV more), (2, iV (k : Int))] → Z S₂ L9 142 [] := by
            intro hno L9 hL
            refine g_keep hZ [0, 1, 2] hL ?_
            refine g_iinc hZ dX9_parts_142 rfl (by decide) ?_
            refine g_goto hZ 47 dX9_parts_145 rfl ?_
            refine ih (k + 1) S₂ more (by omega) he₂ q1 q2 ?_ _ rfl
            rcases hmore with hm | ⟨e1, e2, hfix⟩
            · exact Or.inl hm
            · refine Or.inr ⟨e1, e2, fun f g hf hg hlt of og hn2 => ?_⟩
              by_cases q : 15 * f + g < k
              · exact hfix f g hf hg q of og hn2
              · rw [← e2]
                exact hno f g (by omega) (by omega) hf hg of og hn2
          generalize hff : k / 15 = f at *
          generalize hgg : k % 15 = g at *
          have hg15 : g < 15 := by omega
          have unq : ∀ (f2 g2 : Nat), k = 15 * f2 + g2 → g2 < 15 → f2 = f ∧ g2 = g := by intro f2 g2 e1 e2; omega
          have nofin : ¬ (f < n ∧ g < n ∧ S 61 f ≠ 3 ∧ S 61 g ≠ 3 ∧ nearB w f g = true ∧ ¬ S₂ 72 f ≤ S₂ 72 g) → ∀ (L9 : List (Nat × Value)), lkeep L9 [0, 1, 2] = [(0, .ref (gad E 27)), (1, iV more), (2, iV (k : Int))] → Z S₂ L9 142 [] := by
            intro hno
            refine fin (fun f2 g2 e1 e2 hf hg of og hn2 => ?_)
            obtain ⟨rfl, rfl⟩ := unq f2 g2 e1 e2
            by_cases q : S₂ 72 f2 ≤ S₂ 72 g2
            · exact q
            · exact absurd ⟨hf, hg, of, og, hn2, q⟩ hno
          refine g_callV hZ (t_X9_isField E S₂ w h n hg₂ _ (by omega)) kX9_77 ⟨by decide, by decide⟩ rfl rfl rfl rfl (Nat.le_of_ble_eq_true rfl) dX9_parts_67 ?_
          rintro _ _ ⟨rfl, z, rfl, hz⟩
          rcases hz with ⟨rfl, hz⟩ | ⟨rfl, hz⟩
          · refine g_if_eq hZ 142 dX9_parts_70 rfl (by omega) (fun cX => absurd cX (by omega)) (fun _ => ?_)
            refine g_aload_n hZ dX9_parts_73 rfl ?_
            refine g_iload hZ dX9_parts_74 rfl ?_
            refine g_callV hZ (t_X9_isField E S₂ w h n hg₂ _ (by omega)) kX9_77 ⟨by decide, by decide⟩ rfl rfl rfl rfl (Nat.le_of_ble_eq_true rfl) dX9_parts_76 ?_
            rintro _ _ ⟨rfl, z, rfl, hz2⟩
            rcases hz2 with ⟨rfl, hz2⟩ | ⟨rfl, hz2⟩
            · refine g_if_eq hZ 142 dX9_parts_79 rfl (by omega) (fun cX => absurd cX (by omega)) (fun _ => ?_)
              have rf : R32 (S₂ 72 f) := by
                by_cases q : S 61 f = 3
                · rw [q1 f (by omega) q]; omega
                · obtain ⟨g0, e1, e2, -, -⟩ := q2 f (by omega) q
                  omega
              have rgg : R32 (S₂ 72 g) := by
                by_cases q : S 61 g = 3
                · rw [q1 g (by omega) q]; omega
                · obtain ⟨g0, e1, e2, -, -⟩ := q2 g (by omega) q
                  omega
              refine g_aload_n hZ dX9_parts_82 rfl ?_
              refine g_getr hZ fX9_51 rfl rfl dX9_parts_83 ?_
              refine g_iload_n hZ dX9_parts_86 rfl ?_
              refine g_iald hZ (f) rfl dX9_parts_87 (rfl) (by omega) (by decide) (rfl) ?_
              refine g_if_lt hZ 142 dX9_parts_88 rfl (by omega) (fun c1 => ?_) (fun c1 => ?_)
              · exact nofin (fun q => by obtain ⟨g0, e1, -, -, -⟩ := q2 f (by omega) q.2.2.1; omega) _ rfl
              · have of : S 61 f ≠ 3 := fun q => by have := q1 f (by omega) q; omega
                refine g_aload_n hZ dX9_parts_91 rfl ?_
                refine g_getr hZ fX9_51 rfl rfl dX9_parts_92 ?_
                refine g_iload hZ dX9_parts_95 rfl ?_
                refine g_iald hZ (g) rfl dX9_parts_97 (rfl) (by omega) (by decide) (rfl) ?_
                refine g_if_lt hZ 142 dX9_parts_98 rfl (by omega) (fun c2 => ?_) (fun c2 => ?_)
                · exact nofin (fun q => by obtain ⟨g0, e1, -, -, -⟩ := q2 g (by omega) q.2.2.2.1; omega) _ rfl
                · have og : S 61 g ≠ 3 := fun q => by have := q1 g (by omega) q; omega
                  refine g_aload_n hZ dX9_parts_101 rfl ?_
                  refine g_getr hZ fX9_51 rfl rfl dX9_parts_102 ?_
                  refine g_iload hZ dX9_parts_105 rfl ?_
                  refine g_iald hZ (g) rfl dX9_parts_107 (rfl) (by omega) (by decide) (rfl) ?_
                  refine g_aload_n hZ dX9_parts_108 rfl ?_
                  refine g_getr hZ fX9_51 rfl rfl dX9_parts_109 ?_
                  refine g_iload_n hZ dX9_parts_112 rfl ?_
                  refine g_iald hZ (f) rfl dX9_parts_113 (rfl) (by omega) (by decide) (rfl) ?_
                  refine g_icmp_ge hZ 142 dX9_parts_114 rfl (by omega) (fun c3 => ?_) (fun c3 => ?_)
                  · exact nofin (fun q => by omega) _ rfl
                  · refine g_aload_n hZ dX9_parts_117 rfl ?_
                    refine g_iload_n hZ dX9_parts_118 rfl ?_
                    refine g_iload hZ dX9_parts_119 rfl ?_
                    refine g_callV hZ (t_X9_areNear E S₂ w h n hg₂ f g (by omega) (by omega)) kX9_119 ⟨by decide, by decide⟩ rfl rfl rfl rfl (Nat.le_of_ble_eq_true rfl) dX9_parts_121 ?_
                    rintro _ _ ⟨rfl, z, rfl, hz3⟩
                    rcases hz3 with ⟨rfl, hz3⟩ | ⟨rfl, hz3⟩
                    · refine g_if_eq hZ 142 dX9_parts_124 rfl (by omega) (fun cX => absurd cX (by omega)) (fun _ => ?_)
                      refine g_aload_n hZ dX9_parts_127 rfl ?_
                      refine g_getr hZ fX9_51 rfl rfl dX9_parts_128 ?_
                      refine g_iload_n hZ dX9_parts_131 rfl ?_
                      refine g_aload_n hZ dX9_parts_132 rfl ?_
                      refine g_getr hZ fX9_51 rfl rfl dX9_parts_133 ?_
                      refine g_iload hZ dX9_parts_136 rfl ?_
                      refine g_iald hZ (g) rfl dX9_parts_138 (rfl) (by omega) (by decide) (rfl) ?_
                      refine g_iast hZ (f) rfl dX9_parts_139 (rfl) (by omega) (by decide) ?_
                      refine g_iconst hZ dX9_parts_140 ?_
                      refine g_istore_n hZ dX9_parts_141 (by decide) ?_
                      refine g_iinc hZ dX9_parts_142 rfl (by decide) ?_
                      refine g_goto hZ 47 dX9_parts_145 rfl ?_
                      obtain ⟨g0, e1, e2, e3, e4⟩ := q2 g (by omega) og
                      have c := cn.st (w := w) (n := n) (B := S 61) (show f < n by omega) (show g < n by omega) of og hz3
                      obtain ⟨f0, f1, f2, -, -⟩ := q2 f (by omega) of
                      refine ih (k + 1) _ 1 (by omega) (he₂.up rfl) (fun f2 hf2 hb2 => ?_) (fun f2 hf2 of2 => ?_) (Or.inl ⟨rfl, ?_⟩) _ rfl
                      · rw [upS_j _ _ (fun e => of (by rw [← e]; exact hb2))]; exact q1 f2 hf2 hb2
                      · by_cases q : f2 = f
                        · subst q
                          rw [upS_eq]
                          exact ⟨g0, e1, by omega, e3, c.tr e4⟩
                        · rw [upS_j _ _ q]; exact q2 f2 hf2 of2
                      · have hlt : muR (upS S₂ 72 f (S₂ 72 g) 72) n < muR (S₂ 72) n := muR_lt (f := f) (by rw [upS_eq]; omega) (by rw [upS_eq]; omega) (fun k hk => upS_j _ _ hk) (by omega)
                        have hle : muR (S₂ 72) n ≤ μ + 1 := by
                          rcases hmore with ⟨-, hm⟩ | ⟨-, e2, -⟩
                          · omega
                          · rw [e2]; exact hμ
                        omega
                    · refine g_if_eq hZ 142 dX9_parts_124 rfl (by omega) (fun _ => ?_) (fun cX => absurd (by omega) cX)
                      exact nofin (fun q => hz3 q.2.2.2.2.1) _ rfl
            · refine g_if_eq hZ 142 dX9_parts_79 rfl (by omega) (fun _ => ?_) (fun cX => absurd (by omega) cX)
              exact nofin (fun q => by omega) _ rfl
          · refine g_if_eq hZ 142 dX9_parts_70 rfl (by omega) (fun _ => ?_) (fun cX => absurd (by omega) cX)
            exact nofin (fun q => by omega) _ rfl
      exact pass 225 0 S₁ 0 (by omega) he p1 p2 (Or.inr ⟨rfl, rfl, fun f g _ _ q => by omega⟩) _ rfl
  have init : ∀ (m k : Nat) (S₁ : gS), k + m = n → Eqx [72] S S₁ → (∀ f, f < k → S₁ 72 f = if S 61 f = 3 then -1 else (f : Int)) → Z S₁ [(0, .ref (gad E 27)), (1, iV (k : Int))] 2 [] := by
    intro m
    induction m with
    | zero =>
      intro k S₁ hk he hr
      refine g_iload_n hZ dX9_parts_2 rfl ?_
      refine g_aload_n hZ dX9_parts_3 rfl ?_
      refine g_callV hZ (t_X9_size E S₁ w h n (hg.x he rfl rfl)) kX9_60 ⟨by decide, by decide⟩ rfl rfl rfl rfl (Nat.le_of_ble_eq_true rfl) dX9_parts_4 ?_
      rintro _ _ ⟨rfl, rfl⟩
      refine g_icmp_ge hZ 37 dX9_parts_7 rfl (by omega) (fun _ => ?_) (fun cX => absurd (by omega) cX)
      refine g_iconst hZ dX9_parts_37 ?_
      refine g_istore_n hZ dX9_parts_38 (by decide) ?_
      refine spread (muR (S₁ 72) n) S₁ _ (Nat.le_refl _) he (fun f hf hb => by rw [hr f (by omega), if_pos hb]) (fun f hf of => ⟨f, by rw [hr f (by omega), if_neg of], Nat.le_refl f, of, cn.rf⟩) rfl
    | succ m ih =>
      intro k S₁ hk he hr
      have b61 : S₁ 61 k = S 61 k := he 61 k rfl
      have hBk := hB k (by omega)
      refine g_iload_n hZ dX9_parts_2 rfl ?_
      refine g_aload_n hZ dX9_parts_3 rfl ?_
      refine g_callV hZ (t_X9_size E S₁ w h n (hg.x he rfl rfl)) kX9_60 ⟨by decide, by decide⟩ rfl rfl rfl rfl (Nat.le_of_ble_eq_true rfl) dX9_parts_4 ?_
      rintro _ _ ⟨rfl, rfl⟩
      refine g_icmp_ge hZ 37 dX9_parts_7 rfl (by omega) (fun cX => absurd cX (by omega)) (fun _ => ?_)
      refine g_aload_n hZ dX9_parts_10 rfl ?_
      refine g_getr hZ fX9_51 rfl rfl dX9_parts_11 ?_
      refine g_iload_n hZ dX9_parts_14 rfl ?_
      refine g_aload_n hZ dX9_parts_15 rfl ?_
      refine g_getr hZ fX9_16 rfl rfl dX9_parts_16 ?_
      refine g_iload_n hZ dX9_parts_19 rfl ?_
      refine g_iald hZ (k) rfl dX9_parts_20 (rfl) (by omega) (by decide) (b61) ?_
      refine g_iconst hZ dX9_parts_21 ?_
      refine g_icmp_ne hZ 29 dX9_parts_22 rfl (by omega) (fun c => ?_) (fun c => ?_)
      · refine g_iload_n hZ dX9_parts_29 rfl ?_
        refine g_iast hZ (k) rfl dX9_parts_30 (rfl) (by omega) (by decide) ?_
        refine g_iinc hZ dX9_parts_31 rfl (by decide) ?_
        refine g_goto hZ 2 dX9_parts_34 rfl ?_
        refine ih (k + 1) _ (by omega) (he.up rfl) (fun f hf => ?_)
        by_cases q : f = k
        · subst q; rw [upS_eq, if_neg c]
        · rw [upS_j _ _ q]; exact hr f (by omega)
      · refine g_iconst hZ dX9_parts_25 ?_
        refine g_goto hZ 30 dX9_parts_26 rfl ?_
        refine g_iast hZ (k) rfl dX9_parts_30 (rfl) (by omega) (by decide) ?_
        refine g_iinc hZ dX9_parts_31 rfl (by decide) ?_
        refine g_goto hZ 2 dX9_parts_34 rfl ?_
        refine ih (k + 1) _ (by omega) (he.up rfl) (fun f hf => ?_)
        by_cases q : f = k
        · subst q; rw [upS_eq, if_pos c]
        · rw [upS_j _ _ q]; exact hr f (by omega)
  refine g_iconst hZ dX9_parts_0 ?_
  refine g_istore_n hZ dX9_parts_1 (by decide) ?_
  exact init n 0 S (by omega) Eqx.rf (fun f hf => absurd hf (Nat.not_lt_zero f))
