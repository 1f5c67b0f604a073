/-! bits of ints, counts, regions; the reference's regions -/
theorem gi_s31 : ∀ n, n < 32 → ((nI n &&& 31).toBitVec.smod 32).toNat = n := by decide +kernel
theorem gi_shl {a k : Nat} (hk : k < 32) (h : a * 2 ^ k < 4294967296) : Int32.ofInt (a : Int) <<< (Int32.ofInt (k : Int) &&& 31) = Int32.ofInt ((a * 2 ^ k : Nat) : Int) := by
  rw [gi_nat, gi_nat, gi_nat]
  exact pk_shlN _ k (gi_s31 k hk) (by omega)
theorem gi_shr {a k : Nat} (hk : k < 32) (h : a < 2147483648) : Int32.ofInt (a : Int) >>> (Int32.ofInt (k : Int) &&& 31) = Int32.ofInt ((a / 2 ^ k : Nat) : Int) := by
  rw [gi_nat, gi_nat, gi_nat]
  exact pk_shrN (by omega) _ k (gi_s31 k hk)
theorem gi_and (a b : Nat) : Int32.ofInt (a : Int) &&& Int32.ofInt (b : Int) = Int32.ofInt ((a &&& b : Nat) : Int) := by
  rw [gi_nat, gi_nat, gi_nat]
  apply Int32.toBitVec_inj.1
  show BitVec.ofNat 32 a &&& BitVec.ofNat 32 b = BitVec.ofNat 32 (a &&& b)
  apply BitVec.eq_of_getLsbD_eq
  intro i hi
  simp [hi]
theorem gi_or (a b : Nat) : Int32.ofInt (a : Int) ||| Int32.ofInt (b : Int) = Int32.ofInt ((a ||| b : Nat) : Int) := by
  rw [gi_nat, gi_nat, gi_nat]
  apply Int32.toBitVec_inj.1
  show BitVec.ofNat 32 a ||| BitVec.ofNat 32 b = BitVec.ofNat 32 (a ||| b)
  apply BitVec.eq_of_getLsbD_eq
  intro i hi
  simp [hi]
theorem gi_ors {a b k : Nat} (h : a < 2 ^ k) : Int32.ofInt (a : Int) ||| Int32.ofInt ((b * 2 ^ k : Nat) : Int) = Int32.ofInt ((a + b * 2 ^ k : Nat) : Int) := by
  rw [gi_or]
  have := Nat.two_pow_add_eq_or_of_lt h b
  rw [Nat.or_comm, Nat.mul_comm b, ← this, Nat.add_comm]
theorem gi_mask (a k : Nat) : Int32.ofInt (a : Int) &&& Int32.ofInt ((2 ^ k - 1 : Nat) : Int) = Int32.ofInt ((a % 2 ^ k : Nat) : Int) := by
  rw [gi_and, Nat.and_two_pow_sub_one_eq_mod]
def cntB (p : Nat → Bool) : Nat → Nat
  | 0 => 0
  | n + 1 => cntB p n + (if p n = true then 1 else 0)
theorem cntB_le (p : Nat → Bool) : ∀ n, cntB p n ≤ n
  | 0 => Nat.le_refl _
  | n + 1 => by
    have := cntB_le p n
    rw [cntB]; split <;> omega
theorem cntB_cong {p q : Nat → Bool} : ∀ {n : Nat}, (∀ k, k < n → p k = q k) → cntB p n = cntB q n
  | 0, _ => rfl
  | n + 1, h => by rw [cntB, cntB, cntB_cong (fun k hk => h k (by omega)), h n (by omega)]
theorem cntB_len (p : Nat → Bool) : ∀ n, ((List.range n).filter p).length = cntB p n
  | 0 => rfl
  | n + 1 => by
    rw [List.range_succ, List.filter_append, List.length_append, cntB_len p n, cntB]
    by_cases q : p n = true
    · simp [q]
    · simp [q]
/-- fields are near if they are the same or neighbours -/
def nearB (w f g : Nat) : Bool := decide (gdx w g f * gdx w g f ≤ 1) && decide (gdy w g f * gdy w g f ≤ 1)
theorem nearB_sym (w f g : Nat) : nearB w f g = nearB w g f := by
  have e1 : gdx w g f * gdx w g f = gdx w f g * gdx w f g := by
    rw [show gdx w g f = -gdx w f g by unfold gdx; omega, Int.neg_mul_neg]
  have e2 : gdy w g f * gdy w g f = gdy w f g * gdy w f g := by
    rw [show gdy w g f = -gdy w f g by unfold gdy; omega, Int.neg_mul_neg]
  unfold nearB
  rw [e1, e2]
/-- one comes from f to g by neighbours that are not burned -/
def cn (w n : Nat) (B : Nat → Int) (f g : Nat) : Prop := ∀ Q : Nat → Prop, Q f → (∀ a b, a < n → b < n → B a ≠ 3 → B b ≠ 3 → nearB w a b = true → Q a → Q b) → Q g
theorem cn.rf {w n : Nat} {B : Nat → Int} {f : Nat} : cn w n B f f := fun _ h _ => h
theorem cn.tr {w n : Nat} {B : Nat → Int} {f g k : Nat} (h1 : cn w n B f g) (h2 : cn w n B g k) : cn w n B f k := fun Q hf hc => h2 Q (h1 Q hf hc) hc
theorem cn.st {w n : Nat} {B : Nat → Int} {a b : Nat} (ha : a < n) (hb : b < n) (oa : B a ≠ 3) (ob : B b ≠ 3) (h : nearB w a b = true) : cn w n B a b := fun Q hf hc => hc a b ha hb oa ob h hf
theorem cn.sy {w n : Nat} {B : Nat → Int} {f g : Nat} (h : cn w n B f g) : cn w n B g f :=
  h (fun x => cn w n B x f) cn.rf (fun a b ha hb oa ob hn hq => (cn.st hb ha ob oa (by rw [nearB_sym]; exact hn)).tr hq)
theorem cn.op {w n : Nat} {B : Nat → Int} {f g : Nat} (h : cn w n B f g) (hf : f < n) (of : B f ≠ 3) : g < n ∧ B g ≠ 3 :=
  h (fun x => x < n ∧ B x ≠ 3) ⟨hf, of⟩ (fun _ _ _ hb _ ob _ _ => ⟨hb, ob⟩)
/-- by fields the lowest field of the region, -1 where it is burned -/
def isRL (w n : Nat) (B r : Nat → Int) : Prop := (∀ f, f < n → B f = 3 → r f = -1) ∧ (∀ f, f < n → B f ≠ 3 → ∃ g : Nat, r f = (g : Int) ∧ g ≤ f ∧ B g ≠ 3 ∧ cn w n B f g) ∧ ∀ f g, f < n → g < n → B f ≠ 3 → B g ≠ 3 → nearB w f g = true → r f = r g
theorem isRL.cn {w n : Nat} {B r : Nat → Int} (h : isRL w n B r) {f g : Nat} (hc : cn w n B f g) : r g = r f :=
  hc (fun x => r x = r f) rfl (fun a b ha hb oa ob hn q => (h.2.2 a b ha hb oa ob hn).symm.trans q)
theorem isRL.le {w n : Nat} {B r r2 : Nat → Int} (h : isRL w n B r) (h2 : isRL w n B r2) {f : Nat} (hf : f < n) (of : B f ≠ 3) : r f ≤ r2 f := by
  obtain ⟨g, e1, e2, e3, e4⟩ := h2.2.1 f hf of
  have hg : g < n := by omega
  obtain ⟨k, k1, k2, -, -⟩ := h.2.1 g hg e3
  have := h.cn e4
  omega
theorem isRL.un {w n : Nat} {B r r2 : Nat → Int} (h : isRL w n B r) (h2 : isRL w n B r2) {f : Nat} (hf : f < n) : r f = r2 f := by
  by_cases of : B f = 3
  · rw [h.1 f hf of, h2.1 f hf of]
  · have := h.le h2 hf of
    have := h2.le h hf of
    omega
noncomputable def rg (w n : Nat) (B : Nat → Int) (f : Nat) : Int := if B f = 3 then -1 else ((Classical.choose (pk_least (fun g => cn w n B f g) ⟨f, cn.rf⟩) : Nat) : Int)
theorem rg_ok (w n : Nat) (B : Nat → Int) : isRL w n B (rg w n B) := by
  have key : ∀ f, f < n → B f ≠ 3 → ∃ g : Nat, rg w n B f = (g : Int) ∧ cn w n B f g ∧ ∀ j, j < g → ¬ cn w n B f j := by
    intro f hf of
    have sp := Classical.choose_spec (pk_least (fun g => cn w n B f g) ⟨f, cn.rf⟩)
    refine ⟨_, ?_, sp.1, sp.2⟩
    unfold rg
    rw [if_neg of]
  refine ⟨fun f hf hb => by unfold rg; rw [if_pos hb], fun f hf of => ?_, fun f g hf hg of og hn => ?_⟩
  · obtain ⟨g, e1, e2, e3⟩ := key f hf of
    refine ⟨g, e1, ?_, (e2.op hf of).2, e2⟩
    rcases Nat.lt_or_ge f g with q | q
    · exact absurd cn.rf (e3 f q)
    · exact q
  · obtain ⟨a, e1, e2, e3⟩ := key f hf of
    obtain ⟨b, k1, k2, k3⟩ := key g hg og
    have c := cn.st hf hg of og hn
    rw [e1, k1]
    rcases Nat.lt_trichotomy a b with q | q | q
    · exact absurd (c.sy.tr e2) (k3 a q)
    · rw [q]
    · exact absurd (c.tr k2) (e3 b q)
theorem rg_cong {w n : Nat} {B B2 : Nat → Int} (hB : ∀ k, k < n → B k = B2 k) {f : Nat} (hf : f < n) : rg w n B f = rg w n B2 f := by
  have hc : ∀ a b, cn w n B a b → cn w n B2 a b := fun a b h Q ha hst => h Q ha (fun x y hx hy ox oy hn => hst x y hx hy (by rw [← hB x hx]; exact ox) (by rw [← hB y hy]; exact oy) hn)
  obtain ⟨h1, h2, h3⟩ := rg_ok w n B
  refine isRL.un (w := w) (n := n) (B := B2) ⟨fun f hf hb => h1 f hf (by rw [hB f hf]; exact hb), fun f hf of => ?_, fun f g hf hg of og hn => h3 f g hf hg (by rw [hB f hf]; exact of) (by rw [hB g hg]; exact og) hn⟩ (rg_ok w n B2) hf
  obtain ⟨g, e1, e2, e3, e4⟩ := h2 f hf (by rw [hB f hf]; exact of)
  exact ⟨g, e1, e2, by rw [← hB g (by omega)]; exact e3, hc _ _ e4⟩
theorem rg_bd {w n : Nat} {B : Nat → Int} {f : Nat} (hf : f < n) : -1 ≤ rg w n B f ∧ rg w n B f ≤ f := by
  by_cases of : B f = 3
  · rw [(rg_ok w n B).1 f hf of]; omega
  · obtain ⟨g, e1, e2, -, -⟩ := (rg_ok w n B).2.1 f hf of
    omega
/-- a sum of labels, for the end of the spreading -/
def muR (r : Nat → Int) : Nat → Nat
  | 0 => 0
  | n + 1 => muR r n + (r n + 1).toNat
theorem muR_cong {r r2 : Nat → Int} : ∀ {n : Nat}, (∀ k, k < n → r k = r2 k) → muR r n = muR r2 n
  | 0, _ => rfl
  | n + 1, h => by rw [muR, muR, muR_cong (fun k hk => h k (by omega)), h n (by omega)]
theorem muR_lt {r r2 : Nat → Int} {f : Nat} (h0 : 0 ≤ r2 f) (h1 : r2 f < r f) (ho : ∀ k, k ≠ f → r2 k = r k) : ∀ {n : Nat}, f < n → muR r2 n < muR r n
  | 0, h => absurd h (Nat.not_lt_zero f)
  | n + 1, h => by
    rw [muR, muR]
    by_cases q : f = n
    · subst q
      have := muR_cong (r := r2) (r2 := r) (n := f) (fun k hk => ho k (by omega))
      omega
    · have ih := muR_lt h0 h1 ho (n := n) (by omega)
      rw [ho n (fun e => q e.symm)]
      omega
