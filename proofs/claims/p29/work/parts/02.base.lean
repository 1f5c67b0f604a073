/-! numbers: every int of the machine is written Int32.ofInt z, every long Int64.ofInt z -/
abbrev iV (z : Int) : Value := .int (Int32.ofInt z)
abbrev jV (z : Int) : Value := .long (Int64.ofInt z)
abbrev R32 (a : Int) : Prop := -2147483648 ≤ a ∧ a < 2147483648
abbrev R64 (a : Int) : Prop := -9223372036854775808 ≤ a ∧ a < 9223372036854775808
theorem gi_bm {z : Int} (h : R32 z) : z.bmod (2 ^ 32) = z := by
  obtain ⟨h1, h2⟩ := h
  rw [Int.bmod_eq_of_le (by omega) (by omega)]
theorem gj_bm {z : Int} (h : R64 z) : z.bmod (2 ^ 64) = z := by
  obtain ⟨h1, h2⟩ := h
  rw [Int.bmod_eq_of_le (by omega) (by omega)]
theorem gi_ti {z : Int} (h : R32 z) : (Int32.ofInt z).toInt = z := by rw [Int32.toInt_ofInt, gi_bm h]
theorem gj_ti {z : Int} (h : R64 z) : (Int64.ofInt z).toInt = z := by rw [Int64.toInt_ofInt, gj_bm h]
theorem gi_lt {a b : Int} (ha : R32 a) (hb : R32 b) : Int32.ofInt a < Int32.ofInt b ↔ a < b := by rw [Int32.lt_iff_toInt_lt, gi_ti ha, gi_ti hb]
theorem gi_le {a b : Int} (ha : R32 a) (hb : R32 b) : Int32.ofInt a ≤ Int32.ofInt b ↔ a ≤ b := by rw [Int32.le_iff_toInt_le, gi_ti ha, gi_ti hb]
theorem gi_eq {a b : Int} (ha : R32 a) (hb : R32 b) : Int32.ofInt a = Int32.ofInt b ↔ a = b := by rw [← Int32.toInt_inj, gi_ti ha, gi_ti hb]
theorem gj_lt {a b : Int} (ha : R64 a) (hb : R64 b) : Int64.ofInt a < Int64.ofInt b ↔ a < b := by rw [Int64.lt_iff_toInt_lt, gj_ti ha, gj_ti hb]
theorem gj_eq {a b : Int} (ha : R64 a) (hb : R64 b) : Int64.ofInt a = Int64.ofInt b ↔ a = b := by rw [← Int64.toInt_inj, gj_ti ha, gj_ti hb]
theorem gi_add (a b : Int) : Int32.ofInt a + Int32.ofInt b = Int32.ofInt (a + b) := by first | exact (Int32.ofInt_add a b).symm | (apply Int32.toInt_inj.1; simp)
theorem gi_sub (a b : Int) : Int32.ofInt a - Int32.ofInt b = Int32.ofInt (a - b) := by first | exact (Int32.ofInt_sub a b).symm | (apply Int32.toInt_inj.1; simp)
theorem gi_mul (a b : Int) : Int32.ofInt a * Int32.ofInt b = Int32.ofInt (a * b) := by first | exact (Int32.ofInt_mul a b).symm | (apply Int32.toInt_inj.1; simp)
theorem gi_neg (a : Int) : -Int32.ofInt a = Int32.ofInt (-a) := by first | exact (Int32.ofInt_neg a).symm | (apply Int32.toInt_inj.1; simp)
theorem gj_add (a b : Int) : Int64.ofInt a + Int64.ofInt b = Int64.ofInt (a + b) := by first | exact (Int64.ofInt_add a b).symm | (apply Int64.toInt_inj.1; simp)
theorem gj_mul (a b : Int) : Int64.ofInt a * Int64.ofInt b = Int64.ofInt (a * b) := by first | exact (Int64.ofInt_mul a b).symm | (apply Int64.toInt_inj.1; simp)
theorem gi_nat (n : Nat) : Int32.ofInt (n : Int) = nI n := by first | exact Int32.ofInt_eq_ofNat | rfl | (apply Int32.toBitVec_inj.1; simp [nI])
theorem gj_nat (n : Nat) : Int64.ofInt (n : Int) = lN n := by first | exact Int64.ofInt_eq_ofNat | rfl | (apply Int64.toBitVec_inj.1; simp [lN])
theorem gi_cl {k : Nat} (h : k < 2147483648) : (Int32.ofInt (k : Int)).toNatClampNeg = k := by rw [gi_nat]; exact nI_clamp (by omega)
theorem gi_in {k n : Nat} (h : k < n) (hn : n < 2147483648) : vp_in (Int32.ofInt (k : Int)) n := by rw [gi_nat]; exact vp_in_nI h (by omega)
theorem gi_of (x : Int32) : ∃ z : Int, R32 z ∧ x = Int32.ofInt z := ⟨x.toInt, ⟨by have := Int32.le_toInt x; omega, by have := Int32.toInt_lt x; omega⟩, (Int32.ofInt_toInt x).symm⟩
theorem gi_div {a b : Nat} (ha : a < 2147483648) (h0 : 0 < b) (hb : b < 2147483648) : Int32.ofInt (a : Int) / Int32.ofInt (b : Int) = Int32.ofInt ((a / b : Nat) : Int) := by
  rw [gi_nat, gi_nat, gi_nat, pk_div (by omega) h0 (by omega)]
theorem gi_rem {a b : Nat} (ha : a < 2147483648) (h0 : 0 < b) (hb : b < 2147483648) : Int32.ofInt (a : Int) - Int32.ofInt (a : Int) / Int32.ofInt (b : Int) * Int32.ofInt (b : Int) = Int32.ofInt ((a % b : Nat) : Int) := by
  rw [gi_nat, gi_nat, gi_nat, pk_rem (by omega) h0 (by omega)]
theorem gi_z0 {a : Int} (ha : R32 a) : Int32.ofInt a = 0 ↔ a = 0 := by
  rw [show (0 : Int32) = Int32.ofInt 0 from rfl, gi_eq ha ⟨by omega, by omega⟩]
theorem gi_zl {a : Int} (ha : R32 a) : Int32.ofInt a < 0 ↔ a < 0 := by
  rw [show (0 : Int32) = Int32.ofInt 0 from rfl, gi_lt ha ⟨by omega, by omega⟩]
theorem gi_zg {a : Int} (ha : R32 a) : 0 < Int32.ofInt a ↔ 0 < a := by
  rw [show (0 : Int32) = Int32.ofInt 0 from rfl, gi_lt ⟨by omega, by omega⟩ ha]
theorem gi_zle {a : Int} (ha : R32 a) : Int32.ofInt a ≤ 0 ↔ a ≤ 0 := by
  rw [show (0 : Int32) = Int32.ofInt 0 from rfl, gi_le ha ⟨by omega, by omega⟩]
theorem gi_zge {a : Int} (ha : R32 a) : 0 ≤ Int32.ofInt a ↔ 0 ≤ a := by
  rw [show (0 : Int32) = Int32.ofInt 0 from rfl, gi_le ⟨by omega, by omega⟩ ha]
/-! the state: variable, place -/
abbrev gS : Type := Nat → Nat → Int
def upS (S : gS) (v j : Nat) (z : Int) : gS := fun a b => cond (Nat.beq a v) (cond (Nat.beq b j) z (S a b)) (S a b)
theorem upS_eq (S : gS) (v j : Nat) (z : Int) : upS S v j z v j = z := by simp [upS]
theorem upS_v (S : gS) {v j a b : Nat} (z : Int) (h : a ≠ v) : upS S v j z a b = S a b := by
  have h1 : Nat.beq a v = false := by cases q : Nat.beq a v with | false => rfl | true => exact absurd (Nat.eq_of_beq_eq_true q) h
  simp [upS, h1]
theorem upS_j (S : gS) {v j a b : Nat} (z : Int) (h : b ≠ j) : upS S v j z a b = S a b := by
  have h1 : Nat.beq b j = false := by cases q : Nat.beq b j with | false => rfl | true => exact absurd (Nat.eq_of_beq_eq_true q) h
  simp [upS, h1]
theorem upS_if (S : gS) (v j a b : Nat) (z : Int) : upS S v j z a b = if a = v ∧ b = j then z else S a b := by
  by_cases h1 : a = v
  · by_cases h2 : b = j
    · subst h1; subst h2; simp [upS]
    · rw [upS_j S z h2, if_neg (fun h => h2 h.2)]
  · rw [upS_v S z h1, if_neg (fun h => h1 h.1)]
/-! cells: an object (class, slots: 0 an int variable, 1 a long variable, 2 a cell), an array (type, length, variable) -/
abbrev gC : Type := (Nat × List (Nat × Nat)) ⊕ (Nat × Nat × Nat)
abbrev gE : Type := Launch × va_G × (Nat → ClassId) × (Nat → Nat)
def gad (E : gE) (k : Nat) : Nat := E.2.2.2 k
def g_sl (E : gE) (S : gS) (q : Nat × Nat) : Value := match q.1 with
  | 0 => iV (S q.2 0)
  | 1 => jV (S q.2 0)
  | _ => .ref (gad E q.2)
def g_row (t v : Nat) (S : gS) : (Nat → Int32) ⊕ (Nat → Int64) ⊕ (Nat → UInt32) ⊕ (Nat → UInt64) ⊕ (Nat → Option Nat) := cond (Nat.beq t 1) (.inr (.inl fun j => Int64.ofInt (S v j))) (.inl fun j => Int32.ofInt (S v j))
def g_el (E : gE) (S : gS) (c : gC) : va_E := match c with
  | .inl (ci, sl) => .inr (ci, sl.map (g_sl E S))
  | .inr (t, len, v) => .inl (E.2.2.1 t, len, g_row t v S)
def g_wl (E : gE) (S : gS) (lay : List gC) : va_W := lay.mapIdx fun k c => (gad E k, g_el E S c)
def g_vs (c : gC) : List Nat := match c with
  | .inl (_, sl) => (sl.filter fun q => Nat.ble q.1 1).map (·.2)
  | .inr (_, _, v) => [v]
/-- every variable has one place -/
def g_ok (lay : List gC) : Prop := (∀ (i j : Nat) (c d : gC) (v : Nat), lay[i]? = some c → lay[j]? = some d → v ∈ g_vs c → v ∈ g_vs d → i = j) ∧ ∀ (i : Nat) (ci : Nat) (sl : List (Nat × Nat)) (a b : Nat) (p q : Nat × Nat), lay[i]? = some (.inl (ci, sl)) → sl[a]? = some p → sl[b]? = some q → p.1 ≤ 1 → q.1 ≤ 1 → p.2 = q.2 → a = b
def g_okb (lay : List gC) : Bool :=
  ((List.range lay.length).all fun i => (List.range lay.length).all fun j => Nat.beq i j || ((g_vs (lay.getD i (.inr (0, 0, 0)))).all fun v => !((g_vs (lay.getD j (.inr (0, 0, 0)))).contains v))) &&
  ((List.range lay.length).all fun i => match lay.getD i (.inr (0, 0, 0)) with
    | .inl (_, sl) => (List.range sl.length).all fun a => (List.range sl.length).all fun b => Nat.beq a b || !(Nat.ble (sl.getD a (2, 0)).1 1 && Nat.ble (sl.getD b (2, 0)).1 1 && Nat.beq (sl.getD a (2, 0)).2 (sl.getD b (2, 0)).2)
    | .inr _ => true)
theorem g_ok_of {lay : List gC} (h : g_okb lay = true) : g_ok lay := by
  unfold g_okb at h
  rw [Bool.and_eq_true] at h
  obtain ⟨h1, h2⟩ := h
  constructor
  · intro i j c d v hi hj hc hd
    have li := (List.getElem?_eq_some_iff.mp hi).1
    have lj := (List.getElem?_eq_some_iff.mp hj).1
    have q := List.all_eq_true.mp (List.all_eq_true.mp h1 i (List.mem_range.mpr li)) j (List.mem_range.mpr lj)
    rw [List.getD_eq_getElem?_getD, List.getD_eq_getElem?_getD, hi, hj] at q
    simp only [Option.getD_some, Bool.or_eq_true, List.all_eq_true] at q
    rcases q with q | q
    · exact Nat.eq_of_beq_eq_true q
    · have q2 := q v hc
      simp [hd] at q2
  · intro i ci sl a b p q hi ha hb hp hq he
    have li := (List.getElem?_eq_some_iff.mp hi).1
    have la := (List.getElem?_eq_some_iff.mp ha).1
    have lb := (List.getElem?_eq_some_iff.mp hb).1
    have z := List.all_eq_true.mp h2 i (List.mem_range.mpr li)
    rw [List.getD_eq_getElem?_getD, hi] at z
    simp only [Option.getD_some] at z
    have z2 := List.all_eq_true.mp (List.all_eq_true.mp z a (List.mem_range.mpr la)) b (List.mem_range.mpr lb)
    rw [List.getD_eq_getElem?_getD, List.getD_eq_getElem?_getD, ha, hb] at z2
    simp only [Option.getD_some, Bool.or_eq_true] at z2
    rcases z2 with z2 | z2
    · exact Nat.eq_of_beq_eq_true z2
    · have e1 : Nat.ble p.1 1 = true := Nat.ble_eq_true_of_le hp
      have e2 : Nat.ble q.1 1 = true := Nat.ble_eq_true_of_le hq
      have e3 : Nat.beq p.2 q.2 = true := by rw [he]; simp
      rw [e1, e2, e3] at z2
      simp at z2
theorem g_wl_get {E : gE} {S : gS} {lay : List gC} {k : Nat} {c : gC} (h : lay[k]? = some c) : (g_wl E S lay)[k]? = some (gad E k, g_el E S c) := by
  unfold g_wl; rw [List.getElem?_mapIdx, h]; rfl
theorem g_el_up {E : gE} {S : gS} {c : gC} {v j : Nat} {z : Int} (h : v ∉ g_vs c) : g_el E (upS S v j z) c = g_el E S c := by
  obtain ⟨ci, sl⟩ | ⟨t, len, u⟩ := c
  · show (Sum.inr (ci, sl.map (g_sl E (upS S v j z))) : va_E) = .inr (ci, sl.map (g_sl E S))
    have : sl.map (g_sl E (upS S v j z)) = sl.map (g_sl E S) := by
      refine List.map_congr_left fun q hq => ?_
      obtain ⟨a, b⟩ := q
      have hn : a ≤ 1 → b ≠ v := fun ha e => h (by
        show v ∈ (sl.filter fun q => Nat.ble q.1 1).map (·.2)
        exact List.mem_map.mpr ⟨(a, b), List.mem_filter.mpr ⟨hq, Nat.ble_eq_true_of_le ha⟩, e⟩)
      match a, hn with
      | 0, hn => show iV _ = iV _; rw [upS_v S z (hn (by omega))]
      | 1, hn => show jV _ = jV _; rw [upS_v S z (hn (by omega))]
      | a + 2, hn => rfl
    rw [this]
  · have hn : u ≠ v := fun e => h (by show v ∈ [u]; simp [e])
    show (Sum.inl (E.2.2.1 t, len, g_row t u (upS S v j z)) : va_E) = .inl (E.2.2.1 t, len, g_row t u S)
    have e1 : (fun j' => Int32.ofInt (upS S v j z u j')) = fun j' => Int32.ofInt (S u j') := funext fun j' => by rw [upS_v S z hn]
    have e2 : (fun j' => Int64.ofInt (upS S v j z u j')) = fun j' => Int64.ofInt (S u j') := funext fun j' => by rw [upS_v S z hn]
    unfold g_row; rw [e1, e2]
/-- a write to one cell is a change of one variable -/
theorem g_wl_set {E : gE} {S : gS} {lay : List gC} {k v j : Nat} {z : Int} {c : gC} {e : va_E} (ho : g_ok lay) (h : lay[k]? = some c) (hv : v ∈ g_vs c) (he : g_el E (upS S v j z) c = e) : (g_wl E S lay).set k (gad E k, e) = g_wl E (upS S v j z) lay := by
  have hk := (List.getElem?_eq_some_iff.mp h).1
  apply List.ext_getElem?
  intro i
  by_cases hi : i = k
  · subst hi
    rw [List.getElem?_set_self (by unfold g_wl; simpa using hk), g_wl_get h, he]
  · rw [List.getElem?_set_ne (fun q => hi q.symm)]
    unfold g_wl
    rw [List.getElem?_mapIdx, List.getElem?_mapIdx]
    cases hc : lay[i]? with
    | none => rfl
    | some d =>
      have hn : v ∉ g_vs d := fun hd => hi (ho.1 i k d c v hc h hd hv)
      show some (gad E i, g_el E S d) = some (gad E i, g_el E (upS S v j z) d)
      rw [g_el_up hn]
theorem g_el_f {E : gE} {S : gS} {ci k t v : Nat} {sl : List (Nat × Nat)} {lay : List gC} {i : Nat} {z : Int} {x : Value} (ho : g_ok lay) (hl : lay[i]? = some (.inl (ci, sl))) (hk : sl[k]? = some (t, v)) (ht : t ≤ 1) (hx : g_sl E (upS S v 0 z) (t, v) = x) : g_el E (upS S v 0 z) (.inl (ci, sl)) = .inr (ci, (sl.map (g_sl E S)).set k x) := by
  show (Sum.inr (ci, sl.map (g_sl E (upS S v 0 z))) : va_E) = .inr (ci, (sl.map (g_sl E S)).set k x)
  have hkl := (List.getElem?_eq_some_iff.mp hk).1
  congr 2
  apply List.ext_getElem?
  intro a
  by_cases ha : a = k
  · subst ha
    rw [List.getElem?_set_self (by simpa using hkl), List.getElem?_map, hk, ← hx]; rfl
  · rw [List.getElem?_set_ne (fun q => ha q.symm), List.getElem?_map, List.getElem?_map]
    cases hq : sl[a]? with
    | none => rfl
    | some q =>
      obtain ⟨t2, u⟩ := q
      have hn : t2 ≤ 1 → u ≠ v := fun h1 e => ha (ho.2 i ci sl a k (t2, u) (t, v) hl hq hk h1 ht e)
      show some (g_sl E (upS S v 0 z) (t2, u)) = some (g_sl E S (t2, u))
      match t2, hn with
      | 0, hn => show some (iV _) = some (iV _); rw [upS_v S z (hn (by omega))]
      | 1, hn => show some (jV _) = some (jV _); rw [upS_v S z (hn (by omega))]
      | t2 + 2, hn => rfl
theorem g_mem_f {ci k t v : Nat} {sl : List (Nat × Nat)} (hk : sl[k]? = some (t, v)) (ht : t ≤ 1) : v ∈ g_vs (.inl (ci, sl)) := by
  show v ∈ (sl.filter fun q => Nat.ble q.1 1).map (·.2)
  exact List.mem_map.mpr ⟨(t, v), List.mem_filter.mpr ⟨List.mem_of_getElem? hk, Nat.ble_eq_true_of_le ht⟩, rfl⟩
theorem g_el_a {E : gE} {S : gS} {t len v k : Nat} {z : Int} (ht : Nat.beq t 1 = false) : g_el E (upS S v k z) (.inr (t, len, v)) = .inl (E.2.2.1 t, len, .inl (upd (fun j => Int32.ofInt (S v j)) k (Int32.ofInt z))) := by
  show (Sum.inl (E.2.2.1 t, len, g_row t v (upS S v k z)) : va_E) = _
  unfold g_row
  rw [ht]
  have e : (fun j => Int32.ofInt (upS S v k z v j)) = upd (fun j => Int32.ofInt (S v j)) k (Int32.ofInt z) := by
    funext j
    by_cases hj : j = k
    · subst hj; rw [upS_eq, pk_us]
    · rw [upS_j S z hj, pk_un hj]
  rw [e]; rfl
theorem g_el_l {E : gE} {S : gS} {len v k : Nat} {z : Int} : g_el E (upS S v k z) (.inr (1, len, v)) = .inl (E.2.2.1 1, len, .inr (.inl (vp_updL (fun j => Int64.ofInt (S v j)) k (Int64.ofInt z)))) := by
  show (Sum.inl (E.2.2.1 1, len, g_row 1 v (upS S v k z)) : va_E) = _
  have e : (fun j => Int64.ofInt (upS S v k z v j)) = vp_updL (fun j => Int64.ofInt (S v j)) k (Int64.ofInt z) := by
    funext j
    by_cases hj : j = k
    · subst hj; rw [upS_eq, pk_uLs]
    · rw [upS_j S z hj, pk_uLn hj]
  show (Sum.inl (E.2.2.1 1, len, Sum.inr (Sum.inl (fun j => Int64.ofInt (upS S v k z v j)))) : va_E) = _
  rw [e]
/-! the six String constants, and the two statics that the JDK's own methods read: they are only read (gad E 99 = 1: they are there) -/
def sLen : List Nat := [4, 4, 5, 4, 4, 4]
def sByt : List (List Int32) := [[102, 114, 101, 101], [108, 101, 102, 116], [114, 105, 103, 104, 116], [98, 117, 114, 110], [109, 111, 118, 101], [112, 97, 115, 115]]
def sTx : List String := ["free", "left", "right", "burn", "move", "pass"]
def gSt0 (E : gE) (A : Nat → Prop) (U : State) (H : Heap) : Prop :=
  vk_S 6 sLen sByt (fun i => gad E (100 + i)) (fun i => gad E (200 + i)) A U H ∧ va_Z "java/lang/String" "COMPACT_STRINGS" "Z" (.int 1) A U H ∧ va_Zq "jdk/internal/util/Preconditions" "SIOOBE_FORMATTER" "Ljava/util/function/BiFunction;" A U H ∧ ∀ i : Nat, i < 6 → vk_R RX6 (66 + 2 * i) (sTx.getD i "") (gad E (100 + i)) U
def gStr (E : gE) (A : Nat → Prop) (U : State) (H : Heap) : Prop := gad E 99 = 1 → gSt0 E A U H
theorem gStr.kept {E : gE} {A : Nat → Prop} {U : State} {H H1 : Heap} (h : gStr E A U H) (hq : ∀ a : Nat, a < H.size → ¬ A a → H1[a]? = H[a]?) : gStr E A U H1 := fun h1 => by
  obtain ⟨a, b, c, d⟩ := h h1
  exact ⟨a.kept hq, b.kept hq, c.kept hq, d⟩
theorem gStr.narrow {E : gE} {A B : Nat → Prop} {U : State} {H : Heap} (h : gStr E A U H) (hAB : ∀ q, B q → A q) : gStr E B U H := fun h1 => by
  obtain ⟨a, b, c, d⟩ := h h1
  exact ⟨a.narrow hAB, b.narrow hAB, c.narrow hAB, d⟩
theorem gStr.same {E : gE} {A : Nat → Prop} {u U : State} {H : Heap} (hv : U.vm = u.vm) (h : gStr E A u H) : gStr E A U H := fun h1 => by
  obtain ⟨a, b, c, d⟩ := h h1
  have hA : u.vm.Alike U.vm := by rw [hv]; exact Vm.Alike.refl _
  exact ⟨vk_S.moved hA a, va_Z.moved hA b, va_Zq.moved hA c, fun i hi => vk_R.same hv (d i hi)⟩
theorem gStr.warm {E : gE} {A : Nat → Prop} {s U : State} {H : Heap} (hW : s.WarmedH U.vm) (h : gStr E A s H) : gStr E A U H := fun h1 => by
  obtain ⟨a, b, c, d⟩ := h h1
  exact ⟨vk_S.moved hW.alike a, va_Z.moved hW.alike b, va_Zq.moved hW.alike c, fun i hi => vk_R.warm hW (d i hi)⟩
/-! the classes, the tables' words -/
abbrev gcl : List vw_C := [(RX1, TX1, 5), (RX2, TX2, 4), (RX3, TX3, 3), (RX4, TX4, 8), (RX5, TX5, 2), (RX6, TX6, 4), (RX7, TX7, 4), (RX8, TX8, 9)]
def gty (E : gE) : List (ClassId × FieldType) := [(E.2.2.1 0, .int), (E.2.2.1 1, .long), (E.2.2.1 2, .boolean), (E.2.2.1 3, .char)]
def TS : List Cond := lw_tbl.filter goodWord
theorem TS_good : TS.all goodWord = true := List.all_eq_true.mpr fun _ h => (List.mem_filter.mp h).2
theorem TS_in {w : Cond} (i : Nat) (h : lw_tbl[i]? = some w) (hg : goodWord w = true) : w ∈ TS := List.mem_filter.mpr ⟨List.mem_of_getElem? h, hg⟩
/-! locals -/
def lkeep (L : List (Nat × Value)) (ks : List Nat) : List (Nat × Value) := L.filter fun q => ks.any fun k => Nat.beq k q.1
def lget (L : List (Nat × Value)) (i : Nat) : Option Value := match L with
  | [] => none
  | (j, v) :: r => cond (Nat.beq j i) (some v) (lget r i)
theorem lget_mem {L : List (Nat × Value)} {i : Nat} {v : Value} (h : lget L i = some v) : (i, v) ∈ L := by
  induction L with
  | nil => cases h
  | cons q r ih =>
    obtain ⟨j, w⟩ := q
    rw [lget] at h
    cases hj : Nat.beq j i with
    | true =>
      rw [hj] at h
      have e : j = i := Nat.eq_of_beq_eq_true hj
      cases h; subst e
      exact List.mem_cons_self
    | false =>
      rw [hj] at h
      exact List.mem_cons_of_mem _ (ih h)
def lins (L : List (Nat × Value)) (i : Nat) (v : Value) : List (Nat × Value) := match L with
  | [] => [(i, v)]
  | (j, w) :: r => cond (Nat.blt i j) ((i, v) :: (j, w) :: r) ((j, w) :: lins r i v)
theorem lins_mem {L : List (Nat × Value)} {i : Nat} {v : Value} {q : Nat × Value} (h : q ∈ lins L i v) : q = (i, v) ∨ q ∈ L := by
  induction L with
  | nil => exact Or.inl (List.mem_singleton.mp h)
  | cons x r ih =>
    obtain ⟨j, w⟩ := x
    rw [lins] at h
    cases hj : Nat.blt i j with
    | true =>
      rw [hj] at h
      rcases List.mem_cons.mp h with e | h
      · exact Or.inl e
      · exact Or.inr h
    | false =>
      rw [hj] at h
      rcases List.mem_cons.mp h with e | h
      · exact Or.inr (e ▸ List.mem_cons_self)
      · rcases ih h with e | h
        · exact Or.inl e
        · exact Or.inr (List.mem_cons_of_mem _ h)
def lclr1 (i : Nat) (q : Nat × Value) : Bool := !(q.1 == i) && !(q.1 + 1 == i && q.2.category == 2)
def lclr2 (i : Nat) (q : Nat × Value) : Bool := !(q.1 == i) && (!(q.1 == i + 1) && !(q.1 + 1 == i && q.2.category == 2))
def lset (L : List (Nat × Value)) (i : Nat) (v : Value) : List (Nat × Value) := lins (L.filter (lclr1 i)) i v
def lset2 (L : List (Nat × Value)) (i : Nat) (v : Value) : List (Nat × Value) := lins (L.filter (lclr2 i)) i v
theorem lv_mono {ls : Array Slot} {n : Nat} {L L' : List (Nat × Value)} (h : lv_has ls n L) (hs : ∀ q ∈ L', q ∈ L) : lv_has ls n L' := ⟨h.1, h.2.1, fun q hq => h.2.2 q (hs q hq)⟩
theorem lv_lget {ls : Array Slot} {n : Nat} {L : List (Nat × Value)} {i : Nat} {v : Value} (h : lv_has ls n L) (hg : lget L i = some v) : ls[i]? = some (.val v) := h.2.2 (i, v) (lget_mem hg)
/-! methods: name, code, locals, what it returns, frames, room of locals -/
abbrev gM : Type := MethodName × ByteArray × Nat × Option FieldType × Nat × Nat
def gRm (M : gM) : Room := { frames := M.2.2.2.2.1, cells := 0, slots := 0, locals := M.2.2.2.2.2 }
def gws (M : gM) : List Cond := Cond.code M.1 M.2.1 M.2.2.1 M.2.2.2.1 :: TS
/-- the cells of the world, and what is new -/
def g_A (E : gE) (lay : List gC) (sz : Nat) : Nat → Prop := fun q => (∃ k, k < lay.length ∧ q = gad E k) ∨ sz ≤ q
def g_pre (E : gE) (lay : List gC) (sz : Nat) (S : gS) (U : State) : Prop := U.heap.size = sz ∧ va_P E.2.1 gcl (g_wl E S lay) U.heap ∧ va_K E.2.1 gcl (gty E) U ∧ va_D (fun _ => True) (g_wl E S lay) ∧ gStr E (g_A E lay sz) U U.heap
def g_post (E : gE) (lay : List gC) (A : Nat → Prop) (Post : Option Value → gS → Prop) (_ : Array Value) (st : State) (oc : Outcome) (t : State) : Prop := (∃ (v : Option Value) (S' : gS), oc = .returned v ∧ Post v S' ∧ va_P E.2.1 gcl (g_wl E S' lay) t.heap) ∧ va_F A st t
/-- a method's contract: called so in a state, it returns, and Post -/
def Ct (E : gE) (lay : List gC) (M : gM) (av : List Value) (S : gS) (Post : Option Value → gS → Prop) : Prop :=
  ∀ sz : Nat, Met E.1 M.1 (gws M) (gRm M) (va_Pc av (g_pre E lay sz S)) (g_post E lay (g_A E lay sz) Post) 0 0 (g_A E lay sz)
theorem g_D {E : gE} {lay : List gC} {S S' : gS} {A : Nat → Prop} (h : va_D A (g_wl E S lay)) : va_D A (g_wl E S' lay) := by
  have key : ∀ (k : Nat) (q : Nat × va_E), (g_wl E S' lay)[k]? = some q → ∃ q0, (g_wl E S lay)[k]? = some q0 ∧ q0.1 = q.1 := by
    intro k q hq
    unfold g_wl at hq ⊢
    rw [List.getElem?_mapIdx] at hq
    cases hc : lay[k]? with
    | none => rw [hc] at hq; cases hq
    | some c =>
      rw [hc] at hq
      refine ⟨(gad E k, g_el E S c), by rw [List.getElem?_mapIdx, hc]; rfl, ?_⟩
      cases hq; rfl
  constructor
  · intro i j p q hi hj e
    obtain ⟨p0, h1, h2⟩ := key i p hi
    obtain ⟨q0, h3, h4⟩ := key j q hj
    exact h.1 i j p0 q0 h1 h3 (by rw [h2, h4, e])
  · intro k q hq
    obtain ⟨q0, h1, h2⟩ := key k q hq
    rw [← h2]
    exact h.2 k q0 h1
theorem g_A_in {E : gE} {lay : List gC} {sz : Nat} {S : gS} {k : Nat} {q : Nat × va_E} (h : (g_wl E S lay)[k]? = some q) : g_A E lay sz q.1 := by
  unfold g_wl at h
  rw [List.getElem?_mapIdx] at h
  cases hc : lay[k]? with
  | none => rw [hc] at h; cases h
  | some c =>
    rw [hc] at h
    cases h
    exact Or.inl ⟨k, (List.getElem?_eq_some_iff.mp hc).1, rfl⟩
theorem g_A_of {E : gE} {lay : List gC} {A : Nat → Prop} {S : gS} {sz : Nat} (hD : va_D A (g_wl E S lay)) (hA : ∀ q, sz ≤ q → A q) : ∀ q, g_A E lay sz q → A q := by
  rintro q (⟨k, hk, rfl⟩ | h)
  · obtain ⟨c, hc⟩ : ∃ c, lay[k]? = some c := ⟨_, List.getElem?_eq_getElem hk⟩
    exact hD.2 k _ (g_wl_get hc)
  · exact hA q h
theorem g_blind {E : gE} {lay : List gC} {sz : Nat} {S : gS} {av : List Value} : FrameBlind (va_Pc av (g_pre E lay sz S)) := by
  intro a U g mk q
  obtain ⟨q0, q1, qP, qK, qD, qS⟩ := q
  exact ⟨q0, q1, qP, va_K.moved (u := U) (U := U.calling g mk a) (Vm.Alike.refl U.vm) qK, qD, gStr.same (u := U) (U := U.calling g mk a) rfl qS⟩
/-- the judgement of a method's body: Z S L pc st: from state S, locals L, at pc with operands st, all goes well -/
def Cx (Z : gS → List (Nat × Value) → Nat → List Value → Prop) (E : gE) (lay : List gC) (M : gM) (Rt : Option Value → gS → Prop) : Prop :=
  ∃ (p : Program) (e : Env) (R : Room) (s : State) (m : MethodId) (args : Array Value) (below : List Frame) (meth : Method) (c : Code) (A : Nat → Prop) (H0 : Heap) (cells slots : Nat) (Q : State → Prop),
    Z = (fun S L pc st => ∀ (H : Heap) (locs : List Loc) (ls : Array Slot), va_P E.2.1 gcl (g_wl E S lay) H → va_D A (g_wl E S lay) → va_S A H0 H locs → lv_has ls M.2.2.1 L → W p E.1 e R s m args below meth c H locs cells slots Q (F0 m pc ls st)) ∧
    p.tables.exec = Jvm.exec ∧ c.code = M.2.1 ∧ c.maxLocals = M.2.2.1 ∧ s.vm.findClass M.1.cls = some m.cls ∧ (∀ w ∈ TS, w.before args s = true) ∧ va_K E.2.1 gcl (gty E) s ∧ (∀ q, H0.size ≤ q → A q) ∧ g_ok lay ∧ (R.frames = M.2.2.2.2.1 ∧ R.locals = M.2.2.2.2.2 ∧ cells ≤ R.cells ∧ slots ≤ R.slots) ∧
    (∀ (pc : Nat) (S : gS) (L : List (Nat × Value)) (z : Int), decode M.2.1 pc = .ok (.ireturn, 1) → (M.2.2.2.1 = some .int ∨ ∃ ty, M.2.2.2.1 = some ty ∧ narrow ty (.int (Int32.ofInt z)) = .int (Int32.ofInt z)) → Rt (some (iV z)) S → Z S L pc [iV z]) ∧
    (∀ (pc : Nat) (S : gS) (L : List (Nat × Value)) (z : Int), decode M.2.1 pc = .ok (.lreturn, 1) → M.2.2.2.1 = some .long → Rt (some (jV z)) S → Z S L pc [jV z]) ∧
    (∀ (pc : Nat) (S : gS) (L : List (Nat × Value)), decode M.2.1 pc = .ok (.return_, 1) → M.2.2.2.1 = none → Rt none S → Z S L pc []) ∧
    (∀ (pc : Nat) (S : gS) (L : List (Nat × Value)) (a : Nat), decode M.2.1 pc = .ok (.areturn, 1) → (∃ n, M.2.2.2.1 = some (.object n)) → Rt (some (.ref a)) S → Z S L pc [.ref a]) ∧
    (H0 = s.heap ∧ gStr E A s H0)
section GRULES
variable {Z : gS → List (Nat × Value) → Nat → List Value → Prop} {E : gE} {lay : List gC} {M : gM} {Rt : Option Value → gS → Prop} {S : gS} {L : List (Nat × Value)} {pc : Nat} {st : List Value}

theorem g_iconst (hZ : Cx Z E lay M Rt) {n : Int} (d : decode M.2.1 pc = .ok (.iconst n, 1)) (k : Z S L (pc + 1) (iV n :: st)) : Z S L pc st := by
  obtain ⟨p, e, R, s, m, args, below, meth, c, A, H0, cells, slots, Q, rfl, hx, hb, hml, hown, hts, hK, hA, ho, hR, -, -, -, -⟩ := hZ
  intro H locs ls hP hD hS hl
  exact lv_iconst hx hb d rfl (k H locs ls hP hD hS hl)

theorem g_bipush (hZ : Cx Z E lay M Rt) {n z : Int} (d : decode M.2.1 pc = .ok (.bipush n, 2)) (hz : (Int8.ofInt n).toInt32 = Int32.ofInt z) (k : Z S L (pc + 2) (iV z :: st)) : Z S L pc st := by
  obtain ⟨p, e, R, s, m, args, below, meth, c, A, H0, cells, slots, Q, rfl, hx, hb, hml, hown, hts, hK, hA, ho, hR, -, -, -, -⟩ := hZ
  intro H locs ls hP hD hS hl
  exact lv_bipush hx hb d hz (k H locs ls hP hD hS hl)

theorem g_sipush (hZ : Cx Z E lay M Rt) {n z : Int} (d : decode M.2.1 pc = .ok (.sipush n, 3)) (hz : (Int16.ofInt n).toInt32 = Int32.ofInt z) (k : Z S L (pc + 3) (iV z :: st)) : Z S L pc st := by
  obtain ⟨p, e, R, s, m, args, below, meth, c, A, H0, cells, slots, Q, rfl, hx, hb, hml, hown, hts, hK, hA, ho, hR, -, -, -, -⟩ := hZ
  intro H locs ls hP hD hS hl
  exact lv_sipush hx hb d hz (k H locs ls hP hD hS hl)

theorem g_ldc (hZ : Cx Z E lay M Rt) {i : Nat} {z : Int} (d : decode M.2.1 pc = .ok (.ldc i, 2)) (hw : Cond.constant M.1.cls i (Int32.ofInt z) ∈ TS) (k : Z S L (pc + 2) (iV z :: st)) : Z S L pc st := by
  obtain ⟨p, e, R, s, m, args, below, meth, c, A, H0, cells, slots, Q, rfl, hx, hb, hml, hown, hts, hK, hA, ho, hR, -, -, -, -⟩ := hZ
  intro H locs ls hP hD hS hl
  exact lv_ldc hx hb hown (hts _ hw) d (k H locs ls hP hD hS hl)

theorem g_ldc2 (hZ : Cx Z E lay M Rt) {i : Nat} {z : Int} (d : decode M.2.1 pc = .ok (.ldc2_w i, 3)) (hw : Cond.constantLong M.1.cls i (Int64.ofInt z) ∈ TS) (k : Z S L (pc + 3) (jV z :: st)) : Z S L pc st := by
  obtain ⟨p, e, R, s, m, args, below, meth, c, A, H0, cells, slots, Q, rfl, hx, hb, hml, hown, hts, hK, hA, ho, hR, -, -, -, -⟩ := hZ
  intro H locs ls hP hD hS hl
  exact lv_ldc2 hx hb hown (hts _ hw) d (k H locs ls hP hD hS hl)

theorem g_lconst (hZ : Cx Z E lay M Rt) {n : Fin 2} {z : Int} (d : decode M.2.1 pc = .ok (.lconst n, 1)) (hz : Int64.ofNat (n : Nat) = Int64.ofInt z) (k : Z S L (pc + 1) (jV z :: st)) : Z S L pc st := by
  obtain ⟨p, e, R, s, m, args, below, meth, c, A, H0, cells, slots, Q, rfl, hx, hb, hml, hown, hts, hK, hA, ho, hR, -, -, -, -⟩ := hZ
  intro H locs ls hP hD hS hl
  exact lv_lconst hx hb d hz (k H locs ls hP hD hS hl)

theorem g_iload_n (hZ : Cx Z E lay M Rt) {k0 : Fin 4} {x : Int32} (d : decode M.2.1 pc = .ok (.iload_n k0, 1)) (h : lget L k0 = some (.int x)) (k : Z S L (pc + 1) (.int x :: st)) : Z S L pc st := by
  obtain ⟨p, e, R, s, m, args, below, meth, c, A, H0, cells, slots, Q, rfl, hx, hb, hml, hown, hts, hK, hA, ho, hR, -, -, -, -⟩ := hZ
  intro H locs ls hP hD hS hl
  exact lv_iload_n hx hb d rfl (lv_lget hl h) (k H locs ls hP hD hS hl)

theorem g_iload (hZ : Cx Z E lay M Rt) {i : Nat} {x : Int32} (d : decode M.2.1 pc = .ok (.iload i, 2)) (h : lget L i = some (.int x)) (k : Z S L (pc + 2) (.int x :: st)) : Z S L pc st := by
  obtain ⟨p, e, R, s, m, args, below, meth, c, A, H0, cells, slots, Q, rfl, hx, hb, hml, hown, hts, hK, hA, ho, hR, -, -, -, -⟩ := hZ
  intro H locs ls hP hD hS hl
  exact lv_iload hx hb d (lv_lget hl h) (k H locs ls hP hD hS hl)

theorem g_lload_n (hZ : Cx Z E lay M Rt) {k0 : Fin 4} {x : Int64} (d : decode M.2.1 pc = .ok (.lload_n k0, 1)) (h : lget L k0 = some (.long x)) (k : Z S L (pc + 1) (.long x :: st)) : Z S L pc st := by
  obtain ⟨p, e, R, s, m, args, below, meth, c, A, H0, cells, slots, Q, rfl, hx, hb, hml, hown, hts, hK, hA, ho, hR, -, -, -, -⟩ := hZ
  intro H locs ls hP hD hS hl
  exact lv_lload_n hx hb d rfl (lv_lget hl h) (k H locs ls hP hD hS hl)

theorem g_lload (hZ : Cx Z E lay M Rt) {i : Nat} {x : Int64} (d : decode M.2.1 pc = .ok (.lload i, 2)) (h : lget L i = some (.long x)) (k : Z S L (pc + 2) (.long x :: st)) : Z S L pc st := by
  obtain ⟨p, e, R, s, m, args, below, meth, c, A, H0, cells, slots, Q, rfl, hx, hb, hml, hown, hts, hK, hA, ho, hR, -, -, -, -⟩ := hZ
  intro H locs ls hP hD hS hl
  exact lv_lload hx hb d (lv_lget hl h) (k H locs ls hP hD hS hl)

theorem g_aload_n (hZ : Cx Z E lay M Rt) {k0 : Fin 4} {x : Nat} (d : decode M.2.1 pc = .ok (.aload_n k0, 1)) (h : lget L k0 = some (.ref x)) (k : Z S L (pc + 1) (.ref x :: st)) : Z S L pc st := by
  obtain ⟨p, e, R, s, m, args, below, meth, c, A, H0, cells, slots, Q, rfl, hx, hb, hml, hown, hts, hK, hA, ho, hR, -, -, -, -⟩ := hZ
  intro H locs ls hP hD hS hl
  exact lv_aload_n hx hb d rfl (lv_lget hl h) (k H locs ls hP hD hS hl)

theorem g_aload (hZ : Cx Z E lay M Rt) {i : Nat} {x : Nat} (d : decode M.2.1 pc = .ok (.aload i, 2)) (h : lget L i = some (.ref x)) (k : Z S L (pc + 2) (.ref x :: st)) : Z S L pc st := by
  obtain ⟨p, e, R, s, m, args, below, meth, c, A, H0, cells, slots, Q, rfl, hx, hb, hml, hown, hts, hK, hA, ho, hR, -, -, -, -⟩ := hZ
  intro H locs ls hP hD hS hl
  exact lv_aload hx hb d (lv_lget hl h) (k H locs ls hP hD hS hl)

theorem g_istore_n (hZ : Cx Z E lay M Rt) {k0 : Fin 4} {x : Int32} (d : decode M.2.1 pc = .ok (.istore_n k0, 1)) (hn : (k0 : Nat) < M.2.2.1) (k : Z S (lset L k0 (.int x)) (pc + 1) st) : Z S L pc (.int x :: st) := by
  obtain ⟨p, e, R, s, m, args, below, meth, c, A, H0, cells, slots, Q, rfl, hx, hb, hml, hown, hts, hK, hA, ho, hR, -, -, -, -⟩ := hZ
  intro H locs ls hP hD hS hl
  exact lv_istore_n (lv' := ((k0 : Nat), Value.int x) :: L.filter (lclr1 k0)) hx hb d rfl hl hn rfl fun ls' hl' => k H locs ls' hP hD hS (lv_mono hl' fun q hq => by rcases lins_mem hq with h | h; exact h ▸ List.mem_cons_self; exact List.mem_cons_of_mem _ h)

theorem g_istore (hZ : Cx Z E lay M Rt) {i : Nat} {x : Int32} (d : decode M.2.1 pc = .ok (.istore i, 2)) (hn : i < M.2.2.1) (k : Z S (lset L i (.int x)) (pc + 2) st) : Z S L pc (.int x :: st) := by
  obtain ⟨p, e, R, s, m, args, below, meth, c, A, H0, cells, slots, Q, rfl, hx, hb, hml, hown, hts, hK, hA, ho, hR, -, -, -, -⟩ := hZ
  intro H locs ls hP hD hS hl
  exact lv_istore (lv' := (i, Value.int x) :: L.filter (lclr1 i)) hx hb d hl hn rfl fun ls' hl' => k H locs ls' hP hD hS (lv_mono hl' fun q hq => by rcases lins_mem hq with h | h; exact h ▸ List.mem_cons_self; exact List.mem_cons_of_mem _ h)

theorem g_lstore_n (hZ : Cx Z E lay M Rt) {k0 : Fin 4} {x : Int64} (d : decode M.2.1 pc = .ok (.lstore_n k0, 1)) (hn : (k0 : Nat) + 1 < M.2.2.1) (k : Z S (lset2 L k0 (.long x)) (pc + 1) st) : Z S L pc (.long x :: st) := by
  obtain ⟨p, e, R, s, m, args, below, meth, c, A, H0, cells, slots, Q, rfl, hx, hb, hml, hown, hts, hK, hA, ho, hR, -, -, -, -⟩ := hZ
  intro H locs ls hP hD hS hl
  exact lv_lstore_n (lv' := ((k0 : Nat), Value.long x) :: L.filter (lclr2 k0)) hx hb d rfl hl hn rfl fun ls' hl' => k H locs ls' hP hD hS (lv_mono hl' fun q hq => by rcases lins_mem hq with h | h; exact h ▸ List.mem_cons_self; exact List.mem_cons_of_mem _ h)

theorem g_lstore (hZ : Cx Z E lay M Rt) {i : Nat} {x : Int64} (d : decode M.2.1 pc = .ok (.lstore i, 2)) (hn : i + 1 < M.2.2.1) (k : Z S (lset2 L i (.long x)) (pc + 2) st) : Z S L pc (.long x :: st) := by
  obtain ⟨p, e, R, s, m, args, below, meth, c, A, H0, cells, slots, Q, rfl, hx, hb, hml, hown, hts, hK, hA, ho, hR, -, -, -, -⟩ := hZ
  intro H locs ls hP hD hS hl
  exact lv_lstore (lv' := (i, Value.long x) :: L.filter (lclr2 i)) hx hb d hl hn rfl fun ls' hl' => k H locs ls' hP hD hS (lv_mono hl' fun q hq => by rcases lins_mem hq with h | h; exact h ▸ List.mem_cons_self; exact List.mem_cons_of_mem _ h)

theorem g_astore_n (hZ : Cx Z E lay M Rt) {k0 : Fin 4} {x : Nat} (d : decode M.2.1 pc = .ok (.astore_n k0, 1)) (hn : (k0 : Nat) < M.2.2.1) (k : Z S (lset L k0 (.ref x)) (pc + 1) st) : Z S L pc (.ref x :: st) := by
  obtain ⟨p, e, R, s, m, args, below, meth, c, A, H0, cells, slots, Q, rfl, hx, hb, hml, hown, hts, hK, hA, ho, hR, -, -, -, -⟩ := hZ
  intro H locs ls hP hD hS hl
  exact lv_astore_n (lv' := ((k0 : Nat), Value.ref x) :: L.filter (lclr1 k0)) hx hb d rfl hl hn rfl fun ls' hl' => k H locs ls' hP hD hS (lv_mono hl' fun q hq => by rcases lins_mem hq with h | h; exact h ▸ List.mem_cons_self; exact List.mem_cons_of_mem _ h)

theorem g_astore (hZ : Cx Z E lay M Rt) {i : Nat} {x : Nat} (d : decode M.2.1 pc = .ok (.astore i, 2)) (hn : i < M.2.2.1) (k : Z S (lset L i (.ref x)) (pc + 2) st) : Z S L pc (.ref x :: st) := by
  obtain ⟨p, e, R, s, m, args, below, meth, c, A, H0, cells, slots, Q, rfl, hx, hb, hml, hown, hts, hK, hA, ho, hR, -, -, -, -⟩ := hZ
  intro H locs ls hP hD hS hl
  exact lv_astore (lv' := (i, Value.ref x) :: L.filter (lclr1 i)) hx hb d hl hn rfl fun ls' hl' => k H locs ls' hP hD hS (lv_mono hl' fun q hq => by rcases lins_mem hq with h | h; exact h ▸ List.mem_cons_self; exact List.mem_cons_of_mem _ h)

theorem g_iinc (hZ : Cx Z E lay M Rt) {i : Nat} {n x : Int} (d : decode M.2.1 pc = .ok (.iinc i n, 3)) (h : lget L i = some (iV x)) (hn : i < M.2.2.1) (k : Z S (lset L i (iV (x + n))) (pc + 3) st) : Z S L pc st := by
  obtain ⟨p, e, R, s, m, args, below, meth, c, A, H0, cells, slots, Q, rfl, hx, hb, hml, hown, hts, hK, hA, ho, hR, -, -, -, -⟩ := hZ
  intro H locs ls hP hD hS hl
  obtain ⟨j, hj⟩ := List.getElem?_of_mem (lget_mem h)
  exact lv_iinc (v := Int32.ofInt (x + n)) (lv' := (i, iV (x + n)) :: L.filter (lclr1 i)) hx hb d hl hj (gi_add x n) hn rfl fun ls' hl' => k H locs ls' hP hD hS (lv_mono hl' fun q hq => by rcases lins_mem hq with h | h; exact h ▸ List.mem_cons_self; exact List.mem_cons_of_mem _ h)

theorem g_iadd (hZ : Cx Z E lay M Rt) {a b : Int} (d : decode M.2.1 pc = .ok (.iadd, 1)) (k : Z S L (pc + 1) (iV (a + b) :: st)) : Z S L pc (iV b :: iV a :: st) := by
  obtain ⟨p, e, R, s, m, args, below, meth, c, A, H0, cells, slots, Q, rfl, hx, hb, hml, hown, hts, hK, hA, ho, hR, -, -, -, -⟩ := hZ
  intro H locs ls hP hD hS hl
  refine lv_iadd hx hb d ?_
  rw [gi_add]
  exact k H locs ls hP hD hS hl

theorem g_isub (hZ : Cx Z E lay M Rt) {a b : Int} (d : decode M.2.1 pc = .ok (.isub, 1)) (k : Z S L (pc + 1) (iV (a - b) :: st)) : Z S L pc (iV b :: iV a :: st) := by
  obtain ⟨p, e, R, s, m, args, below, meth, c, A, H0, cells, slots, Q, rfl, hx, hb, hml, hown, hts, hK, hA, ho, hR, -, -, -, -⟩ := hZ
  intro H locs ls hP hD hS hl
  refine lv_isub hx hb d ?_
  rw [gi_sub]
  exact k H locs ls hP hD hS hl

theorem g_imul (hZ : Cx Z E lay M Rt) {a b : Int} (d : decode M.2.1 pc = .ok (.imul, 1)) (k : Z S L (pc + 1) (iV (a * b) :: st)) : Z S L pc (iV b :: iV a :: st) := by
  obtain ⟨p, e, R, s, m, args, below, meth, c, A, H0, cells, slots, Q, rfl, hx, hb, hml, hown, hts, hK, hA, ho, hR, -, -, -, -⟩ := hZ
  intro H locs ls hP hD hS hl
  refine lv_imul hx hb d ?_
  rw [gi_mul]
  exact k H locs ls hP hD hS hl

theorem g_ineg (hZ : Cx Z E lay M Rt) {a : Int} (d : decode M.2.1 pc = .ok (.ineg, 1)) (k : Z S L (pc + 1) (iV (-a) :: st)) : Z S L pc (iV a :: st) := by
  obtain ⟨p, e, R, s, m, args, below, meth, c, A, H0, cells, slots, Q, rfl, hx, hb, hml, hown, hts, hK, hA, ho, hR, -, -, -, -⟩ := hZ
  intro H locs ls hP hD hS hl
  refine lv_ineg hx hb d ?_
  rw [gi_neg]
  exact k H locs ls hP hD hS hl

theorem g_lmul (hZ : Cx Z E lay M Rt) {a b : Int} (d : decode M.2.1 pc = .ok (.lmul, 1)) (k : Z S L (pc + 1) (jV (a * b) :: st)) : Z S L pc (jV b :: jV a :: st) := by
  obtain ⟨p, e, R, s, m, args, below, meth, c, A, H0, cells, slots, Q, rfl, hx, hb, hml, hown, hts, hK, hA, ho, hR, -, -, -, -⟩ := hZ
  intro H locs ls hP hD hS hl
  refine lv_lmul hx hb d ?_
  rw [gj_mul]
  exact k H locs ls hP hD hS hl

theorem g_idiv (hZ : Cx Z E lay M Rt) {a b : Nat} (d : decode M.2.1 pc = .ok (.idiv, 1)) (ha : a < 2147483648) (h0 : 0 < b) (hb2 : b < 2147483648) (k : Z S L (pc + 1) (iV ((a / b : Nat) : Int) :: st)) : Z S L pc (iV (b : Int) :: iV (a : Int) :: st) := by
  obtain ⟨p, e, R, s, m, args, below, meth, c, A, H0, cells, slots, Q, rfl, hx, hb, hml, hown, hts, hK, hA, ho, hR, -, -, -, -⟩ := hZ
  intro H locs ls hP hD hS hl
  refine lv_idiv hx hb d (fun h => ?_) ?_
  · rw [gi_z0 ⟨by omega, by omega⟩] at h; omega
  rw [gi_div ha h0 hb2]
  exact k H locs ls hP hD hS hl

theorem g_irem (hZ : Cx Z E lay M Rt) {a b : Nat} (d : decode M.2.1 pc = .ok (.irem, 1)) (ha : a < 2147483648) (h0 : 0 < b) (hb2 : b < 2147483648) (k : Z S L (pc + 1) (iV ((a % b : Nat) : Int) :: st)) : Z S L pc (iV (b : Int) :: iV (a : Int) :: st) := by
  obtain ⟨p, e, R, s, m, args, below, meth, c, A, H0, cells, slots, Q, rfl, hx, hb, hml, hown, hts, hK, hA, ho, hR, -, -, -, -⟩ := hZ
  intro H locs ls hP hD hS hl
  refine lv_irem hx hb d (fun h => ?_) ?_
  · rw [gi_z0 ⟨by omega, by omega⟩] at h; omega
  rw [gi_rem ha h0 hb2]
  exact k H locs ls hP hD hS hl

theorem g_iand (hZ : Cx Z E lay M Rt) {a b z : Int} (d : decode M.2.1 pc = .ok (.iand, 1)) (h : Int32.ofInt a &&& Int32.ofInt b = Int32.ofInt z) (k : Z S L (pc + 1) (iV z :: st)) : Z S L pc (iV b :: iV a :: st) := by
  obtain ⟨p, e, R, s, m, args, below, meth, c, A, H0, cells, slots, Q, rfl, hx, hb, hml, hown, hts, hK, hA, ho, hR, -, -, -, -⟩ := hZ
  intro H locs ls hP hD hS hl
  refine lv_iand hx hb d ?_
  rw [h]
  exact k H locs ls hP hD hS hl

theorem g_ior (hZ : Cx Z E lay M Rt) {a b z : Int} (d : decode M.2.1 pc = .ok (.ior, 1)) (h : Int32.ofInt a ||| Int32.ofInt b = Int32.ofInt z) (k : Z S L (pc + 1) (iV z :: st)) : Z S L pc (iV b :: iV a :: st) := by
  obtain ⟨p, e, R, s, m, args, below, meth, c, A, H0, cells, slots, Q, rfl, hx, hb, hml, hown, hts, hK, hA, ho, hR, -, -, -, -⟩ := hZ
  intro H locs ls hP hD hS hl
  refine lv_ior hx hb d ?_
  rw [h]
  exact k H locs ls hP hD hS hl

theorem g_ixor (hZ : Cx Z E lay M Rt) {a b z : Int} (d : decode M.2.1 pc = .ok (.ixor, 1)) (h : Int32.ofInt a ^^^ Int32.ofInt b = Int32.ofInt z) (k : Z S L (pc + 1) (iV z :: st)) : Z S L pc (iV b :: iV a :: st) := by
  obtain ⟨p, e, R, s, m, args, below, meth, c, A, H0, cells, slots, Q, rfl, hx, hb, hml, hown, hts, hK, hA, ho, hR, -, -, -, -⟩ := hZ
  intro H locs ls hP hD hS hl
  refine lv_ixor hx hb d ?_
  rw [h]
  exact k H locs ls hP hD hS hl

theorem g_ishl (hZ : Cx Z E lay M Rt) {a b z : Int} (d : decode M.2.1 pc = .ok (.ishl, 1)) (h : Int32.ofInt a <<< (Int32.ofInt b &&& 31) = Int32.ofInt z) (k : Z S L (pc + 1) (iV z :: st)) : Z S L pc (iV b :: iV a :: st) := by
  obtain ⟨p, e, R, s, m, args, below, meth, c, A, H0, cells, slots, Q, rfl, hx, hb, hml, hown, hts, hK, hA, ho, hR, -, -, -, -⟩ := hZ
  intro H locs ls hP hD hS hl
  refine lv_ishl hx hb d ?_
  rw [h]
  exact k H locs ls hP hD hS hl

theorem g_ishr (hZ : Cx Z E lay M Rt) {a b z : Int} (d : decode M.2.1 pc = .ok (.ishr, 1)) (h : Int32.ofInt a >>> (Int32.ofInt b &&& 31) = Int32.ofInt z) (k : Z S L (pc + 1) (iV z :: st)) : Z S L pc (iV b :: iV a :: st) := by
  obtain ⟨p, e, R, s, m, args, below, meth, c, A, H0, cells, slots, Q, rfl, hx, hb, hml, hown, hts, hK, hA, ho, hR, -, -, -, -⟩ := hZ
  intro H locs ls hP hD hS hl
  refine lv_ishr hx hb d ?_
  rw [h]
  exact k H locs ls hP hD hS hl

theorem g_iushr (hZ : Cx Z E lay M Rt) {a b z : Int} (d : decode M.2.1 pc = .ok (.iushr, 1)) (h : ((Int32.ofInt a).toUInt32 >>> ((Int32.ofInt b).toUInt32 &&& Int32.toUInt32 31)).toInt32 = Int32.ofInt z) (k : Z S L (pc + 1) (iV z :: st)) : Z S L pc (iV b :: iV a :: st) := by
  obtain ⟨p, e, R, s, m, args, below, meth, c, A, H0, cells, slots, Q, rfl, hx, hb, hml, hown, hts, hK, hA, ho, hR, -, -, -, -⟩ := hZ
  intro H locs ls hP hD hS hl
  exact lv_iushr hx hb d h (k H locs ls hP hD hS hl)

theorem g_land (hZ : Cx Z E lay M Rt) {a b z : Int} (d : decode M.2.1 pc = .ok (.land, 1)) (h : Int64.ofInt a &&& Int64.ofInt b = Int64.ofInt z) (k : Z S L (pc + 1) (jV z :: st)) : Z S L pc (jV b :: jV a :: st) := by
  obtain ⟨p, e, R, s, m, args, below, meth, c, A, H0, cells, slots, Q, rfl, hx, hb, hml, hown, hts, hK, hA, ho, hR, -, -, -, -⟩ := hZ
  intro H locs ls hP hD hS hl
  refine lv_land hx hb d ?_
  rw [h]
  exact k H locs ls hP hD hS hl

theorem g_lor (hZ : Cx Z E lay M Rt) {a b z : Int} (d : decode M.2.1 pc = .ok (.lor, 1)) (h : Int64.ofInt a ||| Int64.ofInt b = Int64.ofInt z) (k : Z S L (pc + 1) (jV z :: st)) : Z S L pc (jV b :: jV a :: st) := by
  obtain ⟨p, e, R, s, m, args, below, meth, c, A, H0, cells, slots, Q, rfl, hx, hb, hml, hown, hts, hK, hA, ho, hR, -, -, -, -⟩ := hZ
  intro H locs ls hP hD hS hl
  refine lv_lor hx hb d ?_
  rw [h]
  exact k H locs ls hP hD hS hl

theorem g_lxor (hZ : Cx Z E lay M Rt) {a b z : Int} (d : decode M.2.1 pc = .ok (.lxor, 1)) (h : Int64.ofInt a ^^^ Int64.ofInt b = Int64.ofInt z) (k : Z S L (pc + 1) (jV z :: st)) : Z S L pc (jV b :: jV a :: st) := by
  obtain ⟨p, e, R, s, m, args, below, meth, c, A, H0, cells, slots, Q, rfl, hx, hb, hml, hown, hts, hK, hA, ho, hR, -, -, -, -⟩ := hZ
  intro H locs ls hP hD hS hl
  refine lv_lxor hx hb d ?_
  rw [h]
  exact k H locs ls hP hD hS hl

theorem g_lushr (hZ : Cx Z E lay M Rt) {a b z : Int} (d : decode M.2.1 pc = .ok (.lushr, 1)) (h : ((Int64.ofInt a).toUInt64 >>> ((Int32.ofInt b).toInt64.toUInt64 &&& Int64.toUInt64 63)).toInt64 = Int64.ofInt z) (k : Z S L (pc + 1) (jV z :: st)) : Z S L pc (iV b :: jV a :: st) := by
  obtain ⟨p, e, R, s, m, args, below, meth, c, A, H0, cells, slots, Q, rfl, hx, hb, hml, hown, hts, hK, hA, ho, hR, -, -, -, -⟩ := hZ
  intro H locs ls hP hD hS hl
  exact lv_lushr hx hb d h (k H locs ls hP hD hS hl)

theorem g_lshl (hZ : Cx Z E lay M Rt) {a b z : Int} (d : decode M.2.1 pc = .ok (.lshl, 1)) (h : Int64.ofInt a <<< ((Int32.ofInt b).toInt64 &&& 63) = Int64.ofInt z) (k : Z S L (pc + 1) (jV z :: st)) : Z S L pc (iV b :: jV a :: st) := by
  obtain ⟨p, e, R, s, m, args, below, meth, c, A, H0, cells, slots, Q, rfl, hx, hb, hml, hown, hts, hK, hA, ho, hR, -, -, -, -⟩ := hZ
  intro H locs ls hP hD hS hl
  exact lv_lshl hx hb d h (k H locs ls hP hD hS hl)

theorem g_i2l (hZ : Cx Z E lay M Rt) {a : Int} (d : decode M.2.1 pc = .ok (.i2l, 1)) (h : R32 a) (k : Z S L (pc + 1) (jV a :: st)) : Z S L pc (iV a :: st) := by
  obtain ⟨p, e, R, s, m, args, below, meth, c, A, H0, cells, slots, Q, rfl, hx, hb, hml, hown, hts, hK, hA, ho, hR, -, -, -, -⟩ := hZ
  intro H locs ls hP hD hS hl
  refine lv_i2l (v := Int64.ofInt a) hx hb d ?_ (k H locs ls hP hD hS hl)
  apply Int64.toInt_inj.1
  rw [Int32.toInt_toInt64, gi_ti h, gj_ti ⟨by have := h.1; omega, by have := h.2; omega⟩]

theorem g_l2i (hZ : Cx Z E lay M Rt) {a z : Int} (d : decode M.2.1 pc = .ok (.l2i, 1)) (h : (Int64.ofInt a).toInt32 = Int32.ofInt z) (k : Z S L (pc + 1) (iV z :: st)) : Z S L pc (jV a :: st) := by
  obtain ⟨p, e, R, s, m, args, below, meth, c, A, H0, cells, slots, Q, rfl, hx, hb, hml, hown, hts, hK, hA, ho, hR, -, -, -, -⟩ := hZ
  intro H locs ls hP hD hS hl
  exact lv_l2i hx hb d h (k H locs ls hP hD hS hl)

theorem g_i2c (hZ : Cx Z E lay M Rt) {a z : Int} (d : decode M.2.1 pc = .ok (.i2c, 1)) (h : ((Int32.ofInt a).toUInt32 % 65536).toInt32 = Int32.ofInt z) (k : Z S L (pc + 1) (iV z :: st)) : Z S L pc (iV a :: st) := by
  obtain ⟨p, e, R, s, m, args, below, meth, c, A, H0, cells, slots, Q, rfl, hx, hb, hml, hown, hts, hK, hA, ho, hR, -, -, -, -⟩ := hZ
  intro H locs ls hP hD hS hl
  exact lv_i2c hx hb d h (k H locs ls hP hD hS hl)

theorem g_dup (hZ : Cx Z E lay M Rt) {v : Value} (d : decode M.2.1 pc = .ok (.dup, 1)) (hc : v.category = 1) (k : Z S L (pc + 1) (v :: v :: st)) : Z S L pc (v :: st) := by
  obtain ⟨p, e, R, s, m, args, below, meth, c, A, H0, cells, slots, Q, rfl, hx, hb, hml, hown, hts, hK, hA, ho, hR, -, -, -, -⟩ := hZ
  intro H locs ls hP hD hS hl
  exact lv_dup hx hb d hc (k H locs ls hP hD hS hl)

theorem g_dup2 (hZ : Cx Z E lay M Rt) {a b : Value} (d : decode M.2.1 pc = .ok (.dup2, 1)) (hc : a.category = 1) (hc2 : b.category = 1) (k : Z S L (pc + 1) (a :: b :: a :: b :: st)) : Z S L pc (a :: b :: st) := by
  obtain ⟨p, e, R, s, m, args, below, meth, c, A, H0, cells, slots, Q, rfl, hx, hb, hml, hown, hts, hK, hA, ho, hR, -, -, -, -⟩ := hZ
  intro H locs ls hP hD hS hl
  exact lv_dup2_11 hx hb d hc hc2 (k H locs ls hP hD hS hl)

theorem g_pop (hZ : Cx Z E lay M Rt) {v : Value} (d : decode M.2.1 pc = .ok (.pop, 1)) (hc : v.category = 1) (k : Z S L (pc + 1) st) : Z S L pc (v :: st) := by
  obtain ⟨p, e, R, s, m, args, below, meth, c, A, H0, cells, slots, Q, rfl, hx, hb, hml, hown, hts, hK, hA, ho, hR, -, -, -, -⟩ := hZ
  intro H locs ls hP hD hS hl
  exact lv_pop hx hb d hc (k H locs ls hP hD hS hl)

theorem g_goto (hZ : Cx Z E lay M Rt) {off : Int} (tgt : Nat) (d : decode M.2.1 pc = .ok (.goto off, 3)) (ht : (pc : Int) + off = (tgt : Int)) (k : Z S L tgt st) : Z S L pc st := by
  obtain ⟨p, e, R, s, m, args, below, meth, c, A, H0, cells, slots, Q, rfl, hx, hb, hml, hown, hts, hK, hA, ho, hR, -, -, -, -⟩ := hZ
  intro H locs ls hP hD hS hl
  exact lv_goto hx hb d ht (k H locs ls hP hD hS hl)

theorem g_if_eq (hZ : Cx Z E lay M Rt) {a off : Int} (tgt : Nat) (d : decode M.2.1 pc = .ok (.ifCond .eq off, 3)) (ht : (pc : Int) + off = (tgt : Int)) (ha : R32 a) (kt : a = 0 → Z S L tgt st) (kf : ¬ a = 0 → Z S L (pc + 3) st) : Z S L pc (iV a :: st) := by
  obtain ⟨p, e, R, s, m, args, below, meth, c, A, H0, cells, slots, Q, rfl, hx, hb, hml, hown, hts, hK, hA, ho, hR, -, -, -, -⟩ := hZ
  intro H locs ls hP hD hS hl
  exact lv_if_eq hx hb d ht (fun h => kt ((gi_z0 ha).mp h) H locs ls hP hD hS hl) (fun h => kf (fun q => h ((gi_z0 ha).mpr q)) H locs ls hP hD hS hl)

theorem g_if_lt (hZ : Cx Z E lay M Rt) {a off : Int} (tgt : Nat) (d : decode M.2.1 pc = .ok (.ifCond .lt off, 3)) (ht : (pc : Int) + off = (tgt : Int)) (ha : R32 a) (kt : a < 0 → Z S L tgt st) (kf : ¬ a < 0 → Z S L (pc + 3) st) : Z S L pc (iV a :: st) := by
  obtain ⟨p, e, R, s, m, args, below, meth, c, A, H0, cells, slots, Q, rfl, hx, hb, hml, hown, hts, hK, hA, ho, hR, -, -, -, -⟩ := hZ
  intro H locs ls hP hD hS hl
  exact lv_if_lt hx hb d ht (fun h => kt ((gi_zl ha).mp h) H locs ls hP hD hS hl) (fun h => kf (fun q => h ((gi_zl ha).mpr q)) H locs ls hP hD hS hl)

theorem g_if_le (hZ : Cx Z E lay M Rt) {a off : Int} (tgt : Nat) (d : decode M.2.1 pc = .ok (.ifCond .le off, 3)) (ht : (pc : Int) + off = (tgt : Int)) (ha : R32 a) (kt : a ≤ 0 → Z S L tgt st) (kf : ¬ a ≤ 0 → Z S L (pc + 3) st) : Z S L pc (iV a :: st) := by
  obtain ⟨p, e, R, s, m, args, below, meth, c, A, H0, cells, slots, Q, rfl, hx, hb, hml, hown, hts, hK, hA, ho, hR, -, -, -, -⟩ := hZ
  intro H locs ls hP hD hS hl
  exact lv_if_le hx hb d ht (fun h => kt ((gi_zle ha).mp h) H locs ls hP hD hS hl) (fun h => kf (fun q => h ((gi_zle ha).mpr q)) H locs ls hP hD hS hl)

theorem g_if_ge (hZ : Cx Z E lay M Rt) {a off : Int} (tgt : Nat) (d : decode M.2.1 pc = .ok (.ifCond .ge off, 3)) (ht : (pc : Int) + off = (tgt : Int)) (ha : R32 a) (kt : 0 ≤ a → Z S L tgt st) (kf : ¬ 0 ≤ a → Z S L (pc + 3) st) : Z S L pc (iV a :: st) := by
  obtain ⟨p, e, R, s, m, args, below, meth, c, A, H0, cells, slots, Q, rfl, hx, hb, hml, hown, hts, hK, hA, ho, hR, -, -, -, -⟩ := hZ
  intro H locs ls hP hD hS hl
  exact lv_if_ge hx hb d ht (fun h => kt ((gi_zge ha).mp h) H locs ls hP hD hS hl) (fun h => kf (fun q => h ((gi_zge ha).mpr q)) H locs ls hP hD hS hl)

theorem g_if_gt (hZ : Cx Z E lay M Rt) {a off : Int} (tgt : Nat) (d : decode M.2.1 pc = .ok (.ifCond .gt off, 3)) (ht : (pc : Int) + off = (tgt : Int)) (ha : R32 a) (kt : 0 < a → Z S L tgt st) (kf : ¬ 0 < a → Z S L (pc + 3) st) : Z S L pc (iV a :: st) := by
  obtain ⟨p, e, R, s, m, args, below, meth, c, A, H0, cells, slots, Q, rfl, hx, hb, hml, hown, hts, hK, hA, ho, hR, -, -, -, -⟩ := hZ
  intro H locs ls hP hD hS hl
  exact lv_if_gt hx hb d ht (fun h => kt ((gi_zg ha).mp h) H locs ls hP hD hS hl) (fun h => kf (fun q => h ((gi_zg ha).mpr q)) H locs ls hP hD hS hl)

theorem g_if_ne (hZ : Cx Z E lay M Rt) {a off : Int} (tgt : Nat) (d : decode M.2.1 pc = .ok (.ifCond .ne off, 3)) (ht : (pc : Int) + off = (tgt : Int)) (ha : R32 a) (kt : ¬ a = 0 → Z S L tgt st) (kf : a = 0 → Z S L (pc + 3) st) : Z S L pc (iV a :: st) := by
  obtain ⟨p, e, R, s, m, args, below, meth, c, A, H0, cells, slots, Q, rfl, hx, hb, hml, hown, hts, hK, hA, ho, hR, -, -, -, -⟩ := hZ
  intro H locs ls hP hD hS hl
  exact lv_if_ne hx hb d ht (fun h => kt (fun q => h ((gi_z0 ha).mpr q)) H locs ls hP hD hS hl) (fun h => kf ((gi_z0 ha).mp h) H locs ls hP hD hS hl)
theorem g_icmp_ne (hZ : Cx Z E lay M Rt) {a b off : Int} (tgt : Nat) (d : decode M.2.1 pc = .ok (.if_icmp .ne off, 3)) (ht : (pc : Int) + off = (tgt : Int)) (hr : R32 a ∧ R32 b) (kt : ¬ a = b → Z S L tgt st) (kf : a = b → Z S L (pc + 3) st) : Z S L pc (iV b :: iV a :: st) := by
  obtain ⟨p, e, R, s, m, args, below, meth, c, A, H0, cells, slots, Q, rfl, hx, hb, hml, hown, hts, hK, hA, ho, hR, -, -, -, -⟩ := hZ
  intro H locs ls hP hD hS hl
  exact lv_icmp_ne hx hb d ht (fun h => kt (fun q => h ((gi_eq hr.1 hr.2).mpr q)) H locs ls hP hD hS hl) (fun h => kf ((gi_eq hr.1 hr.2).mp h) H locs ls hP hD hS hl)

theorem g_icmp_eq (hZ : Cx Z E lay M Rt) {a b off : Int} (tgt : Nat) (d : decode M.2.1 pc = .ok (.if_icmp .eq off, 3)) (ht : (pc : Int) + off = (tgt : Int)) (hr : R32 a ∧ R32 b) (kt : a = b → Z S L tgt st) (kf : ¬ a = b → Z S L (pc + 3) st) : Z S L pc (iV b :: iV a :: st) := by
  obtain ⟨p, e, R, s, m, args, below, meth, c, A, H0, cells, slots, Q, rfl, hx, hb, hml, hown, hts, hK, hA, ho, hR, -, -, -, -⟩ := hZ
  intro H locs ls hP hD hS hl
  exact lv_icmp_eq hx hb d ht (fun h => kt ((gi_eq hr.1 hr.2).mp h) H locs ls hP hD hS hl) (fun h => kf (fun q => h ((gi_eq hr.1 hr.2).mpr q)) H locs ls hP hD hS hl)

theorem g_icmp_lt (hZ : Cx Z E lay M Rt) {a b off : Int} (tgt : Nat) (d : decode M.2.1 pc = .ok (.if_icmp .lt off, 3)) (ht : (pc : Int) + off = (tgt : Int)) (hr : R32 a ∧ R32 b) (kt : a < b → Z S L tgt st) (kf : ¬ a < b → Z S L (pc + 3) st) : Z S L pc (iV b :: iV a :: st) := by
  obtain ⟨p, e, R, s, m, args, below, meth, c, A, H0, cells, slots, Q, rfl, hx, hb, hml, hown, hts, hK, hA, ho, hR, -, -, -, -⟩ := hZ
  intro H locs ls hP hD hS hl
  exact lv_icmp_lt hx hb d ht (fun h => kt ((gi_lt hr.1 hr.2).mp h) H locs ls hP hD hS hl) (fun h => kf (fun q => h ((gi_lt hr.1 hr.2).mpr q)) H locs ls hP hD hS hl)

theorem g_icmp_le (hZ : Cx Z E lay M Rt) {a b off : Int} (tgt : Nat) (d : decode M.2.1 pc = .ok (.if_icmp .le off, 3)) (ht : (pc : Int) + off = (tgt : Int)) (hr : R32 a ∧ R32 b) (kt : a ≤ b → Z S L tgt st) (kf : ¬ a ≤ b → Z S L (pc + 3) st) : Z S L pc (iV b :: iV a :: st) := by
  obtain ⟨p, e, R, s, m, args, below, meth, c, A, H0, cells, slots, Q, rfl, hx, hb, hml, hown, hts, hK, hA, ho, hR, -, -, -, -⟩ := hZ
  intro H locs ls hP hD hS hl
  exact lv_icmp_le hx hb d ht (fun h => kt ((gi_le hr.1 hr.2).mp h) H locs ls hP hD hS hl) (fun h => kf (fun q => h ((gi_le hr.1 hr.2).mpr q)) H locs ls hP hD hS hl)

theorem g_icmp_ge (hZ : Cx Z E lay M Rt) {a b off : Int} (tgt : Nat) (d : decode M.2.1 pc = .ok (.if_icmp .ge off, 3)) (ht : (pc : Int) + off = (tgt : Int)) (hr : R32 a ∧ R32 b) (kt : b ≤ a → Z S L tgt st) (kf : ¬ b ≤ a → Z S L (pc + 3) st) : Z S L pc (iV b :: iV a :: st) := by
  obtain ⟨p, e, R, s, m, args, below, meth, c, A, H0, cells, slots, Q, rfl, hx, hb, hml, hown, hts, hK, hA, ho, hR, -, -, -, -⟩ := hZ
  intro H locs ls hP hD hS hl
  exact lv_icmp_ge hx hb d ht (fun h => kt ((gi_le hr.2 hr.1).mp h) H locs ls hP hD hS hl) (fun h => kf (fun q => h ((gi_le hr.2 hr.1).mpr q)) H locs ls hP hD hS hl)

theorem g_icmp_gt (hZ : Cx Z E lay M Rt) {a b off : Int} (tgt : Nat) (d : decode M.2.1 pc = .ok (.if_icmp .gt off, 3)) (ht : (pc : Int) + off = (tgt : Int)) (hr : R32 a ∧ R32 b) (kt : b < a → Z S L tgt st) (kf : ¬ b < a → Z S L (pc + 3) st) : Z S L pc (iV b :: iV a :: st) := by
  obtain ⟨p, e, R, s, m, args, below, meth, c, A, H0, cells, slots, Q, rfl, hx, hb, hml, hown, hts, hK, hA, ho, hR, -, -, -, -⟩ := hZ
  intro H locs ls hP hD hS hl
  exact lv_icmp_gt hx hb d ht (fun h => kt ((gi_lt hr.2 hr.1).mp h) H locs ls hP hD hS hl) (fun h => kf (fun q => h ((gi_lt hr.2 hr.1).mpr q)) H locs ls hP hD hS hl)

theorem g_lcmp (hZ : Cx Z E lay M Rt) {a b : Int} (d : decode M.2.1 pc = .ok (.lcmp, 1)) (ha : R64 a) (hb2 : R64 b) (k : Z S L (pc + 1) (iV (if a = b then 0 else if b < a then 1 else -1) :: st)) : Z S L pc (jV b :: jV a :: st) := by
  obtain ⟨p, e, R, s, m, args, below, meth, c, A, H0, cells, slots, Q, rfl, hx, hb, hml, hown, hts, hK, hA, ho, hR, -, -, -, -⟩ := hZ
  intro H locs ls hP hD hS hl
  refine W.lcmp hx hb d ?_
  have e : lg_cmp (Int64.ofInt a) (Int64.ofInt b) = Int32.ofInt (if a = b then 0 else if b < a then 1 else -1) := by
    unfold lg_cmp
    by_cases h : a = b
    · have h2 : ¬ Int64.ofInt a > Int64.ofInt b := fun q => by have := (gj_lt hb2 ha).mp q; omega
      rw [if_neg h2, if_pos ((gj_eq ha hb2).mpr h), if_pos h]; rfl
    · by_cases h2 : b < a
      · rw [if_pos (show Int64.ofInt a > Int64.ofInt b from (gj_lt hb2 ha).mpr h2), if_neg h, if_pos h2]; rfl
      · rw [if_neg (fun q => h2 ((gj_lt hb2 ha).mp q)), if_neg (fun q => h ((gj_eq ha hb2).mp q)), if_neg h, if_neg h2]; rfl
  rw [e]
  exact k H locs ls hP hD hS hl

theorem g_switch (hZ : Cx Z E lay M Rt) {a dflt lo hi off : Int} {offs : Array Int} {len : Nat} (tgt : Nat) (d : decode M.2.1 pc = .ok (.tableswitch dflt lo hi offs, len)) (ha : R32 a) (h1 : lo ≤ a) (h2 : a ≤ hi) (h3 : offs[(a - lo).toNat]? = some off) (ht : (pc : Int) + off = (tgt : Int)) (k : Z S L tgt st) : Z S L pc (iV a :: st) := by
  obtain ⟨p, e, R, s, m, args, below, meth, c, A, H0, cells, slots, Q, rfl, hx, hb, hml, hown, hts, hK, hA, ho, hR, -, -, -, -⟩ := hZ
  intro H locs ls hP hD hS hl
  exact lv_tableIn hx hb d (by rw [gi_ti ha]; omega) (by rw [gi_ti ha]; omega) (by rw [gi_ti ha]; exact h3) ht (k H locs ls hP hD hS hl)
theorem g_switchOut (hZ : Cx Z E lay M Rt) {a dflt lo hi : Int} {offs : Array Int} {len : Nat} (tgt : Nat) (d : decode M.2.1 pc = .ok (.tableswitch dflt lo hi offs, len)) (ha : R32 a) (h1 : a < lo ∨ hi < a) (ht : (pc : Int) + dflt = (tgt : Int)) (k : Z S L tgt st) : Z S L pc (iV a :: st) := by
  obtain ⟨p, e, R, s, m, args, below, meth, c, A, H0, cells, slots, Q, rfl, hx, hb, hml, hown, hts, hK, hA, ho, hR, -, -, -, -⟩ := hZ
  intro H locs ls hP hD hS hl
  exact lv_tableOut hx hb d (by rw [gi_ti ha]; exact h1) ht (k H locs ls hP hD hS hl)

theorem g_keep (hZ : Cx Z E lay M Rt) (ks : List Nat) {L' : List (Nat × Value)} (h : lkeep L ks = L') (k : Z S L' pc st) : Z S L pc st := by
  obtain ⟨p, e, R, s, m, args, below, meth, c, A, H0, cells, slots, Q, rfl, hx, hb, hml, hown, hts, hK, hA, ho, hR, -, -, -, -⟩ := hZ
  intro H locs ls hP hD hS hl
  exact k H locs ls hP hD hS (lv_mono hl fun q hq => by rw [← h] at hq; exact (List.mem_filter.mp hq).1)
theorem g_state (hZ : Cx Z E lay M Rt) {S' : gS} (h : S = S') (k : Z S' L pc st) : Z S L pc st := h ▸ k

/-- a field's word: the class that reads it, the number in its pool, the cell's class, the slot, the type -/
def gF (own : String) (i ci k : Nat) (ty : FieldType) : Prop := ∃ (C : String) (T : u_T) (N : Nat) (ty0 : Nat → FieldType), gcl[ci]? = some (C, T, N) ∧ k < N ∧ Cond.fieldLink own i (T k).1 (T k).2.1 (T k).2.2.1 ∈ TS ∧ (∀ w ∈ u_ws C T N, w ∈ TS) ∧ (∀ k, k < N → parseFieldDescriptor (T k).2.2.1 = some (ty0 k)) ∧ (∀ a, a < N → ∀ b, b < N → a ≠ b → (T a).2.1 ≠ (T b).2.1) ∧ ty0 k = ty ∧ ((T k).2.2.2 = false ∨ ty ≠ .int ∧ ty ≠ .long)

theorem g_geti (hZ : Cx Z E lay M Rt) {i ci k0 q v : Nat} {sl : List (Nat × Nat)} {ty : FieldType} {z : Int} (hF : gF M.1.cls i ci k0 ty) (hc : lay[q]? = some (.inl (ci, sl))) (hk : sl[k0]? = some (0, v)) (d : decode M.2.1 pc = .ok (.getfield i, 3)) (hz : S v 0 = z) (k : Z S L (pc + 3) (iV z :: st)) : Z S L pc (.ref (gad E q) :: st) := by
  obtain ⟨p, e, R, s, m, args, below, meth, c, A, H0, cells, slots, Q, rfl, hx, hb, hml, hown, hts, hK, hA, ho, hR, -, -, -, -⟩ := hZ
  intro H locs ls hP hD hS hl
  obtain ⟨C, T, N, ty0, h1, h2, h3, h4, h5, h6, h7, -⟩ := hF
  subst hz
  exact va_get (D := E.2.1) (ci := ci) (v := iV (S v 0)) (C := C) (T := T) (N := N) hx hb hts h4 hown hK hP q (g_wl_get hc) h1 k0 h2 (hts _ h3) (fun _ h9 => h9) (by rw [List.getElem?_map, hk]; rfl) d (k H locs ls hP hD hS hl)
theorem g_puti (hZ : Cx Z E lay M Rt) {i ci k0 q v : Nat} {sl : List (Nat × Nat)} {z : Int} (hF : gF M.1.cls i ci k0 .int) (hc : lay[q]? = some (.inl (ci, sl))) (hk : sl[k0]? = some (0, v)) (d : decode M.2.1 pc = .ok (.putfield i, 3)) (k : Z (upS S v 0 z) L (pc + 3) st) : Z S L pc (iV z :: .ref (gad E q) :: st) := by
  obtain ⟨p, e, R, s, m, args, below, meth, c, A, H0, cells, slots, Q, rfl, hx, hb, hml, hown, hts, hK, hA, ho, hR, -, -, -, -⟩ := hZ
  intro H locs ls hP hD hS hl
  obtain ⟨C, T, N, ty0, h1, h2, h3, h4, h5, h6, h7, h8⟩ := hF
  have hfin : (T k0).2.2.2 = false := by rcases h8 with h8 | h8 <;> first | exact h8 | exact absurd rfl h8.1 | exact absurd rfl h8.2
  refine va_put (D := E.2.1) (ci := ci) (v := iV z) (ty := .int) (C := C) (T := T) (N := N) hx hb hts h4 ty0 h5 h6 hown hK hP hD hS q (g_wl_get hc) h1 k0 h2 (hts _ h3) (fun _ h9 => h9) hfin (by rw [h5 k0 h2, h7]) rfl rfl (by rw [List.length_map]; exact (List.getElem?_eq_some_iff.mp hk).1) d (fun H1 locs1 hP1 hD1 hS1 => ?_)
  have e := g_wl_set (E := E) (S := S) (z := z) (j := 0) ho hc (g_mem_f hk (by omega)) (g_el_f (x := iV z) ho hc hk (by omega) (by show iV (upS S v 0 z v 0) = iV z; rw [upS_eq]))
  exact k H1 locs1 ls (by rw [← e]; exact hP1) (g_D hD) hS1 hl

theorem g_getj (hZ : Cx Z E lay M Rt) {i ci k0 q v : Nat} {sl : List (Nat × Nat)} {ty : FieldType} {z : Int} (hF : gF M.1.cls i ci k0 ty) (hc : lay[q]? = some (.inl (ci, sl))) (hk : sl[k0]? = some (1, v)) (d : decode M.2.1 pc = .ok (.getfield i, 3)) (hz : S v 0 = z) (k : Z S L (pc + 3) (jV z :: st)) : Z S L pc (.ref (gad E q) :: st) := by
  obtain ⟨p, e, R, s, m, args, below, meth, c, A, H0, cells, slots, Q, rfl, hx, hb, hml, hown, hts, hK, hA, ho, hR, -, -, -, -⟩ := hZ
  intro H locs ls hP hD hS hl
  obtain ⟨C, T, N, ty0, h1, h2, h3, h4, h5, h6, h7, -⟩ := hF
  subst hz
  exact va_get (D := E.2.1) (ci := ci) (v := jV (S v 0)) (C := C) (T := T) (N := N) hx hb hts h4 hown hK hP q (g_wl_get hc) h1 k0 h2 (hts _ h3) (fun _ h9 => h9) (by rw [List.getElem?_map, hk]; rfl) d (k H locs ls hP hD hS hl)
theorem g_putj (hZ : Cx Z E lay M Rt) {i ci k0 q v : Nat} {sl : List (Nat × Nat)} {z : Int} (hF : gF M.1.cls i ci k0 .long) (hc : lay[q]? = some (.inl (ci, sl))) (hk : sl[k0]? = some (1, v)) (d : decode M.2.1 pc = .ok (.putfield i, 3)) (k : Z (upS S v 0 z) L (pc + 3) st) : Z S L pc (jV z :: .ref (gad E q) :: st) := by
  obtain ⟨p, e, R, s, m, args, below, meth, c, A, H0, cells, slots, Q, rfl, hx, hb, hml, hown, hts, hK, hA, ho, hR, -, -, -, -⟩ := hZ
  intro H locs ls hP hD hS hl
  obtain ⟨C, T, N, ty0, h1, h2, h3, h4, h5, h6, h7, h8⟩ := hF
  have hfin : (T k0).2.2.2 = false := by rcases h8 with h8 | h8 <;> first | exact h8 | exact absurd rfl h8.1 | exact absurd rfl h8.2
  refine va_put (D := E.2.1) (ci := ci) (v := jV z) (ty := .long) (C := C) (T := T) (N := N) hx hb hts h4 ty0 h5 h6 hown hK hP hD hS q (g_wl_get hc) h1 k0 h2 (hts _ h3) (fun _ h9 => h9) hfin (by rw [h5 k0 h2, h7]) rfl rfl (by rw [List.length_map]; exact (List.getElem?_eq_some_iff.mp hk).1) d (fun H1 locs1 hP1 hD1 hS1 => ?_)
  have e := g_wl_set (E := E) (S := S) (z := z) (j := 0) ho hc (g_mem_f hk (by omega)) (g_el_f (x := jV z) ho hc hk (by omega) (by show jV (upS S v 0 z v 0) = jV z; rw [upS_eq]))
  exact k H1 locs1 ls (by rw [← e]; exact hP1) (g_D hD) hS1 hl

theorem g_getr (hZ : Cx Z E lay M Rt) {i ci k0 q q2 : Nat} {sl : List (Nat × Nat)} {ty : FieldType} (hF : gF M.1.cls i ci k0 ty) (hc : lay[q]? = some (.inl (ci, sl))) (hk : sl[k0]? = some (2, q2)) (d : decode M.2.1 pc = .ok (.getfield i, 3)) (k : Z S L (pc + 3) (.ref (gad E q2) :: st)) : Z S L pc (.ref (gad E q) :: st) := by
  obtain ⟨p, e, R, s, m, args, below, meth, c, A, H0, cells, slots, Q, rfl, hx, hb, hml, hown, hts, hK, hA, ho, hR, -, -, -, -⟩ := hZ
  intro H locs ls hP hD hS hl
  obtain ⟨C, T, N, ty0, h1, h2, h3, h4, h5, h6, h7, -⟩ := hF
  exact va_get (D := E.2.1) (ci := ci) (v := .ref (gad E q2)) (C := C) (T := T) (N := N) hx hb hts h4 hown hK hP q (g_wl_get hc) h1 k0 h2 (hts _ h3) (fun _ h9 => h9) (by rw [List.getElem?_map, hk]; rfl) d (k H locs ls hP hD hS hl)

theorem g_iald (hZ : Cx Z E lay M Rt) {q n v : Nat} {i z : Int} (k0 : Nat) (hc : lay[q]? = some (.inr (0, n, v))) (d : decode M.2.1 pc = .ok (.iaload, 1)) (hi : i = (k0 : Int)) (hn : k0 < n) (hn2 : n < 2147483648) (hz : S v k0 = z) (k : Z S L (pc + 1) (iV z :: st)) : Z S L pc (iV i :: .ref (gad E q) :: st) := by
  obtain ⟨p, e, R, s, m, args, below, meth, c, A, H0, cells, slots, Q, rfl, hx, hb, hml, hown, hts, hK, hA, ho, hR, -, -, -, -⟩ := hZ
  intro H locs ls hP hD hS hl
  subst hi; subst hz
  have kk := k H locs ls hP hD hS hl
  refine va_iald hx hb hK hP q 0 (g_wl_get hc) rfl (gi_in hn hn2) d ?_
  rw [gi_cl (by omega)]
  exact kk

theorem g_zald (hZ : Cx Z E lay M Rt) {q n v : Nat} {i z : Int} (k0 : Nat) (hc : lay[q]? = some (.inr (2, n, v))) (d : decode M.2.1 pc = .ok (.baload, 1)) (hi : i = (k0 : Int)) (hn : k0 < n) (hn2 : n < 2147483648) (hz : S v k0 = z) (k : Z S L (pc + 1) (iV z :: st)) : Z S L pc (iV i :: .ref (gad E q) :: st) := by
  obtain ⟨p, e, R, s, m, args, below, meth, c, A, H0, cells, slots, Q, rfl, hx, hb, hml, hown, hts, hK, hA, ho, hR, -, -, -, -⟩ := hZ
  intro H locs ls hP hD hS hl
  subst hi; subst hz
  have kk := k H locs ls hP hD hS hl
  refine va_zald hx hb hK hP q 2 (g_wl_get hc) rfl (gi_in hn hn2) d ?_
  rw [gi_cl (by omega)]
  exact kk

theorem g_cald (hZ : Cx Z E lay M Rt) {q n v : Nat} {i z : Int} (k0 : Nat) (hc : lay[q]? = some (.inr (3, n, v))) (d : decode M.2.1 pc = .ok (.caload, 1)) (hi : i = (k0 : Int)) (hn : k0 < n) (hn2 : n < 2147483648) (hz : S v k0 = z) (k : Z S L (pc + 1) (iV z :: st)) : Z S L pc (iV i :: .ref (gad E q) :: st) := by
  obtain ⟨p, e, R, s, m, args, below, meth, c, A, H0, cells, slots, Q, rfl, hx, hb, hml, hown, hts, hK, hA, ho, hR, -, -, -, -⟩ := hZ
  intro H locs ls hP hD hS hl
  subst hi; subst hz
  have kk := k H locs ls hP hD hS hl
  refine va_cald hx hb hK hP q 3 (g_wl_get hc) rfl (gi_in hn hn2) d ?_
  rw [gi_cl (by omega)]
  exact kk

theorem g_lald (hZ : Cx Z E lay M Rt) {q n v : Nat} {i z : Int} (k0 : Nat) (hc : lay[q]? = some (.inr (1, n, v))) (d : decode M.2.1 pc = .ok (.laload, 1)) (hi : i = (k0 : Int)) (hn : k0 < n) (hn2 : n < 2147483648) (hz : S v k0 = z) (k : Z S L (pc + 1) (jV z :: st)) : Z S L pc (iV i :: .ref (gad E q) :: st) := by
  obtain ⟨p, e, R, s, m, args, below, meth, c, A, H0, cells, slots, Q, rfl, hx, hb, hml, hown, hts, hK, hA, ho, hR, -, -, -, -⟩ := hZ
  intro H locs ls hP hD hS hl
  subst hi; subst hz
  have kk := k H locs ls hP hD hS hl
  refine va_lald hx hb hK hP q 1 (g_wl_get hc) rfl (gi_in hn hn2) d ?_
  rw [gi_cl (by omega)]
  exact kk

theorem g_iast (hZ : Cx Z E lay M Rt) {q n v : Nat} {i z : Int} (k0 : Nat) (hc : lay[q]? = some (.inr (0, n, v))) (d : decode M.2.1 pc = .ok (.iastore, 1)) (hi : i = (k0 : Int)) (hn : k0 < n) (hn2 : n < 2147483648) (k : Z (upS S v k0 z) L (pc + 1) st) : Z S L pc (iV z :: iV i :: .ref (gad E q) :: st) := by
  obtain ⟨p, e, R, s, m, args, below, meth, c, A, H0, cells, slots, Q, rfl, hx, hb, hml, hown, hts, hK, hA, ho, hR, -, -, -, -⟩ := hZ
  intro H locs ls hP hD hS hl
  subst hi
  refine va_iast hx hb hK hP hD hS q 0 (g_wl_get hc) rfl (gi_in hn hn2) d (fun H1 locs1 hP1 hD1 hS1 => ?_)
  rw [gi_cl (by omega)] at hP1
  have e := g_wl_set (E := E) (S := S) (z := z) (j := k0) ho hc (show v ∈ [v] from List.mem_singleton.mpr rfl) (g_el_a rfl)
  exact k H1 locs1 ls (by rw [← e]; exact hP1) (g_D hD) hS1 hl

theorem g_zast (hZ : Cx Z E lay M Rt) {q n v : Nat} {i z : Int} (k0 : Nat) (hc : lay[q]? = some (.inr (2, n, v))) (d : decode M.2.1 pc = .ok (.bastore, 1)) (hi : i = (k0 : Int)) (hn : k0 < n) (hn2 : n < 2147483648) (hnar : vp_nar .boolean (Int32.ofInt z) = Int32.ofInt z) (k : Z (upS S v k0 z) L (pc + 1) st) : Z S L pc (iV z :: iV i :: .ref (gad E q) :: st) := by
  obtain ⟨p, e, R, s, m, args, below, meth, c, A, H0, cells, slots, Q, rfl, hx, hb, hml, hown, hts, hK, hA, ho, hR, -, -, -, -⟩ := hZ
  intro H locs ls hP hD hS hl
  subst hi
  refine va_zast hx hb hK hP hD hS q 2 (g_wl_get hc) rfl (gi_in hn hn2) d (fun H1 locs1 hP1 hD1 hS1 => ?_)
  rw [hnar] at hP1
  rw [gi_cl (by omega)] at hP1
  have e := g_wl_set (E := E) (S := S) (z := z) (j := k0) ho hc (show v ∈ [v] from List.mem_singleton.mpr rfl) (g_el_a rfl)
  exact k H1 locs1 ls (by rw [← e]; exact hP1) (g_D hD) hS1 hl

theorem g_cast (hZ : Cx Z E lay M Rt) {q n v : Nat} {i z : Int} (k0 : Nat) (hc : lay[q]? = some (.inr (3, n, v))) (d : decode M.2.1 pc = .ok (.castore, 1)) (hi : i = (k0 : Int)) (hn : k0 < n) (hn2 : n < 2147483648) (hnar : vp_nar .char (Int32.ofInt z) = Int32.ofInt z) (k : Z (upS S v k0 z) L (pc + 1) st) : Z S L pc (iV z :: iV i :: .ref (gad E q) :: st) := by
  obtain ⟨p, e, R, s, m, args, below, meth, c, A, H0, cells, slots, Q, rfl, hx, hb, hml, hown, hts, hK, hA, ho, hR, -, -, -, -⟩ := hZ
  intro H locs ls hP hD hS hl
  subst hi
  refine va_cast hx hb hK hP hD hS q 3 (g_wl_get hc) rfl (gi_in hn hn2) d (fun H1 locs1 hP1 hD1 hS1 => ?_)
  rw [hnar] at hP1
  rw [gi_cl (by omega)] at hP1
  have e := g_wl_set (E := E) (S := S) (z := z) (j := k0) ho hc (show v ∈ [v] from List.mem_singleton.mpr rfl) (g_el_a rfl)
  exact k H1 locs1 ls (by rw [← e]; exact hP1) (g_D hD) hS1 hl

theorem g_last (hZ : Cx Z E lay M Rt) {q n v : Nat} {i z : Int} (k0 : Nat) (hc : lay[q]? = some (.inr (1, n, v))) (d : decode M.2.1 pc = .ok (.lastore, 1)) (hi : i = (k0 : Int)) (hn : k0 < n) (hn2 : n < 2147483648) (k : Z (upS S v k0 z) L (pc + 1) st) : Z S L pc (jV z :: iV i :: .ref (gad E q) :: st) := by
  obtain ⟨p, e, R, s, m, args, below, meth, c, A, H0, cells, slots, Q, rfl, hx, hb, hml, hown, hts, hK, hA, ho, hR, -, -, -, -⟩ := hZ
  intro H locs ls hP hD hS hl
  subst hi
  refine va_last hx hb hK hP hD hS q 1 (g_wl_get hc) rfl (gi_in hn hn2) d (fun H1 locs1 hP1 hD1 hS1 => ?_)
  rw [gi_cl (by omega)] at hP1
  have e := g_wl_set (E := E) (S := S) (z := z) (j := k0) ho hc (show v ∈ [v] from List.mem_singleton.mpr rfl) g_el_l
  exact k H1 locs1 ls (by rw [← e]; exact hP1) (g_D hD) hS1 hl

theorem g_iret (hZ : Cx Z E lay M Rt) {z : Int} (d : decode M.2.1 pc = .ok (.ireturn, 1)) (hr : M.2.2.2.1 = some .int) (h : Rt (some (iV z)) S) : Z S L pc [iV z] := by
  obtain ⟨p, e, R, s, m, args, below, meth, c, A, H0, cells, slots, Q, -, hx, hb, hml, hown, hts, hK, hA, ho, hR, h1, -, -, -⟩ := hZ
  exact h1 pc S L z d (Or.inl hr) h
theorem g_zret (hZ : Cx Z E lay M Rt) {z : Int} (d : decode M.2.1 pc = .ok (.ireturn, 1)) (hr : M.2.2.2.1 = some .boolean) (hz : z = 0 ∨ z = 1) (h : Rt (some (iV z)) S) : Z S L pc [iV z] := by
  obtain ⟨p, e, R, s, m, args, below, meth, c, A, H0, cells, slots, Q, -, hx, hb, hml, hown, hts, hK, hA, ho, hR, h1, -, -, -⟩ := hZ
  exact h1 pc S L z d (Or.inr ⟨_, hr, by rcases hz with rfl | rfl <;> rfl⟩) h
theorem g_nret (hZ : Cx Z E lay M Rt) {z : Int} {ty : FieldType} (d : decode M.2.1 pc = .ok (.ireturn, 1)) (hr : M.2.2.2.1 = some ty) (hz : narrow ty (.int (Int32.ofInt z)) = .int (Int32.ofInt z)) (h : Rt (some (iV z)) S) : Z S L pc [iV z] := by
  obtain ⟨p, e, R, s, m, args, below, meth, c, A, H0, cells, slots, Q, -, hx, hb, hml, hown, hts, hK, hA, ho, hR, h1, -, -, -⟩ := hZ
  exact h1 pc S L z d (Or.inr ⟨ty, hr, hz⟩) h
theorem g_lret (hZ : Cx Z E lay M Rt) {z : Int} (d : decode M.2.1 pc = .ok (.lreturn, 1)) (hr : M.2.2.2.1 = some .long) (h : Rt (some (jV z)) S) : Z S L pc [jV z] := by
  obtain ⟨p, e, R, s, m, args, below, meth, c, A, H0, cells, slots, Q, -, hx, hb, hml, hown, hts, hK, hA, ho, hR, -, h1, -, -⟩ := hZ
  exact h1 pc S L z d hr h
theorem g_vret (hZ : Cx Z E lay M Rt) (d : decode M.2.1 pc = .ok (.return_, 1)) (hr : M.2.2.2.1 = none) (h : Rt none S) : Z S L pc [] := by
  obtain ⟨p, e, R, s, m, args, below, meth, c, A, H0, cells, slots, Q, -, hx, hb, hml, hown, hts, hK, hA, ho, hR, -, -, h1, -⟩ := hZ
  exact h1 pc S L d hr h
theorem g_aret (hZ : Cx Z E lay M Rt) {a : Nat} {n : String} (d : decode M.2.1 pc = .ok (.areturn, 1)) (hr : M.2.2.2.1 = some (.object n)) (h : Rt (some (.ref a)) S) : Z S L pc [.ref a] := by
  obtain ⟨p, e, R, s, m, args, below, meth, c, A, H0, cells, slots, Q, -, hx, hb, hml, hown, hts, hK, hA, ho, hR, -, -, -, h1, -⟩ := hZ
  exact h1 pc S L a d ⟨n, hr⟩ h

theorem g_good {M2 : gM} (h : Cond.code M2.1 M2.2.1 M2.2.2.1 M2.2.2.2.1 ∈ TS) : GoodIn TS (gws M2) := by
  intro w hw
  have hm : w ∈ TS := by
    rcases List.mem_cons.mp hw with e | h2
    · rw [e]; exact h
    · exact h2
  exact ⟨hm, good_of_word (List.all_eq_true.mp TS_good w hm)⟩
/-- a call's words: virtual, static -/
def gV (own : String) (i : Nat) (M2 : gM) (n : Nat) : Prop := Cond.code M2.1 M2.2.1 M2.2.2.1 M2.2.2.2.1 ∈ TS ∧ Cond.initialized M2.1.cls ∈ TS ∧ Cond.methodLink own i M2.1 ∈ TS ∧ Cond.instanceMethod M2.1 ∈ TS ∧ Cond.selects M2.1.cls M2.1 M2.1 ∈ TS ∧ (M2.1.cls ≠ "java/lang/invoke/MethodHandle" ∧ M2.1.cls ≠ "java/lang/invoke/VarHandle" ∧ (parseMethodDescriptor M2.1.desc).map (fun d => d.parameters.length) = some n)
def gSt (own : String) (i : Nat) (M2 : gM) (n : Nat) : Prop := Cond.code M2.1 M2.2.1 M2.2.2.1 M2.2.2.2.1 ∈ TS ∧ Cond.initialized M2.1.cls ∈ TS ∧ Cond.methodLink own i M2.1 ∈ TS ∧ Cond.static M2.1 ∈ TS ∧ (M2.1.cls ≠ "java/lang/invoke/MethodHandle" ∧ M2.1.cls ≠ "java/lang/invoke/VarHandle" ∧ (parseMethodDescriptor M2.1.desc).map (fun d => d.parameters.length) = some n)

theorem g_callV (hZ : Cx Z E lay M Rt) {M2 : gM} {i n q ci : Nat} {sl : List (Nat × Nat)} {T : u_T} {N : Nat} {As st0 : List Value} {Post : Option Value → gS → Prop} (hM : Ct E lay M2 (.ref (gad E q) :: As) S Post) (hw : gV M.1.cls i M2 n) (hR2 : M2.2.2.2.2.1 + 1 ≤ M.2.2.2.2.1 ∧ 8 + (M2.2.2.1 + 11) + M2.2.2.2.2.2 ≤ M.2.2.2.2.2) (hc : lay[q]? = some (.inl (ci, sl))) (hcl : gcl[ci]? = some (M2.1.cls, T, N)) (hn : As.length = n) (hst : st0 = As.reverse ++ .ref (gad E q) :: st) (hcat : (st.map fun v => v.category).sum ≤ 8) (d : decode M.2.1 pc = .ok (.invokevirtual i, 3))
    (kk : ∀ (v : Option Value) (S' : gS), Post v S' → Z S' L (pc + 3) (v.toList ++ st)) : Z S L pc st0 := by
  obtain ⟨p, e, R, s, m, args, below, meth, c, A, H0, cells, slots, Q, rfl, hx, hb, hml, hown, hts, hK, hA, ho, hR, -, -, -, -, -, hStr⟩ := hZ
  intro H locs ls hP hD hS hl
  obtain ⟨w1, w2, w3, w4, w5, w6⟩ := hw
  have cb : CallW R s args M.1.cls M2.1.cls i M2.1 M2.2.1 M2.2.2.1 M2.2.2.2.1 (gws M2) (gRm M2) 0 0 n := ⟨callB_of n hts (g_good w1) rfl rfl rfl (hts _ w2) (hts _ w3) w6 ⟨by rw [hR.1]; exact hR2.1, by rw [hR.2.1]; exact hR2.2⟩, hts _ w4, hts _ w5⟩
  have run := va_runV (p := p) (l := E.1) (e := e) (R := R) (below := below) (meth := meth) (H := H) (locs := locs) (cells := cells) (slots := slots) ⟨hx, hb, hml, hown, hts⟩ (hM H.size) cb ⟨g_blind, va_recv hK hP hcl (g_wl_get hc), fun U hU hW => ⟨rfl, by rw [hU], by rw [hU]; exact hP, va_K.moved hW.alike hK, hD.weaken (fun _ _ _ _ => trivial), by rw [hU]; exact ((hStr.kept hS.2.1).narrow (g_A_of (sz := H.size) hD (fun q hq => hA q (Nat.le_trans hS.1 hq)))).warm hW⟩⟩ (g := F0 m pc ls st0) (rest := st) rfl hn hl.1 hst (lv_room hcat) d ⟨hR.2.2.1, hR.2.2.2⟩
  intro T hT X
  obtain ⟨v, st₀, t, T', L1, h0, X', hL, e1, e2, ⟨⟨v2, S', hv, hp, hP1⟩, hz, hk⟩, stp⟩ := run T hT X
  cases hv
  rw [h0] at hz hk
  have hAA := g_A_of (sz := H.size) hD (fun q hq => hA q (Nat.le_trans hS.1 hq))
  obtain ⟨t2, a1, b1⟩ := kk v S' hp T'.heap (locs ++ L1) ls (by rw [e1]; exact hP1) (g_D hD)
    ⟨Nat.le_trans hS.1 (by rw [e1]; exact hz), fun q h1 h2 => by rw [e1, hk q (Nat.lt_of_lt_of_le h1 hS.1) (fun z => h2 (hAA q z))]; exact hS.2.1 q h1 h2, fun q hq => by
      rcases List.mem_append.mp hq with h | h
      · exact hS.2.2 q h
      · exact hAA _ (hL q h)⟩ hl T' rfl X'
  exact ⟨t2, stp t2 a1, b1⟩
theorem g_callS (hZ : Cx Z E lay M Rt) {M2 : gM} {i n : Nat} {As st0 : List Value} {Post : Option Value → gS → Prop} (hM : Ct E lay M2 As S Post) (hw : gSt M.1.cls i M2 n) (hR2 : M2.2.2.2.2.1 + 1 ≤ M.2.2.2.2.1 ∧ 8 + (M2.2.2.1 + 11) + M2.2.2.2.2.2 ≤ M.2.2.2.2.2) (hn : As.length = n) (hst : st0 = As.reverse ++ st) (hcat : (st.map fun v => v.category).sum ≤ 8) (d : decode M.2.1 pc = .ok (.invokestatic i, 3))
    (kk : ∀ (v : Option Value) (S' : gS), Post v S' → Z S' L (pc + 3) (v.toList ++ st)) : Z S L pc st0 := by
  obtain ⟨p, e, R, s, m, args, below, meth, c, A, H0, cells, slots, Q, rfl, hx, hb, hml, hown, hts, hK, hA, ho, hR, -, -, -, -, -, hStr⟩ := hZ
  intro H locs ls hP hD hS hl
  obtain ⟨w1, w2, w3, w4, w6⟩ := hw
  have cb : CallB R s args M.1.cls i M2.1 M2.2.1 M2.2.2.1 M2.2.2.2.1 (gws M2) (gRm M2) 0 0 n ∧ (Cond.static M2.1).before args s = true := ⟨callB_of n hts (g_good w1) rfl rfl rfl (hts _ w2) (hts _ w3) w6 ⟨by rw [hR.1]; exact hR2.1, by rw [hR.2.1]; exact hR2.2⟩, hts _ w4⟩
  have run := va_runS (p := p) (l := E.1) (e := e) (R := R) (below := below) (meth := meth) (H := H) (locs := locs) (cells := cells) (slots := slots) ⟨hx, hb, hml, hown, hts⟩ (hM H.size) cb ⟨g_blind, fun U hU hW => ⟨rfl, by rw [hU], by rw [hU]; exact hP, va_K.moved hW.alike hK, hD.weaken (fun _ _ _ _ => trivial), by rw [hU]; exact ((hStr.kept hS.2.1).narrow (g_A_of (sz := H.size) hD (fun q hq => hA q (Nat.le_trans hS.1 hq)))).warm hW⟩⟩ (g := F0 m pc ls st0) (rest := st) rfl hn hl.1 hst (lv_room hcat) d ⟨hR.2.2.1, hR.2.2.2⟩
  intro T hT X
  obtain ⟨v, st₀, t, T', L1, h0, X', hL, e1, e2, ⟨⟨v2, S', hv, hp, hP1⟩, hz, hk⟩, stp⟩ := run T hT X
  cases hv
  rw [h0] at hz hk
  have hAA := g_A_of (sz := H.size) hD (fun q hq => hA q (Nat.le_trans hS.1 hq))
  obtain ⟨t2, a1, b1⟩ := kk v S' hp T'.heap (locs ++ L1) ls (by rw [e1]; exact hP1) (g_D hD)
    ⟨Nat.le_trans hS.1 (by rw [e1]; exact hz), fun q h1 h2 => by rw [e1, hk q (Nat.lt_of_lt_of_le h1 hS.1) (fun z => h2 (hAA q z))]; exact hS.2.1 q h1 h2, fun q hq => by
      rcases List.mem_append.mp hq with h | h
      · exact hS.2.2 q h
      · exact hAA _ (hL q h)⟩ hl T' rfl X'
  exact ⟨t2, stp t2 a1, b1⟩
end GRULES
/-- a contract out of the walk of the body -/
theorem Ct.intro {E : gE} {lay : List gC} {M : gM} {av : List Value} {S : gS} {Post : Option Value → gS → Prop} {L : List (Nat × Value)} (hlay : g_okb lay = true) (hy : plainName M.1.cls = true) (hlen : (lg_sl av).length ≤ M.2.2.1) (hL : lv_args 0 av = L)
    (body : ∀ Z : gS → List (Nat × Value) → Nat → List Value → Prop, Cx Z E lay M Post → Z S L 0 []) : Ct E lay M av S Post := by
  intro sz
  refine Met.ofW (cc := M.2.1) (maxL := M.2.2.1) (ret := M.2.2.2.1) hy rfl ?_
  intro p e s m args below meth c s₁ B hml hv
  obtain ⟨rfl, hsz, hP, hK, hD0, hStr⟩ := hv
  have hts0 := atoms_spec (ws := gws M) B.pre
  have hts : ∀ w ∈ TS, w.before av.toArray s = true := fun w h => hts0 w (List.mem_cons_of_mem _ h)
  have hown : s.vm.findClass M.1.cls = some m.cls := findClass_of_methodNamed B.named
  have hlocks := B.notSynchronized
  have hx := B.exec
  have hb := B.bytes
  have hr := B.returns
  subst hsz
  have hl := lv_entry av (n := M.2.2.1) hlen
  rw [lg_entry_eq]
  generalize (lg_sl av ++ List.replicate (M.2.2.1 - (lg_sl av).length) Slot.unset).toArray = ls at hl ⊢
  rw [hL] at hl
  have hD : va_D (g_A E lay s.heap.size) (g_wl E S lay) := hD0.weaken (fun k q hk _ => g_A_in hk)
  refine body _ ⟨p, e, gRm M, s, m, av.toArray, below, meth, c, g_A E lay s.heap.size, s.heap, 0, 0, _, rfl, hx, hb, hml, hown, hts, hK, fun q h => Or.inr h, g_ok_of hlay, ⟨rfl, rfl, Nat.le_refl 0, Nat.le_refl 0⟩, ?_, ?_, ?_, ?_, rfl, hStr⟩ s.heap [] ls hP hD va_S.rf hl
  · intro pc S' L' z d hret hpost H locs ls' hP' hD' hS' hl'
    rcases hret with hret | ⟨ty, hret, hz⟩
    · exact W.iret (v := Int32.ofInt z) hx hb (hr.trans hret) (fun t ht hW => ⟨⟨_, S', rfl, hpost, by rw [ht]; exact hP'⟩, hS'.F ht⟩) hS'.2.2 d
    · exact W.zret (v := Int32.ofInt z) (ty := ty) hx hb (hr.trans hret) hz (fun t ht hW => ⟨⟨_, S', rfl, hpost, by rw [ht]; exact hP'⟩, hS'.F ht⟩) hS'.2.2 d
  · intro pc S' L' z d hret hpost H locs ls' hP' hD' hS' hl'
    exact W.lret (v := Int64.ofInt z) hx hb (hr.trans hret) (fun t ht hW => ⟨⟨_, S', rfl, hpost, by rw [ht]; exact hP'⟩, hS'.F ht⟩) hS'.2.2 d
  · intro pc S' L' d hret hpost H locs ls' hP' hD' hS' hl'
    exact W.vret hx hb (hr.trans hret) (fun t ht hW => ⟨⟨_, S', rfl, hpost, by rw [ht]; exact hP'⟩, hS'.F ht⟩) hS'.2.2 d
  · intro pc S' L' a d hret hpost H locs ls' hP' hD' hS' hl'
    obtain ⟨n, hret⟩ := hret
    exact W.aret (v := .ref a) hx hb (hr.trans hret) (Or.inl ⟨n, rfl⟩) (Or.inr ⟨a, rfl⟩) (fun t ht hW => ⟨⟨_, S', rfl, hpost, by rw [ht]; exact hP'⟩, hS'.F ht⟩) hS'.2.2 d
theorem Ct.mono {E : gE} {lay : List gC} {M : gM} {av : List Value} {S : gS} {P1 P2 : Option Value → gS → Prop} (h : Ct E lay M av S P1) (hp : ∀ v S', P1 v S' → P2 v S') : Ct E lay M av S P2 := by
  intro sz
  have h1 := h sz
  intro p e a b c s m args below f1 f2 f3 f4
  obtain ⟨n, o, q1, q2, q3, ⟨⟨v, S', e1, e2, e3⟩, q5⟩, q6⟩ := h1 p e a b c s m args below f1 f2 f3 f4
  exact ⟨n, o, q1, q2, q3, ⟨⟨v, S', e1, hp v S' e2, e3⟩, q5⟩, q6⟩
