/-! THE CLAIM OUT OF ONE WALK OF THE LAW'S BODY. Your part is whole_start (and what it stands on); all else here is the same for every law, but numbers. -/
def R_law : String := "BurningFieldsLaw"
def lw_P (b : Addr) (xs : List Int32) (args : Array Value) (s : State) : Prop := args = #[.ref b] ∧ s.IntsAt b xs ∧ xs.length ≤ 260 ∧ (Jvm.Cond.and given_1 narrow_1).before args s = true
def lw_Q (_ : Array Value) (s : State) (o : Outcome) (t : State) : Prop := o = .returned (some (.int 1)) ∧ Framed s o t [] 27 18130
def lw_Z (below : List Frame) (a : Array Value) (s : State) : State → Prop := fun t => ∃ o, t.status = .running ∧ Ended t below o ∧ lw_Q a s o t
/-- the law's own end, with 1 on the stack, nothing written that was there before, its room as the claim has it -/
theorem lw_ret {p : Program} {l : Launch} {e : Env} {s : State} {m : MethodId} {below : List Frame} {meth : Method} {c : Code} {b : Nat} (hx : p.tables.exec = Jvm.exec) (hb : c.code = code) (hr : meth.sig.returnType = ret) (hlocks : meth.locks = false) {pc : Nat} {H : Heap} {ls : Array Slot} (hdg : decode code pc = .ok (.ireturn, 1)) : W p l e room_1 s m #[Value.ref b] below meth c H [] 27 18130 (lw_Z below #[Value.ref b] s) (F0 m pc ls [.int 1]) := by
  intro T hT X
  obtain ⟨fs, hret, hrun, hended, hW, hframe⟩ := X.leave (v := some (.int 1)) (hlocks := hlocks) (fun h => by rw [hr] at h; cases h)
  have hmeth' : T.vm.method? m = some meth := X.method'
  refine ⟨T.setFrames fs, ?_, .returned (some (.int 1)), hrun, hended, rfl, ⟨_, rfl⟩, hW, hframe⟩
  jvm_step X.here [X.here.top, hx, hb, hdg, hmeth', hr, ret, narrow_b1]
  (try refine ⟨rfl, ?_⟩); (try refine ⟨rfl, ?_⟩)
  first | (intro acts; rw [hret _ acts rfl rfl rfl]) | rw [hret _ _ rfl rfl rfl]
  exact Steps.refl _
/-- what holds at the law's entry: the machine, the code, the tables' words (any of lw_tbl by 'hts w (by decide +kernel)'), the script of L ints xs at the cell b, what the Statement gives of the start (any of its parts by flat_of_before) -/
def lw_At (p : Program) (s : State) (m : MethodId) (meth : Method) (c : Code) (b L : Nat) (xs : Nat → Int32) : Prop :=
  p.tables.exec = Jvm.exec ∧ c.code = code ∧ meth.sig.returnType = ret ∧ c.maxLocals = 7 ∧ s.vm.findClass R_law = some m.cls ∧ (∀ w ∈ lw_tbl, w.before #[Value.ref b] s = true) ∧ va_X b L xs s s.heap ∧ b < s.heap.size ∧ meth.locks = false ∧ (Jvm.Cond.and given_1 narrow_1).before #[Value.ref b] s = true
/-- the classes that the worlds need, and the four kinds of arrays -/
theorem law_K {args : Array Value} {s : State} (hts : ∀ w ∈ TS, w.before args s = true) : ∃ (dC : Nat → ClassId) (dI : Nat → Nat → Nat) (ac : Nat → ClassId), va_K (dC, dI) gcl [(ac 0, .int), (ac 1, .long), (ac 2, .boolean), (ac 3, .char)] s := by
  obtain ⟨c0, i0, k0⟩ := u_known (C := RX1) (T := TX1) (N := 5) (n := 5) hts wtX1 (hts _ (TS_in 47 (by decide +kernel) rfl))
  obtain ⟨c1, i1, k1⟩ := u_known (C := RX2) (T := TX2) (N := 4) (n := 4) hts wtX2 (hts _ (TS_in 165 (by decide +kernel) rfl))
  obtain ⟨c2, i2, k2⟩ := u_known (C := RX3) (T := TX3) (N := 3) (n := 3) hts wtX3 (hts _ (TS_in 78 (by decide +kernel) rfl))
  obtain ⟨c3, i3, k3⟩ := u_known (C := RX4) (T := TX4) (N := 8) (n := 8) hts wtX4 (hts _ (TS_in 96 (by decide +kernel) rfl))
  obtain ⟨c4, i4, k4⟩ := u_known (C := RX5) (T := TX5) (N := 2) (n := 2) hts wtX5 (hts _ (TS_in 130 (by decide +kernel) rfl))
  obtain ⟨c5, i5, k5⟩ := u_known (C := RX6) (T := TX6) (N := 4) (n := 4) hts wtX6 (hts _ (TS_in 188 (by decide +kernel) rfl))
  obtain ⟨c6, i6, k6⟩ := u_known (C := RX7) (T := TX7) (N := 4) (n := 4) hts wtX7 (hts _ (TS_in 145 (by decide +kernel) rfl))
  obtain ⟨c7, i7, k7⟩ := u_known (C := RX8) (T := TX8) (N := 9) (n := 9) hts wtX8 (hts _ (TS_in 39 (by decide +kernel) rfl))
  obtain ⟨a0, b0, p0, e0, f0, g0⟩ := Cond.arrayClass_spec (hts (.arrayClass .int) (TS_in 76 (by decide +kernel) rfl))
  obtain ⟨a1, b1, p1, e1, f1, g1⟩ := Cond.arrayClass_spec (hts (.arrayClass .long) (TS_in 127 (by decide +kernel) rfl))
  obtain ⟨a2, b2, p2, e2, f2, g2⟩ := Cond.arrayClass_spec (hts (.arrayClass .boolean) (TS_in 128 (by decide +kernel) rfl))
  obtain ⟨a3, b3, p3, e3, f3, g3⟩ := Cond.arrayClass_spec (hts (.arrayClass .char) (TS_in 209 (by decide +kernel) rfl))
  refine ⟨fun k => match k with | 0 => c0 | 1 => c1 | 2 => c2 | 3 => c3 | 4 => c4 | 5 => c5 | 6 => c6 | _ => c7, fun k => match k with | 0 => i0 | 1 => i1 | 2 => i2 | 3 => i3 | 4 => i4 | 5 => i5 | 6 => i6 | _ => i7, fun k => match k with | 0 => a0 | 1 => a1 | 2 => a2 | _ => a3, ?_, ?_⟩
  · intro c q hq
    match c, hq with
    | 0, hq => cases hq; exact k0
    | 1, hq => cases hq; exact k1
    | 2, hq => cases hq; exact k2
    | 3, hq => cases hq; exact k3
    | 4, hq => cases hq; exact k4
    | 5, hq => cases hq; exact k5
    | 6, hq => cases hq; exact k6
    | 7, hq => cases hq; exact k7
    | k + 8, hq => simp [gcl] at hq
  · intro k q hq
    match k, hq with
    | 0, hq => cases hq; exact ⟨fun n z => ⟨fun k h => (by cases h), b0, f0, p0, g0⟩, e0⟩
    | 1, hq => cases hq; exact ⟨fun n z => ⟨fun k h => (by cases h), b1, f1, p1, g1⟩, e1⟩
    | 2, hq => cases hq; exact ⟨fun n z => ⟨fun k h => (by cases h), b2, f2, p2, g2⟩, e2⟩
    | 3, hq => cases hq; exact ⟨fun n z => ⟨fun k h => (by cases h), b3, f3, p3, g3⟩, e3⟩
    | k + 4, hq => simp at hq
/-- the six String constants, and the two statics, as the Statement gives them -/
theorem law_str {b : Nat} {s : State} (hts0 : ∀ w ∈ lw_tbl, w.before #[Value.ref b] s = true) (hgv : (Jvm.Cond.and given_1 narrow_1).before #[Value.ref b] s = true) : ∃ adK adV : Nat → Nat, vk_S 6 sLen sByt adK adV (fun q => s.heap.size ≤ q) s s.heap ∧ va_Z "java/lang/String" "COMPACT_STRINGS" "Z" (.int 1) (fun q => s.heap.size ≤ q) s s.heap ∧ va_Zq "jdk/internal/util/Preconditions" "SIOOBE_FORMATTER" "Ljava/util/function/BiFunction;" (fun q => s.heap.size ≤ q) s s.heap ∧ ∀ i : Nat, i < 6 → vk_R RX6 (66 + 2 * i) (sTx.getD i "") (adK i) s := by
  have hs := flat_of_before _ hgv
  have hA : ∀ a : Nat, a < s.heap.size → ¬ (fun q => s.heap.size ≤ q) a := fun a h => Nat.not_le.mpr h
  have h1 : ∀ i : Nat, i < 6 → (Cond.exactly (Term.string RX6 (66 + 2 * i)) "java/lang/String").before #[Value.ref b] s = true := fun i hi => by
    rcases (show i = 0 ∨ i = 1 ∨ i = 2 ∨ i = 3 ∨ i = 4 ∨ i = 5 by omega) with rfl | rfl | rfl | rfl | rfl | rfl
    · exact show (Cond.exactly (Term.string RX6 66) "java/lang/String").before #[Value.ref b] s = true from hs _ (by decide +kernel)
    · exact show (Cond.exactly (Term.string RX6 68) "java/lang/String").before #[Value.ref b] s = true from hs _ (by decide +kernel)
    · exact show (Cond.exactly (Term.string RX6 70) "java/lang/String").before #[Value.ref b] s = true from hs _ (by decide +kernel)
    · exact show (Cond.exactly (Term.string RX6 72) "java/lang/String").before #[Value.ref b] s = true from hs _ (by decide +kernel)
    · exact show (Cond.exactly (Term.string RX6 74) "java/lang/String").before #[Value.ref b] s = true from hs _ (by decide +kernel)
    · exact show (Cond.exactly (Term.string RX6 76) "java/lang/String").before #[Value.ref b] s = true from hs _ (by decide +kernel)
  have h2 : ∀ i : Nat, i < 6 → (Cond.eq (.field (Term.string RX6 (66 + 2 * i)) "java/lang/String" "coder" "B") (.int 0)).before #[Value.ref b] s = true := fun i hi => by
    rcases (show i = 0 ∨ i = 1 ∨ i = 2 ∨ i = 3 ∨ i = 4 ∨ i = 5 by omega) with rfl | rfl | rfl | rfl | rfl | rfl
    · exact show (Cond.eq (.field (Term.string RX6 66) "java/lang/String" "coder" "B") (.int 0)).before #[Value.ref b] s = true from hs _ (by decide +kernel)
    · exact show (Cond.eq (.field (Term.string RX6 68) "java/lang/String" "coder" "B") (.int 0)).before #[Value.ref b] s = true from hs _ (by decide +kernel)
    · exact show (Cond.eq (.field (Term.string RX6 70) "java/lang/String" "coder" "B") (.int 0)).before #[Value.ref b] s = true from hs _ (by decide +kernel)
    · exact show (Cond.eq (.field (Term.string RX6 72) "java/lang/String" "coder" "B") (.int 0)).before #[Value.ref b] s = true from hs _ (by decide +kernel)
    · exact show (Cond.eq (.field (Term.string RX6 74) "java/lang/String" "coder" "B") (.int 0)).before #[Value.ref b] s = true from hs _ (by decide +kernel)
    · exact show (Cond.eq (.field (Term.string RX6 76) "java/lang/String" "coder" "B") (.int 0)).before #[Value.ref b] s = true from hs _ (by decide +kernel)
  have h3 : ∀ i : Nat, i < 6 → (Cond.arrayOf (.field (Term.string RX6 (66 + 2 * i)) "java/lang/String" "value" "[B") .byte).before #[Value.ref b] s = true := fun i hi => by
    rcases (show i = 0 ∨ i = 1 ∨ i = 2 ∨ i = 3 ∨ i = 4 ∨ i = 5 by omega) with rfl | rfl | rfl | rfl | rfl | rfl
    · exact show (Cond.arrayOf (Term.field (Term.string RX6 66) "java/lang/String" "value" "[B") .byte).before #[Value.ref b] s = true from hs _ (by decide +kernel)
    · exact show (Cond.arrayOf (Term.field (Term.string RX6 68) "java/lang/String" "value" "[B") .byte).before #[Value.ref b] s = true from hs _ (by decide +kernel)
    · exact show (Cond.arrayOf (Term.field (Term.string RX6 70) "java/lang/String" "value" "[B") .byte).before #[Value.ref b] s = true from hs _ (by decide +kernel)
    · exact show (Cond.arrayOf (Term.field (Term.string RX6 72) "java/lang/String" "value" "[B") .byte).before #[Value.ref b] s = true from hs _ (by decide +kernel)
    · exact show (Cond.arrayOf (Term.field (Term.string RX6 74) "java/lang/String" "value" "[B") .byte).before #[Value.ref b] s = true from hs _ (by decide +kernel)
    · exact show (Cond.arrayOf (Term.field (Term.string RX6 76) "java/lang/String" "value" "[B") .byte).before #[Value.ref b] s = true from hs _ (by decide +kernel)
  have h4 : ∀ i : Nat, i < 6 → (Cond.eq (.length (.field (Term.string RX6 (66 + 2 * i)) "java/lang/String" "value" "[B")) (.int (Int32.ofNat (sLen.getD i 0)))).before #[Value.ref b] s = true := fun i hi => by
    rcases (show i = 0 ∨ i = 1 ∨ i = 2 ∨ i = 3 ∨ i = 4 ∨ i = 5 by omega) with rfl | rfl | rfl | rfl | rfl | rfl
    · exact show (Cond.eq (.length (Term.field (Term.string RX6 66) "java/lang/String" "value" "[B")) (.int (Int32.ofNat (sLen.getD 0 0)))).before #[Value.ref b] s = true from hs _ (by decide +kernel)
    · exact show (Cond.eq (.length (Term.field (Term.string RX6 68) "java/lang/String" "value" "[B")) (.int (Int32.ofNat (sLen.getD 1 0)))).before #[Value.ref b] s = true from hs _ (by decide +kernel)
    · exact show (Cond.eq (.length (Term.field (Term.string RX6 70) "java/lang/String" "value" "[B")) (.int (Int32.ofNat (sLen.getD 2 0)))).before #[Value.ref b] s = true from hs _ (by decide +kernel)
    · exact show (Cond.eq (.length (Term.field (Term.string RX6 72) "java/lang/String" "value" "[B")) (.int (Int32.ofNat (sLen.getD 3 0)))).before #[Value.ref b] s = true from hs _ (by decide +kernel)
    · exact show (Cond.eq (.length (Term.field (Term.string RX6 74) "java/lang/String" "value" "[B")) (.int (Int32.ofNat (sLen.getD 4 0)))).before #[Value.ref b] s = true from hs _ (by decide +kernel)
    · exact show (Cond.eq (.length (Term.field (Term.string RX6 76) "java/lang/String" "value" "[B")) (.int (Int32.ofNat (sLen.getD 5 0)))).before #[Value.ref b] s = true from hs _ (by decide +kernel)
  have h5 : ∀ i : Nat, i < 6 → ∀ j : Nat, j < sLen.getD i 0 → (Cond.eq (.elem (.field (Term.string RX6 (66 + 2 * i)) "java/lang/String" "value" "[B") (.int (Int32.ofNat j))) (.int ((sByt.getD i []).getD j 0))).before #[Value.ref b] s = true := fun i hi j hj => by
    rcases (show i = 0 ∨ i = 1 ∨ i = 2 ∨ i = 3 ∨ i = 4 ∨ i = 5 by omega) with rfl | rfl | rfl | rfl | rfl | rfl
    · have hj : j < 4 := hj
      rcases (show j = 0 ∨ j = 1 ∨ j = 2 ∨ j = 3 by omega) with rfl | rfl | rfl | rfl
      · exact show (Cond.eq (.elem (Term.field (Term.string RX6 66) "java/lang/String" "value" "[B") (.int (Int32.ofNat 0))) (.int ((sByt.getD 0 []).getD 0 0))).before #[Value.ref b] s = true from hs _ (by decide +kernel)
      · exact show (Cond.eq (.elem (Term.field (Term.string RX6 66) "java/lang/String" "value" "[B") (.int (Int32.ofNat 1))) (.int ((sByt.getD 0 []).getD 1 0))).before #[Value.ref b] s = true from hs _ (by decide +kernel)
      · exact show (Cond.eq (.elem (Term.field (Term.string RX6 66) "java/lang/String" "value" "[B") (.int (Int32.ofNat 2))) (.int ((sByt.getD 0 []).getD 2 0))).before #[Value.ref b] s = true from hs _ (by decide +kernel)
      · exact show (Cond.eq (.elem (Term.field (Term.string RX6 66) "java/lang/String" "value" "[B") (.int (Int32.ofNat 3))) (.int ((sByt.getD 0 []).getD 3 0))).before #[Value.ref b] s = true from hs _ (by decide +kernel)
    · have hj : j < 4 := hj
      rcases (show j = 0 ∨ j = 1 ∨ j = 2 ∨ j = 3 by omega) with rfl | rfl | rfl | rfl
      · exact show (Cond.eq (.elem (Term.field (Term.string RX6 68) "java/lang/String" "value" "[B") (.int (Int32.ofNat 0))) (.int ((sByt.getD 1 []).getD 0 0))).before #[Value.ref b] s = true from hs _ (by decide +kernel)
      · exact show (Cond.eq (.elem (Term.field (Term.string RX6 68) "java/lang/String" "value" "[B") (.int (Int32.ofNat 1))) (.int ((sByt.getD 1 []).getD 1 0))).before #[Value.ref b] s = true from hs _ (by decide +kernel)
      · exact show (Cond.eq (.elem (Term.field (Term.string RX6 68) "java/lang/String" "value" "[B") (.int (Int32.ofNat 2))) (.int ((sByt.getD 1 []).getD 2 0))).before #[Value.ref b] s = true from hs _ (by decide +kernel)
      · exact show (Cond.eq (.elem (Term.field (Term.string RX6 68) "java/lang/String" "value" "[B") (.int (Int32.ofNat 3))) (.int ((sByt.getD 1 []).getD 3 0))).before #[Value.ref b] s = true from hs _ (by decide +kernel)
    · have hj : j < 5 := hj
      rcases (show j = 0 ∨ j = 1 ∨ j = 2 ∨ j = 3 ∨ j = 4 by omega) with rfl | rfl | rfl | rfl | rfl
      · exact show (Cond.eq (.elem (Term.field (Term.string RX6 70) "java/lang/String" "value" "[B") (.int (Int32.ofNat 0))) (.int ((sByt.getD 2 []).getD 0 0))).before #[Value.ref b] s = true from hs _ (by decide +kernel)
      · exact show (Cond.eq (.elem (Term.field (Term.string RX6 70) "java/lang/String" "value" "[B") (.int (Int32.ofNat 1))) (.int ((sByt.getD 2 []).getD 1 0))).before #[Value.ref b] s = true from hs _ (by decide +kernel)
      · exact show (Cond.eq (.elem (Term.field (Term.string RX6 70) "java/lang/String" "value" "[B") (.int (Int32.ofNat 2))) (.int ((sByt.getD 2 []).getD 2 0))).before #[Value.ref b] s = true from hs _ (by decide +kernel)
      · exact show (Cond.eq (.elem (Term.field (Term.string RX6 70) "java/lang/String" "value" "[B") (.int (Int32.ofNat 3))) (.int ((sByt.getD 2 []).getD 3 0))).before #[Value.ref b] s = true from hs _ (by decide +kernel)
      · exact show (Cond.eq (.elem (Term.field (Term.string RX6 70) "java/lang/String" "value" "[B") (.int (Int32.ofNat 4))) (.int ((sByt.getD 2 []).getD 4 0))).before #[Value.ref b] s = true from hs _ (by decide +kernel)
    · have hj : j < 4 := hj
      rcases (show j = 0 ∨ j = 1 ∨ j = 2 ∨ j = 3 by omega) with rfl | rfl | rfl | rfl
      · exact show (Cond.eq (.elem (Term.field (Term.string RX6 72) "java/lang/String" "value" "[B") (.int (Int32.ofNat 0))) (.int ((sByt.getD 3 []).getD 0 0))).before #[Value.ref b] s = true from hs _ (by decide +kernel)
      · exact show (Cond.eq (.elem (Term.field (Term.string RX6 72) "java/lang/String" "value" "[B") (.int (Int32.ofNat 1))) (.int ((sByt.getD 3 []).getD 1 0))).before #[Value.ref b] s = true from hs _ (by decide +kernel)
      · exact show (Cond.eq (.elem (Term.field (Term.string RX6 72) "java/lang/String" "value" "[B") (.int (Int32.ofNat 2))) (.int ((sByt.getD 3 []).getD 2 0))).before #[Value.ref b] s = true from hs _ (by decide +kernel)
      · exact show (Cond.eq (.elem (Term.field (Term.string RX6 72) "java/lang/String" "value" "[B") (.int (Int32.ofNat 3))) (.int ((sByt.getD 3 []).getD 3 0))).before #[Value.ref b] s = true from hs _ (by decide +kernel)
    · have hj : j < 4 := hj
      rcases (show j = 0 ∨ j = 1 ∨ j = 2 ∨ j = 3 by omega) with rfl | rfl | rfl | rfl
      · exact show (Cond.eq (.elem (Term.field (Term.string RX6 74) "java/lang/String" "value" "[B") (.int (Int32.ofNat 0))) (.int ((sByt.getD 4 []).getD 0 0))).before #[Value.ref b] s = true from hs _ (by decide +kernel)
      · exact show (Cond.eq (.elem (Term.field (Term.string RX6 74) "java/lang/String" "value" "[B") (.int (Int32.ofNat 1))) (.int ((sByt.getD 4 []).getD 1 0))).before #[Value.ref b] s = true from hs _ (by decide +kernel)
      · exact show (Cond.eq (.elem (Term.field (Term.string RX6 74) "java/lang/String" "value" "[B") (.int (Int32.ofNat 2))) (.int ((sByt.getD 4 []).getD 2 0))).before #[Value.ref b] s = true from hs _ (by decide +kernel)
      · exact show (Cond.eq (.elem (Term.field (Term.string RX6 74) "java/lang/String" "value" "[B") (.int (Int32.ofNat 3))) (.int ((sByt.getD 4 []).getD 3 0))).before #[Value.ref b] s = true from hs _ (by decide +kernel)
    · have hj : j < 4 := hj
      rcases (show j = 0 ∨ j = 1 ∨ j = 2 ∨ j = 3 by omega) with rfl | rfl | rfl | rfl
      · exact show (Cond.eq (.elem (Term.field (Term.string RX6 76) "java/lang/String" "value" "[B") (.int (Int32.ofNat 0))) (.int ((sByt.getD 5 []).getD 0 0))).before #[Value.ref b] s = true from hs _ (by decide +kernel)
      · exact show (Cond.eq (.elem (Term.field (Term.string RX6 76) "java/lang/String" "value" "[B") (.int (Int32.ofNat 1))) (.int ((sByt.getD 5 []).getD 1 0))).before #[Value.ref b] s = true from hs _ (by decide +kernel)
      · exact show (Cond.eq (.elem (Term.field (Term.string RX6 76) "java/lang/String" "value" "[B") (.int (Int32.ofNat 2))) (.int ((sByt.getD 5 []).getD 2 0))).before #[Value.ref b] s = true from hs _ (by decide +kernel)
      · exact show (Cond.eq (.elem (Term.field (Term.string RX6 76) "java/lang/String" "value" "[B") (.int (Int32.ofNat 3))) (.int ((sByt.getD 5 []).getD 3 0))).before #[Value.ref b] s = true from hs _ (by decide +kernel)
  have h6 : ∀ i j : Nat, i < 6 → j < 6 → i ≠ j → (Cond.not (Cond.eq (Term.string RX6 (66 + 2 * i)) (Term.string RX6 (66 + 2 * j)))).before #[Value.ref b] s = true ∨ (Cond.not (Cond.eq (Term.string RX6 (66 + 2 * j)) (Term.string RX6 (66 + 2 * i)))).before #[Value.ref b] s = true := fun i j hi hj hne => by
    rcases (show i = 0 ∨ i = 1 ∨ i = 2 ∨ i = 3 ∨ i = 4 ∨ i = 5 by omega) with rfl | rfl | rfl | rfl | rfl | rfl
    · rcases (show j = 0 ∨ j = 1 ∨ j = 2 ∨ j = 3 ∨ j = 4 ∨ j = 5 by omega) with rfl | rfl | rfl | rfl | rfl | rfl
      · exact absurd rfl hne
      · exact Or.inl (show (Cond.not (Cond.eq (Term.string RX6 66) (Term.string RX6 68))).before #[Value.ref b] s = true from hs _ (by decide +kernel))
      · exact Or.inl (show (Cond.not (Cond.eq (Term.string RX6 66) (Term.string RX6 70))).before #[Value.ref b] s = true from hs _ (by decide +kernel))
      · exact Or.inl (show (Cond.not (Cond.eq (Term.string RX6 66) (Term.string RX6 72))).before #[Value.ref b] s = true from hs _ (by decide +kernel))
      · exact Or.inl (show (Cond.not (Cond.eq (Term.string RX6 66) (Term.string RX6 74))).before #[Value.ref b] s = true from hs _ (by decide +kernel))
      · exact Or.inl (show (Cond.not (Cond.eq (Term.string RX6 66) (Term.string RX6 76))).before #[Value.ref b] s = true from hs _ (by decide +kernel))
    · rcases (show j = 0 ∨ j = 1 ∨ j = 2 ∨ j = 3 ∨ j = 4 ∨ j = 5 by omega) with rfl | rfl | rfl | rfl | rfl | rfl
      · exact Or.inr (show (Cond.not (Cond.eq (Term.string RX6 66) (Term.string RX6 68))).before #[Value.ref b] s = true from hs _ (by decide +kernel))
      · exact absurd rfl hne
      · exact Or.inl (show (Cond.not (Cond.eq (Term.string RX6 68) (Term.string RX6 70))).before #[Value.ref b] s = true from hs _ (by decide +kernel))
      · exact Or.inl (show (Cond.not (Cond.eq (Term.string RX6 68) (Term.string RX6 72))).before #[Value.ref b] s = true from hs _ (by decide +kernel))
      · exact Or.inl (show (Cond.not (Cond.eq (Term.string RX6 68) (Term.string RX6 74))).before #[Value.ref b] s = true from hs _ (by decide +kernel))
      · exact Or.inl (show (Cond.not (Cond.eq (Term.string RX6 68) (Term.string RX6 76))).before #[Value.ref b] s = true from hs _ (by decide +kernel))
    · rcases (show j = 0 ∨ j = 1 ∨ j = 2 ∨ j = 3 ∨ j = 4 ∨ j = 5 by omega) with rfl | rfl | rfl | rfl | rfl | rfl
      · exact Or.inr (show (Cond.not (Cond.eq (Term.string RX6 66) (Term.string RX6 70))).before #[Value.ref b] s = true from hs _ (by decide +kernel))
      · exact Or.inr (show (Cond.not (Cond.eq (Term.string RX6 68) (Term.string RX6 70))).before #[Value.ref b] s = true from hs _ (by decide +kernel))
      · exact absurd rfl hne
      · exact Or.inl (show (Cond.not (Cond.eq (Term.string RX6 70) (Term.string RX6 72))).before #[Value.ref b] s = true from hs _ (by decide +kernel))
      · exact Or.inl (show (Cond.not (Cond.eq (Term.string RX6 70) (Term.string RX6 74))).before #[Value.ref b] s = true from hs _ (by decide +kernel))
      · exact Or.inl (show (Cond.not (Cond.eq (Term.string RX6 70) (Term.string RX6 76))).before #[Value.ref b] s = true from hs _ (by decide +kernel))
    · rcases (show j = 0 ∨ j = 1 ∨ j = 2 ∨ j = 3 ∨ j = 4 ∨ j = 5 by omega) with rfl | rfl | rfl | rfl | rfl | rfl
      · exact Or.inr (show (Cond.not (Cond.eq (Term.string RX6 66) (Term.string RX6 72))).before #[Value.ref b] s = true from hs _ (by decide +kernel))
      · exact Or.inr (show (Cond.not (Cond.eq (Term.string RX6 68) (Term.string RX6 72))).before #[Value.ref b] s = true from hs _ (by decide +kernel))
      · exact Or.inr (show (Cond.not (Cond.eq (Term.string RX6 70) (Term.string RX6 72))).before #[Value.ref b] s = true from hs _ (by decide +kernel))
      · exact absurd rfl hne
      · exact Or.inl (show (Cond.not (Cond.eq (Term.string RX6 72) (Term.string RX6 74))).before #[Value.ref b] s = true from hs _ (by decide +kernel))
      · exact Or.inl (show (Cond.not (Cond.eq (Term.string RX6 72) (Term.string RX6 76))).before #[Value.ref b] s = true from hs _ (by decide +kernel))
    · rcases (show j = 0 ∨ j = 1 ∨ j = 2 ∨ j = 3 ∨ j = 4 ∨ j = 5 by omega) with rfl | rfl | rfl | rfl | rfl | rfl
      · exact Or.inr (show (Cond.not (Cond.eq (Term.string RX6 66) (Term.string RX6 74))).before #[Value.ref b] s = true from hs _ (by decide +kernel))
      · exact Or.inr (show (Cond.not (Cond.eq (Term.string RX6 68) (Term.string RX6 74))).before #[Value.ref b] s = true from hs _ (by decide +kernel))
      · exact Or.inr (show (Cond.not (Cond.eq (Term.string RX6 70) (Term.string RX6 74))).before #[Value.ref b] s = true from hs _ (by decide +kernel))
      · exact Or.inr (show (Cond.not (Cond.eq (Term.string RX6 72) (Term.string RX6 74))).before #[Value.ref b] s = true from hs _ (by decide +kernel))
      · exact absurd rfl hne
      · exact Or.inl (show (Cond.not (Cond.eq (Term.string RX6 74) (Term.string RX6 76))).before #[Value.ref b] s = true from hs _ (by decide +kernel))
    · rcases (show j = 0 ∨ j = 1 ∨ j = 2 ∨ j = 3 ∨ j = 4 ∨ j = 5 by omega) with rfl | rfl | rfl | rfl | rfl | rfl
      · exact Or.inr (show (Cond.not (Cond.eq (Term.string RX6 66) (Term.string RX6 76))).before #[Value.ref b] s = true from hs _ (by decide +kernel))
      · exact Or.inr (show (Cond.not (Cond.eq (Term.string RX6 68) (Term.string RX6 76))).before #[Value.ref b] s = true from hs _ (by decide +kernel))
      · exact Or.inr (show (Cond.not (Cond.eq (Term.string RX6 70) (Term.string RX6 76))).before #[Value.ref b] s = true from hs _ (by decide +kernel))
      · exact Or.inr (show (Cond.not (Cond.eq (Term.string RX6 72) (Term.string RX6 76))).before #[Value.ref b] s = true from hs _ (by decide +kernel))
      · exact Or.inr (show (Cond.not (Cond.eq (Term.string RX6 74) (Term.string RX6 76))).before #[Value.ref b] s = true from hs _ (by decide +kernel))
      · exact absurd rfl hne
  have hN6 : ∀ i : Nat, i < 6 → sLen.getD i 0 < 2 ^ 31 := by decide +kernel
  obtain ⟨adK, adV, hS, hE⟩ := vk_Sof (N := 6) (tm := fun i => Term.string RX6 (66 + 2 * i)) (len := sLen) (byt := sByt) (A := fun q => s.heap.size ≤ q) hN6 h1 h2 h3 h4 h5 h6 hA
  refine ⟨adK, adV, hS, va_Zof (hts0 _ (List.mem_of_getElem? (i := 574) (by decide +kernel))) (hts0 _ (List.mem_of_getElem? (i := 34) (by decide +kernel))) (va_eqi (hs _ (by decide +kernel))) hA, va_Zqof (hts0 _ (List.mem_of_getElem? (i := 590) (by decide +kernel))) (hts0 _ (List.mem_of_getElem? (i := 36) (by decide +kernel))) (hs _ (by decide +kernel)) hA, fun i hi => ?_⟩
  have e := hE i hi
  refine vk_R.of ?_ e
  rcases (show i = 0 ∨ i = 1 ∨ i = 2 ∨ i = 3 ∨ i = 4 ∨ i = 5 by omega) with rfl | rfl | rfl | rfl | rfl | rfl
  · exact hts0 _ (List.mem_of_getElem? (i := 555) (by decide +kernel))
  · exact hts0 _ (List.mem_of_getElem? (i := 556) (by decide +kernel))
  · exact hts0 _ (List.mem_of_getElem? (i := 557) (by decide +kernel))
  · exact hts0 _ (List.mem_of_getElem? (i := 558) (by decide +kernel))
  · exact hts0 _ (List.mem_of_getElem? (i := 559) (by decide +kernel))
  · exact hts0 _ (List.mem_of_getElem? (i := 560) (by decide +kernel))
theorem K8_inv {S : gS} (h : K8 S) : Inv S := by
  obtain ⟨h1, h2, h3, h4, h5, h6⟩ := h
  refine ⟨3, 3, 9, Z0, [], [], [], h1, ⟨0, h2, rep_0 9⟩, fun k hk => by show (0 : Int) ≤ 0 ∧ (0 : Int) ≤ 3; omega, ⟨?_, ?_⟩, ⟨h5, by simp, fun i e he => by simp at he⟩, fun e he => by simp at he, ⟨h3, by simp [kX], fun i e he => by simp [kX] at he, fun e he => by simp [kX] at he⟩, fun e he => by simp at he, ⟨h6, by simp, HL_nil _ _, by simp⟩⟩
  · rw [cntZ_no (fun k hk => by show (0 : Int) ≠ 1; omega)]; omega
  · rw [cntZ_no (fun k hk => by show (0 : Int) ≠ 2; omega)]; omega
/-- from the loop's head on, over any world of a state with the invariant -/
theorem law_fin {p : Program} {e : Env} {s : State} {m : MethodId} {below : List Frame} {meth : Method} {c : Code} (l : Launch) {b L : Nat} {xs : Nat → Int32} (hL : L ≤ 260) (C0 : lw_At p s m meth c b L xs) {dC : Nat → ClassId} {dI : Nat → Nat → Nat} {ac : Nat → ClassId} (hK : va_K (dC, dI) gcl [(ac 0, .int), (ac 1, .long), (ac 2, .boolean), (ac 3, .char)] s) {adK adV : Nat → Nat} (hS1 : vk_S 6 sLen sByt adK adV (fun q => s.heap.size ≤ q) s s.heap) (hS2 : va_Z "java/lang/String" "COMPACT_STRINGS" "Z" (.int 1) (fun q => s.heap.size ≤ q) s s.heap) (hS3 : va_Zq "jdk/internal/util/Preconditions" "SIOOBE_FORMATTER" "Ljava/util/function/BiFunction;" (fun q => s.heap.size ≤ q) s s.heap) (hS4 : ∀ i : Nat, i < 6 → vk_R RX6 (66 + 2 * i) (sTx.getD i "") (adK i) s) (ad : Nat → Nat) (h99 : ad 99 = 1) (h100 : ∀ i, i < 100 → ad (100 + i) = adK i) (h200 : ∀ i, ad (200 + i) = adV i) (S : gS) (hI : Inv S) (H : Heap) (locs : List Loc) (ls : Array Slot) (hP : va_P (dC, dI) gcl (g_wl (l, (dC, dI), ac, ad) S LAY) H) (hD : va_D (fun q => s.heap.size ≤ q) (g_wl (l, (dC, dI), ac, ad) S LAY)) (hS : va_S (fun q => s.heap.size ≤ q) s.heap H locs) (hl : lv_has ls 7 [(0, .ref b), (1, .ref (ad 0)), (2, iV 1), (3, iV 0)]) : W p l e room_1 s m #[Value.ref b] below meth c H locs 27 18130 (lw_Z below #[Value.ref b] s) (F0 m 12 ls []) := by
  obtain ⟨hx, hb, hr, hml, hown, hts0, hX, hbl, hlocks, hgv⟩ := id C0
  have hts : ∀ w ∈ TS, w.before #[Value.ref b] s = true := fun w h => hts0 w (List.mem_filter.mp h).1
  have hbA : ¬ (fun q : Nat => s.heap.size ≤ q) b := Nat.not_le.mpr hbl
  have hCx : Cx (fun S Lc pc st => ∀ (H : Heap) (locs : List Loc) (ls : Array Slot), va_P (dC, dI) gcl (g_wl (l, (dC, dI), ac, ad) S LAY) H → va_D (fun q => s.heap.size ≤ q) (g_wl (l, (dC, dI), ac, ad) S LAY) → va_S (fun q => s.heap.size ≤ q) s.heap H locs → lv_has ls 7 Lc → W p l e room_1 s m #[Value.ref b] below meth c H locs 27 18130 (lw_Z below #[Value.ref b] s) (F0 m pc ls st)) (l, (dC, dI), ac, ad) LAY mLw LwR := by
    refine ⟨p, e, room_1, s, m, #[Value.ref b], below, meth, c, fun q => s.heap.size ≤ q, s.heap, 27, 18130, lw_Z below #[Value.ref b] s, rfl, hx, hb, hml, hown, hts, hK, fun q h => h, g_ok_of LAY_ok, ⟨rfl, rfl, Nat.le_of_ble_eq_true rfl, Nat.le_of_ble_eq_true rfl⟩, ?_, ?_, ?_, ?_, rfl, fun _ => ?_⟩
    · intro pc S L z d _ hq H locs ls hP hD hS hl
      have e1 : iV z = .int 1 := Option.some.inj hq
      rw [e1]
      refine va_forget hS.2.2 ?_
      exact lw_ret hx hb hr hlocks d
    · intro pc S L z d h
      have h : ret = some .long := h
      unfold ret at h
      cases h
    · intro pc S L d h
      have h : ret = none := h
      unfold ret at h
      cases h
    · intro pc S L a d h
      obtain ⟨n, h⟩ := h
      have h : ret = some (.object n) := h
      unfold ret at h
      cases h
    · refine ⟨⟨fun i hi => ?_, fun i j hi hj q => hS1.2 i j hi hj ?_⟩, hS2, hS3, fun i hi => ?_⟩
      · have z := hS1.1 i hi
        rw [← h100 i (by omega), ← h200 i] at z
        exact z
      · have q : ad (100 + i) = ad (100 + j) := q
        rw [h100 i (by omega), h100 j (by omega)] at q
        exact q
      · have z := hS4 i hi
        rw [← h100 i (by omega)] at z
        exact z
  have hC : LwC _ (l, (dC, dI), ac, ad) b := ⟨hCx, fun S Lc pc st z k hz hk hcat d kk H locs ls hP hD hS hl => ?_, h99⟩
  · exact lw_loop hC 6 0 S _ (by omega) hI rfl H locs ls hP hD hS hl
  · subst hz
    obtain ⟨w1, w2, w3, w4, w6⟩ := kL_99
    have cb : CallB room_1 s #[Value.ref b] mLw.1.cls 99 mL_cell.1 mL_cell.2.1 mL_cell.2.2.1 mL_cell.2.2.2.1 (gws mL_cell) (gRm mL_cell) 0 0 2 ∧ (Cond.static mL_cell.1).before #[Value.ref b] s = true := ⟨callB_of 2 hts (g_good w1) rfl rfl rfl (hts _ w2) (hts _ w3) w6 ⟨by decide, by decide⟩, hts _ w4⟩
    have hbH : b < H.size := Nat.lt_of_lt_of_le hbl hS.1
    have hXH : va_X b L xs s H := hX.kept (hS.2.1 b hbl hbA)
    have run := va_runS (p := p) (l := l) (e := e) (R := room_1) (below := below) (meth := meth) (H := H) (locs := locs) (cells := 27) (slots := 18130) ⟨hx, hb, hml, hown, hts⟩ (t_L_cell (l, (dC, dI), ac, fun _ => 0) b L xs (by omega) k hk H.size) cb ⟨x_blind, fun U hU hW => ⟨rfl, ⟨by rw [hU], fun k q h => by simp [g_wl] at h, va_K.moved hW.alike hK, ⟨fun i j p q h => by simp [g_wl] at h, fun k q h => by simp [g_wl] at h⟩, fun h => by cases h⟩, by rw [hU]; exact hXH.moved hW.alike, by rw [hU]; exact hbH⟩⟩ (g := F0 m pc ls (iV (k : Int) :: .ref b :: st)) (rest := st) rfl rfl hl.1 rfl (lv_room hcat) d ⟨Nat.le_of_ble_eq_true rfl, Nat.le_of_ble_eq_true rfl⟩
    intro T hT X
    obtain ⟨v, st₀, t, T', L1, h0, X', hL1, e1, e2, ⟨⟨v2, S', hv, ⟨j, hj, hp⟩, hP1⟩, hz, hk2⟩, stp⟩ := run T hT X
    cases hv
    subst hp
    rw [h0] at hz hk2
    have hnA : ∀ q : Nat, q < H.size → ¬ g_A (l, (dC, dI), ac, fun _ => 0) [] H.size q := fun q hq z => by
      rcases z with ⟨i, hi, -⟩ | z
      · exact absurd hi (Nat.not_lt_zero i)
      · omega
    obtain ⟨t2, a1, b1⟩ := kk j hj T'.heap (locs ++ L1) ls (by rw [e1]; exact hP.kept (fun i q hq => hk2 q.1 (hP i q hq).lt (hnA q.1 (hP i q hq).lt))) hD
      ⟨Nat.le_trans hS.1 (by rw [e1]; exact hz), fun q h1 h2 => by rw [e1, hk2 q (Nat.lt_of_lt_of_le h1 hS.1) (hnA q (Nat.lt_of_lt_of_le h1 hS.1))]; exact hS.2.1 q h1 h2, fun q hq => by
        rcases List.mem_append.mp hq with h | h
        · exact hS.2.2 q h
        · rcases hL1 q h with ⟨i, hi, -⟩ | h
          · exact absurd hi (Nat.not_lt_zero i)
          · exact Nat.le_trans hS.1 h⟩ hl T' rfl X'
    exact ⟨t2, stp t2 a1, b1⟩
