/-! constructors: a judgement over explicit worlds -/
/-- the five links of private constructors: they hold of the start, and stay -/
def kNs (U : State) : Prop := va_Nw (.methodLinkNest RX8 11 yX1_init RX8) U ∧ va_Nw (.methodLinkNest RX8 39 yX5_init RX8) U ∧ va_Nw (.methodLinkNest RX8 46 yX7_init RX8) U ∧ va_Nw (.methodLinkNest RX8 53 yX2_init RX8) U ∧ va_Nw (.methodLinkNest RX8 60 yX6_init RX8) U
theorem kNs.same {u U : State} (h : u.vm = U.vm) (k : kNs u) : kNs U := ⟨va_Nw.same rfl h k.1, va_Nw.same rfl h k.2.1, va_Nw.same rfl h k.2.2.1, va_Nw.same rfl h k.2.2.2.1, va_Nw.same rfl h k.2.2.2.2⟩
theorem kNs.warm {s U : State} (hW : s.WarmedH U.vm) (k : kNs s) : kNs U := ⟨va_Nw.warmM hW k.1, va_Nw.warmM hW k.2.1, va_Nw.warmM hW k.2.2.1, va_Nw.warmM hW k.2.2.2.1, va_Nw.warmM hW k.2.2.2.2⟩
def k_pre (E : gE) (w0 : va_W) (sz : Nat) (U : State) : Prop := U.heap.size = sz ∧ va_P E.2.1 gcl w0 U.heap ∧ va_K E.2.1 gcl (gty E) U ∧ va_D (fun _ => True) w0 ∧ kNs U
/-- a constructor's contract: from the object alone to the world w1 u -/
def Kt {α : Type} (E : gE) (M : gM) (mc ms : Nat) (av : List Value) (w0 : va_W) (post : α → Prop) (w1 : α → va_W) : Prop :=
  ∀ sz : Nat, Met E.1 M.1 (gws M) { frames := M.2.2.2.2.1, cells := mc, slots := ms, locals := M.2.2.2.2.2 } (va_Pc av (k_pre E w0 sz)) (va_Qv post (fun u t => va_P E.2.1 gcl (w1 u) t.heap ∧ va_D (va_A w0 sz) (w1 u)) (va_A w0 sz)) mc ms (va_A w0 sz)
theorem k_blind {E : gE} {w0 : va_W} {sz : Nat} {av : List Value} : FrameBlind (va_Pc av (k_pre E w0 sz)) := by
  intro a U g mk q
  obtain ⟨q0, q1, qP, qK, qD, qS⟩ := q
  exact ⟨q0, q1, qP, va_K.moved (u := U) (U := U.calling g mk a) (Vm.Alike.refl U.vm) qK, qD, kNs.same (u := U) (U := U.calling g mk a) rfl qS⟩
def Bx (Z : va_W → Nat → Nat → List (Nat × Value) → Nat → List Value → Prop) (E : gE) (M : gM) (mc ms : Nat) (Rt : va_W → Prop) : Prop :=
  ∃ (p : Program) (e : Env) (R : Room) (s : State) (m : MethodId) (args : Array Value) (below : List Frame) (meth : Method) (c : Code) (A : Nat → Prop) (Q : State → Prop),
    Z = (fun ws cells slots L pc st => ∀ (H : Heap) (locs : List Loc) (ls : Array Slot), va_P E.2.1 gcl ws H → va_D A ws → va_S A s.heap H locs → lv_has ls M.2.2.1 L → W p E.1 e R s m args below meth c H locs cells slots Q (F0 m pc ls st)) ∧
    p.tables.exec = Jvm.exec ∧ c.code = M.2.1 ∧ c.maxLocals = M.2.2.1 ∧ s.vm.findClass M.1.cls = some m.cls ∧ (∀ w ∈ TS, w.before args s = true) ∧ va_K E.2.1 gcl (gty E) s ∧ (∀ q, s.heap.size ≤ q → A q) ∧ (R.frames = M.2.2.2.2.1 ∧ R.locals = M.2.2.2.2.2 ∧ R.cells = mc ∧ R.slots = ms) ∧ (M.1.name = "<init>" → meth.name = "<init>") ∧ kNs s ∧
    (∀ (ws : va_W) (cells slots : Nat) (L : List (Nat × Value)) (pc : Nat), decode M.2.1 pc = .ok (.return_, 1) → cells ≤ mc → slots ≤ ms → Rt ws → Z ws cells slots L pc [])
theorem Kt.intro {α : Type} {E : gE} {M : gM} {mc ms : Nat} {av : List Value} {w0 : va_W} {post : α → Prop} {w1 : α → va_W} {L : List (Nat × Value)} (hy : plainName M.1.cls = true) (hlen : (lg_sl av).length ≤ M.2.2.1) (hL : lv_args 0 av = L) (hret : M.2.2.2.1 = none)
    (body : ∀ Z : va_W → Nat → Nat → List (Nat × Value) → Nat → List Value → Prop, Bx Z E M mc ms (fun ws => ∃ u, post u ∧ ws = w1 u) → Z w0 0 0 L 0 []) : Kt E M mc ms av w0 post w1 := by
  intro sz
  refine Met.ofW (cc := M.2.1) (maxL := M.2.2.1) (ret := M.2.2.2.1) hy rfl ?_
  intro p e s m args below meth c s₁ B hml hv
  obtain ⟨rfl, hsz, hP, hK, hD0, hN⟩ := hv
  have hts0 := atoms_spec (ws := gws M) B.pre
  have hts : ∀ w ∈ TS, w.before av.toArray s = true := fun w h => hts0 w (List.mem_cons_of_mem _ h)
  have hown : s.vm.findClass M.1.cls = some m.cls := findClass_of_methodNamed B.named
  have hlocks := B.notSynchronized
  have hx := B.exec
  have hb := B.bytes
  have hr := B.returns
  have hnm : meth.name = M.1.name := (name_of_methodNamed B.named B.method).1
  subst hsz
  have hl := lv_entry av (n := M.2.2.1) hlen
  rw [lg_entry_eq]
  generalize (lg_sl av ++ List.replicate (M.2.2.1 - (lg_sl av).length) Slot.unset).toArray = ls at hl ⊢
  rw [hL] at hl
  have hD : va_D (va_A w0 s.heap.size) w0 := hD0.self
  refine body _ ⟨p, e, { frames := M.2.2.2.2.1, cells := mc, slots := ms, locals := M.2.2.2.2.2 }, s, m, av.toArray, below, meth, c, va_A w0 s.heap.size, _, rfl, hx, hb, hml, hown, hts, hK, fun q h => Or.inr h, ⟨rfl, rfl, rfl, rfl⟩, fun h => by rw [hnm]; exact h, hN, ?_⟩ s.heap [] ls hP hD va_S.rf hl
  intro ws cells slots L' pc d hc hs hpost H locs ls' hP' hD' hS' hl'
  obtain ⟨u, hu, rfl⟩ := hpost
  refine W.widen hc hs ?_
  exact W.vret hx hb (hr.trans hret) (fun t ht hW => ⟨⟨u, rfl, hu, by rw [ht]; exact hP', hD'⟩, hS'.F ht⟩) hS'.2.2 d
section BRULES
variable {Z : va_W → Nat → Nat → List (Nat × Value) → Nat → List Value → Prop} {E : gE} {M : gM} {mc ms : Nat} {Rt : va_W → Prop} {ws : va_W} {cells slots : Nat} {L : List (Nat × Value)} {pc : Nat} {st : List Value}

theorem b_iconst (hZ : Bx Z E M mc ms Rt) {n : Int} (d : decode M.2.1 pc = .ok (.iconst n, 1)) (k : Z ws cells slots L (pc + 1) (iV n :: st)) : Z ws cells slots L pc st := by
  obtain ⟨p, e, R, s, m, args, below, meth, c, A, Q, rfl, hx, hb, hml, hown, hts, hK, hA, hR, hin, hN, -⟩ := hZ
  intro H locs ls hP hD hS hl
  exact lv_iconst hx hb d rfl (k H locs ls hP hD hS hl)

theorem b_bipush (hZ : Bx Z E M mc ms Rt) {n z : Int} (d : decode M.2.1 pc = .ok (.bipush n, 2)) (hz : (Int8.ofInt n).toInt32 = Int32.ofInt z) (k : Z ws cells slots L (pc + 2) (iV z :: st)) : Z ws cells slots L pc st := by
  obtain ⟨p, e, R, s, m, args, below, meth, c, A, Q, rfl, hx, hb, hml, hown, hts, hK, hA, hR, hin, hN, -⟩ := hZ
  intro H locs ls hP hD hS hl
  exact lv_bipush hx hb d hz (k H locs ls hP hD hS hl)

theorem b_sipush (hZ : Bx Z E M mc ms Rt) {n z : Int} (d : decode M.2.1 pc = .ok (.sipush n, 3)) (hz : (Int16.ofInt n).toInt32 = Int32.ofInt z) (k : Z ws cells slots L (pc + 3) (iV z :: st)) : Z ws cells slots L pc st := by
  obtain ⟨p, e, R, s, m, args, below, meth, c, A, Q, rfl, hx, hb, hml, hown, hts, hK, hA, hR, hin, hN, -⟩ := hZ
  intro H locs ls hP hD hS hl
  exact lv_sipush hx hb d hz (k H locs ls hP hD hS hl)

theorem b_aload_n (hZ : Bx Z E M mc ms Rt) {k0 : Fin 4} {x : Nat} (d : decode M.2.1 pc = .ok (.aload_n k0, 1)) (h : lget L k0 = some (.ref x)) (k : Z ws cells slots L (pc + 1) (.ref x :: st)) : Z ws cells slots L pc st := by
  obtain ⟨p, e, R, s, m, args, below, meth, c, A, Q, rfl, hx, hb, hml, hown, hts, hK, hA, hR, hin, hN, -⟩ := hZ
  intro H locs ls hP hD hS hl
  exact lv_aload_n hx hb d rfl (lv_lget hl h) (k H locs ls hP hD hS hl)

theorem b_dup (hZ : Bx Z E M mc ms Rt) {v : Value} (d : decode M.2.1 pc = .ok (.dup, 1)) (hc : v.category = 1) (k : Z ws cells slots L (pc + 1) (v :: v :: st)) : Z ws cells slots L pc (v :: st) := by
  obtain ⟨p, e, R, s, m, args, below, meth, c, A, Q, rfl, hx, hb, hml, hown, hts, hK, hA, hR, hin, hN, -⟩ := hZ
  intro H locs ls hP hD hS hl
  exact lv_dup hx hb d hc (k H locs ls hP hD hS hl)

theorem b_istore_n (hZ : Bx Z E M mc ms Rt) {k0 : Fin 4} {x : Int32} (d : decode M.2.1 pc = .ok (.istore_n k0, 1)) (hn : (k0 : Nat) < M.2.2.1) (k : Z ws cells slots (lset L k0 (.int x)) (pc + 1) st) : Z ws cells slots L pc (.int x :: st) := by
  obtain ⟨p, e, R, s, m, args, below, meth, c, A, Q, rfl, hx, hb, hml, hown, hts, hK, hA, hR, hin, hN, -⟩ := hZ
  intro H locs ls hP hD hS hl
  exact lv_istore_n (lv' := ((k0 : Nat), Value.int x) :: L.filter (lclr1 k0)) hx hb d rfl hl hn rfl fun ls' hl' => k H locs ls' hP hD hS (lv_mono hl' fun q hq => by rcases lins_mem hq with h | h; exact h ▸ List.mem_cons_self; exact List.mem_cons_of_mem _ h)

theorem b_astore_n (hZ : Bx Z E M mc ms Rt) {k0 : Fin 4} {x : Nat} (d : decode M.2.1 pc = .ok (.astore_n k0, 1)) (hn : (k0 : Nat) < M.2.2.1) (k : Z ws cells slots (lset L k0 (.ref x)) (pc + 1) st) : Z ws cells slots L pc (.ref x :: st) := by
  obtain ⟨p, e, R, s, m, args, below, meth, c, A, Q, rfl, hx, hb, hml, hown, hts, hK, hA, hR, hin, hN, -⟩ := hZ
  intro H locs ls hP hD hS hl
  exact lv_astore_n (lv' := ((k0 : Nat), Value.ref x) :: L.filter (lclr1 k0)) hx hb d rfl hl hn rfl fun ls' hl' => k H locs ls' hP hD hS (lv_mono hl' fun q hq => by rcases lins_mem hq with h | h; exact h ▸ List.mem_cons_self; exact List.mem_cons_of_mem _ h)

theorem b_w (hZ : Bx Z E M mc ms Rt) {ws2 : va_W} (h : ws = ws2)  (k : Z ws2 cells slots L pc st) : Z ws cells slots L pc st := by
  obtain ⟨p, e, R, s, m, args, below, meth, c, A, Q, rfl, hx, hb, hml, hown, hts, hK, hA, hR, hin, hN, -⟩ := hZ
  intro H locs ls hP hD hS hl
  subst h
  exact k H locs ls hP hD hS hl

theorem b_wd (hZ : Bx Z E M mc ms Rt) {c2 s2 : Nat} (h1 : cells ≤ c2) (h2 : slots ≤ s2) (k : Z ws c2 s2 L pc st) : Z ws cells slots L pc st := by
  obtain ⟨p, e, R, s, m, args, below, meth, c, A, Q, rfl, hx, hb, hml, hown, hts, hK, hA, hR, hin, hN, -⟩ := hZ
  intro H locs ls hP hD hS hl
  exact W.widen h1 h2 (k H locs ls hP hD hS hl)

theorem b_oi (hZ : Bx Z E M mc ms Rt) {i a : Nat} (h1 : Cond.methodLink M.1.cls i objectInit ∈ TS) (h2 : Cond.instanceMethod objectInit ∈ TS) (h3 : Cond.code objectInit ⟨#[0xb1]⟩ 1 none ∈ TS) (hf : 1 ≤ M.2.2.2.2.1) (hlo : (st.map fun v => v.category).sum + 12 ≤ M.2.2.2.2.2) (d : decode M.2.1 pc = .ok (.invokespecial i, 3)) (k : Z ws cells slots L (pc + 3) st) : Z ws cells slots L pc (.ref a :: st) := by
  obtain ⟨p, e, R, s, m, args, below, meth, c, A, Q, rfl, hx, hb, hml, hown, hts, hK, hA, hR, hin, hN, -⟩ := hZ
  intro H locs ls hP hD hS hl
  refine W.objInit hx hb hown (hts _ h1) (hts _ h2) (hts _ h3) rfl (by rw [hml]; exact hl.1) rfl d (by rw [hR.1]; exact hf) (by rw [hR.2.1]; show 2 * 0 + _ + 12 ≤ _; omega) ?_
  exact k H locs ls hP hD hS hl
theorem b_getr (hZ : Bx Z E M mc ms Rt) {i ci k0 q0 a q : Nat} {ty : FieldType} {fs : List Value} (hF : gF M.1.cls i ci k0 ty) (he : ws[q0]? = some (a, .inr (ci, fs))) (hv : fs[k0]? = some (.ref q)) (d : decode M.2.1 pc = .ok (.getfield i, 3)) (k : Z ws cells slots L (pc + 3) (.ref q :: st)) : Z ws cells slots L pc (.ref a :: st) := by
  obtain ⟨p, e, R, s, m, args, below, meth, c, A, Q, rfl, hx, hb, hml, hown, hts, hK, hA, hR, hin, hN, -⟩ := hZ
  intro H locs ls hP hD hS hl
  obtain ⟨C, T, N, ty0, h1, h2, h3, h4, h5, h6, h7, -⟩ := hF
  exact va_get (D := E.2.1) (ci := ci) (v := .ref q) (C := C) (T := T) (N := N) hx hb hts h4 hown hK hP q0 he h1 k0 h2 (hts _ h3) (fun _ h9 => h9) hv d (k H locs ls hP hD hS hl)
theorem b_puti (hZ : Bx Z E M mc ms Rt) {i ci k0 q0 a : Nat} {fs : List Value} {z : Int} (hF : gF M.1.cls i ci k0 .int) (he : ws[q0]? = some (a, .inr (ci, fs))) (hk0 : k0 < fs.length) (d : decode M.2.1 pc = .ok (.putfield i, 3)) (k : Z (ws.set q0 (a, .inr (ci, fs.set k0 (iV z)))) cells slots L (pc + 3) st) : Z ws cells slots L pc (iV z :: .ref a :: st) := by
  obtain ⟨p, e, R, s, m, args, below, meth, c, A, Q, rfl, hx, hb, hml, hown, hts, hK, hA, hR, hin, hN, -⟩ := hZ
  intro H locs ls hP hD hS hl
  obtain ⟨C, T, N, ty0, h1, h2, h3, h4, h5, h6, h7, h8⟩ := hF
  have hfin : (T k0).2.2.2 = false := by rcases h8 with h8 | h8 <;> first | exact h8 | exact absurd rfl h8.1 | exact absurd rfl h8.2
  refine va_put (D := E.2.1) (ci := ci) (v := iV z) (ty := .int) (C := C) (T := T) (N := N) hx hb hts h4 ty0 h5 h6 hown hK hP hD hS q0 he h1 k0 h2 (hts _ h3) (fun _ h9 => h9) hfin (by rw [h5 k0 h2, h7]) rfl rfl hk0 d (fun H1 locs1 hP1 hD1 hS1 => ?_)
  exact k H1 locs1 ls hP1 hD1 hS1 hl
theorem b_putF (hZ : Bx Z E M mc ms Rt) {i ci k0 a q : Nat} {fs : List Value} {C : String} {T : u_T} {N : Nat} {ty : FieldType} (q0 : Nat) (he : ws[q0]? = some (a, .inr (ci, fs))) (hc : gcl[ci]? = some (C, T, N)) (hwt : ∀ w ∈ u_ws C T N, w ∈ TS) (ty0 : Nat → FieldType) (hty : ∀ k, k < N → parseFieldDescriptor (T k).2.2.1 = some (ty0 k)) (hnm : ∀ a, a < N → ∀ b, b < N → a ≠ b → (T a).2.1 ≠ (T b).2.1) (hk : k0 < N) (hlink : Cond.fieldLink M.1.cls i (T k0).1 (T k0).2.1 (T k0).2.2.1 ∈ TS) (hfin : (T k0).2.2.2 = true) (hi : M.1.name = "<init>") (hdecl : (T k0).1 = M.1.cls) (hd : ty0 k0 = ty) (hn : narrow ty (.ref q) = .ref q) (hfit : fits ty (.ref q) = true) (hk0 : k0 < fs.length) (d : decode M.2.1 pc = .ok (.putfield i, 3)) (k : Z (ws.set q0 (a, .inr (ci, fs.set k0 (.ref q)))) cells slots L (pc + 3) st) : Z ws cells slots L pc (.ref q :: .ref a :: st) := by
  obtain ⟨p, e, R, s, m, args, below, meth, c, A, Q, rfl, hx, hb, hml, hown, hts, hK, hA, hR, hin, hN, -⟩ := hZ
  intro H locs ls hP hD hS hl
  refine va_putF (D := E.2.1) (ci := ci) (v := .ref q) (ty := ty) (C := C) (T := T) (N := N) hx hb hts hwt ty0 hty hnm hown hK hP hD hS q0 he hc k0 hk (hts _ hlink) (fun _ h9 => h9) hfin (hin hi) hdecl (by rw [hty k0 hk, hd]) hn hfit hk0 d (fun H1 locs1 hP1 hD1 hS1 => ?_)
  exact k H1 locs1 ls hP1 hD1 hS1 hl
theorem ra_inj {U : State} {a b : ClassId} {ty : FieldType} (h1 : va_RA U a ty) (h2 : va_RA U b ty) : a = b := by
  cases ty with
  | object C =>
    obtain ⟨-, -, -, -, -, e1⟩ := h1
    obtain ⟨-, -, -, -, -, e2⟩ := h2
    exact Option.some.inj (e1.symm.trans e2)
  | _ => exact Option.some.inj (Eq.trans (Eq.symm h1) h2)
theorem b_newa (hZ : Bx Z E M mc ms Rt) {atype : ArrayType} {ty : FieldType} {z : Int} {cA : ClassId} (t N : Nat) (a0 : vp_A) (hty : newarray.typeOf atype = ty) (harr : Cond.arrayClass ty ∈ TS) (ht : (gty E)[t]? = some (cA, ty)) (ha : ∀ cA : ClassId, vp_cell cA a0 = arrV cA N (fun _ => defaultValue ty)) (hz : z = (N : Int)) (hN : N < 100000) (hby : N * componentBytes ty ≤ 536870912) (hc : cells + 1 ≤ mc) (hs : slots + N ≤ ms) (d : decode M.2.1 pc = .ok (.newarray atype, 2)) (k : ∀ q : Nat, Z (ws ++ [(q, .inl (cA, a0))]) (cells + 1) (slots + N) L (pc + 2) (.ref q :: st)) : Z ws cells slots L pc (iV z :: st) := by
  obtain ⟨p, e, R, s, m, args, below, meth, c, A, Q, rfl, hx, hb, hml, hown, hts, hK, hA, hR, hin, hN, -⟩ := hZ
  intro H locs ls hP hD hS hl
  subst hz
  refine va_newa hx hb (by rw [hty]; exact hts _ harr) hty hK hP hD hS hA ha (fun h => ?_) (gi_cl (by omega)) hby (by rw [hR.2.2.1]; exact hc) (by rw [hR.2.2.2]; exact hs) d (fun q cB H1 hK1 hP1 hD1 hS1 => ?_)
  · rw [gi_zl ⟨by omega, by omega⟩] at h; omega
  · have e1 := (hK1.2 (gty E).length (cB, ty) (by rw [List.getElem?_append_right (Nat.le_refl _)]; simp)).2
    have e2 := (hK.2 t _ ht).2
    have e : cB = cA := ra_inj e1 e2
    subst e
    exact k q H1 locs ls hP1 hD1 hS1 hl
theorem b_new (hZ : Bx Z E M mc ms Rt) {i ci : Nat} {fs : List Value} {C : String} {T : u_T} {N : Nat} (ty0 : Nat → FieldType) (hc : gcl[ci]? = some (C, T, N)) (hwt : ∀ w ∈ u_ws C T N, w ∈ TS) (hty : ∀ k, k < N → parseFieldDescriptor (T k).2.2.1 = some (ty0 k)) (h1 : Cond.classLink M.1.cls i C ∈ TS) (h2 : Cond.instantiable C N ∈ TS) (h3 : Cond.initialized C ∈ TS) (hfs : ∀ j, j < N → defaultValue (ty0 j) = vp_V fs j) (hcc : cells + 1 ≤ mc) (hss : slots + N ≤ ms) (d : decode M.2.1 pc = .ok (.new i, 3)) (k : ∀ q : Nat, Z (ws ++ [(q, .inr (ci, fs))]) (cells + 1) (slots + N) L (pc + 3) (.ref q :: st)) : Z ws cells slots L pc st := by
  obtain ⟨p, e, R, s, m, args, below, meth, c, A, Q, rfl, hx, hb, hml, hown, hts, hK, hA, hR, hin, hN, -⟩ := hZ
  intro H locs ls hP hD hS hl
  exact va_new (ci := ci) (fs := fs) (C := C) (T := T) (N := N) hx hb hts hwt ty0 hty hown (hts _ h1) (hts _ h2) (hts _ h3) hK hP hD hS hA hc hfs (by rw [hR.2.2.1]; exact hcc) (by rw [hR.2.2.2]; exact hss) d (fun q H1 hP1 hD1 hS1 => k q H1 locs ls hP1 hD1 hS1 hl)
theorem b_ret (hZ : Bx Z E M mc ms Rt) (d : decode M.2.1 pc = .ok (.return_, 1)) (hc : cells ≤ mc) (hs : slots ≤ ms) (h : Rt ws) : Z ws cells slots L pc [] := by
  obtain ⟨p, e, R, s, m, args, below, meth, c, A, Q, -, hx, hb, hml, hown, hts, hK, hA, hR, hin, hN, h1⟩ := hZ
  exact h1 ws cells slots L pc d hc hs h
theorem nd_of : ∀ {l : List Nat}, l.Nodup → va_nd l = true
  | [], _ => rfl
  | a :: l, h => by
    rw [List.nodup_cons] at h
    simp only [va_nd, Bool.and_eq_true, decide_eq_true_eq]
    exact ⟨h.1, nd_of h.2⟩
theorem rg_map (wr w : va_W) : (List.range wr.length).map (fun i => (wr ++ w)[i]?) = wr.map some := by
  apply List.ext_getElem?
  intro i
  rw [List.getElem?_map, List.getElem?_map]
  by_cases h : i < wr.length
  · rw [List.getElem?_range h]
    show some (wr ++ w)[i]? = _
    rw [List.getElem?_append_left h, List.getElem?_eq_getElem h]
    rfl
  · rw [List.getElem?_eq_none (l := wr) (by omega), List.getElem?_eq_none (by rw [List.length_range]; omega)]
    rfl
/-- words of a constructor's call: of any class, of a nest mate -/
def gI (own : String) (i : Nat) (M2 : gM) (n : Nat) : Prop := Cond.code M2.1 M2.2.1 M2.2.2.1 M2.2.2.2.1 ∈ TS ∧ Cond.initialized M2.1.cls ∈ TS ∧ Cond.methodLink own i M2.1 ∈ TS ∧ Cond.instanceMethod M2.1 ∈ TS ∧ M2.1.name = "<init>" ∧ M2.2.2.2.1 = none ∧ (M2.1.cls ≠ "java/lang/invoke/MethodHandle" ∧ M2.1.cls ≠ "java/lang/invoke/VarHandle" ∧ (parseMethodDescriptor M2.1.desc).map (fun d => d.parameters.length) = some n)
def gIN (M2 : gM) (n : Nat) : Prop := Cond.code M2.1 M2.2.1 M2.2.2.1 M2.2.2.2.1 ∈ TS ∧ Cond.initialized M2.1.cls ∈ TS ∧ Cond.instanceMethod M2.1 ∈ TS ∧ M2.1.name = "<init>" ∧ M2.2.2.2.1 = none ∧ (M2.1.cls ≠ "java/lang/invoke/MethodHandle" ∧ M2.1.cls ≠ "java/lang/invoke/VarHandle" ∧ (parseMethodDescriptor M2.1.desc).map (fun d => d.parameters.length) = some n)

theorem b_ctor (hZ : Bx Z E M mc ms Rt) {α : Type} {M2 : gM} {i n mc2 ms2 q : Nat} {x : va_E} {As st0 : List Value} {post : α → Prop} {wn : α → va_W}  (wr : va_W) (hM : Kt E M2 mc2 ms2 (.ref q :: As) [(q, x)] post wn) (hw : gI M.1.cls i M2 n) (hR2 : M2.2.2.2.2.1 + 1 ≤ M.2.2.2.2.1 ∧ 8 + (M2.2.2.1 + 11) + M2.2.2.2.2.2 ≤ M.2.2.2.2.2) (hws : ws = wr ++ [(q, x)]) (hn : As.length = n) (hst : st0 = As.reverse ++ .ref q :: st) (hcat : (st.map fun v => v.category).sum ≤ 8) (hcc : cells + mc2 ≤ mc) (hss : slots + ms2 ≤ ms) (d : decode M.2.1 pc = .ok (.invokespecial i, 3)) (kk : ∀ u : α, post u → Z (wr ++ wn u) (cells + mc2) (slots + ms2) L (pc + 3) st) : Z ws cells slots L pc st0 := by
  obtain ⟨p, e, R, s, m, args, below, meth, c, A, Q, rfl, hx, hb, hml, hown, hts, hK, hA, hR, hin, hN, -⟩ := hZ
  intro H locs ls hP hD hS hl
  subst hws
  obtain ⟨w1, w2, w3, w4, w5, w6, w7⟩ := hw
  have hC : [wr.length].map (fun i => (wr ++ [(q, x)])[i]?) = [(q, x)].map some := by simp
  have hPc := hP.sub (ws' := [(q, x)]) [wr.length] (by simp)
  have hDc := hD.sub (ws' := [(q, x)]) [wr.length] rfl hC
  have hFc := va_free (wc := [(q, x)]) hD hS hA [wr.length] hC
  have cw : CallB R s args M.1.cls i M2.1 M2.2.1 M2.2.2.1 none (gws M2) { frames := M2.2.2.2.2.1, cells := mc2, slots := ms2, locals := M2.2.2.2.2.2 } mc2 ms2 n ∧ M2.1.name = "<init>" ∧ (Cond.instanceMethod M2.1).before args s = true := cwI n hts (g_good w1) (by unfold gws; rw [w6]) rfl rfl (hts _ w2) (hts _ w3) (hts _ w4) w5 w7 ⟨by rw [hR.1]; exact hR2.1, by rw [hR.2.1]; exact hR2.2⟩
  refine va_callv (va_runI (As := As) (rest := st) ⟨hx, hb, hml, hown, hts⟩ (hM H.size) cw ⟨k_blind, fun U hU hW => ⟨rfl, by rw [hU], by rw [hU]; exact hPc, va_K.moved hW.alike hK, hDc.weaken (fun _ _ _ _ => trivial), kNs.warm hW hN⟩⟩ rfl hn hl.1 hst (lv_room hcat) d ⟨by rw [hR.2.2.1]; exact hcc, by rw [hR.2.2.2]; exact hss⟩) hS (fun q _ h => hFc q h) hFc (fun u t H1 locs1 ht hvm hw hB hz1 hk1 hS1 => ?_)
  obtain ⟨hP1, hD1⟩ := hB
  rw [ht] at hP1
  obtain ⟨hP2, hD2⟩ := va_join (wr := wr) (w1 := wn u) hP hD [wr.length] (List.range wr.length) hC (rg_map wr _) (nd_of List.nodup_range) (fun i hi => by have := List.mem_range.mp hi; simp; omega) hk1 hFc hP1 hD1
  exact kk u hw H1 locs1 ls hP2 hD2 hS1 hl

theorem b_ctorN (hZ : Bx Z E M mc ms Rt) {α : Type} {M2 : gM} {i n mc2 ms2 q : Nat} {x : va_E} {As st0 : List Value} {post : α → Prop} {wn : α → va_W} {host : String} (wr : va_W) (hM : Kt E M2 mc2 ms2 (.ref q :: As) [(q, x)] post wn) (hw : gIN M2 n) (hNw : ∀ U : State, kNs U → va_Nw (.methodLinkNest M.1.cls i M2.1 host) U) (hR2 : M2.2.2.2.2.1 + 1 ≤ M.2.2.2.2.1 ∧ 8 + (M2.2.2.1 + 11) + M2.2.2.2.2.2 ≤ M.2.2.2.2.2) (hws : ws = wr ++ [(q, x)]) (hn : As.length = n) (hst : st0 = As.reverse ++ .ref q :: st) (hcat : (st.map fun v => v.category).sum ≤ 8) (hcc : cells + mc2 ≤ mc) (hss : slots + ms2 ≤ ms) (d : decode M.2.1 pc = .ok (.invokespecial i, 3)) (kk : ∀ u : α, post u → Z (wr ++ wn u) (cells + mc2) (slots + ms2) L (pc + 3) st) : Z ws cells slots L pc st0 := by
  obtain ⟨p, e, R, s, m, args, below, meth, c, A, Q, rfl, hx, hb, hml, hown, hts, hK, hA, hR, hin, hN, -⟩ := hZ
  intro H locs ls hP hD hS hl
  subst hws
  obtain ⟨w1, w2, w4, w5, w6, w7⟩ := hw
  have hC : [wr.length].map (fun i => (wr ++ [(q, x)])[i]?) = [(q, x)].map some := by simp
  have hPc := hP.sub (ws' := [(q, x)]) [wr.length] (by simp)
  have hDc := hD.sub (ws' := [(q, x)]) [wr.length] rfl hC
  have hFc := va_free (wc := [(q, x)]) hD hS hA [wr.length] hC
  have cw : va_CN R s args M.1.cls i M2.1 host M2.2.1 M2.2.2.1 none (gws M2) { frames := M2.2.2.2.2.1, cells := mc2, slots := ms2, locals := M2.2.2.2.2.2 } mc2 ms2 n ∧ M2.1.name = "<init>" ∧ (Cond.instanceMethod M2.1).before args s = true := ⟨va_cnB n hts (g_good w1) (by unfold gws; rw [w6]) rfl rfl (hNw s hN) (hts _ w2) w7 ⟨by rw [hR.1]; exact hR2.1, by rw [hR.2.1]; exact hR2.2⟩, w5, hts _ w4⟩
  refine va_callv (va_runIN (As := As) (rest := st) ⟨hx, hb, hml, hown, hts⟩ (hM H.size) cw ⟨k_blind, fun U hU hW => ⟨rfl, by rw [hU], by rw [hU]; exact hPc, va_K.moved hW.alike hK, hDc.weaken (fun _ _ _ _ => trivial), kNs.warm hW hN⟩⟩ rfl hn hl.1 hst (lv_room hcat) d ⟨by rw [hR.2.2.1]; exact hcc, by rw [hR.2.2.2]; exact hss⟩) hS (fun q _ h => hFc q h) hFc (fun u t H1 locs1 ht hvm hw hB hz1 hk1 hS1 => ?_)
  obtain ⟨hP1, hD1⟩ := hB
  rw [ht] at hP1
  obtain ⟨hP2, hD2⟩ := va_join (wr := wr) (w1 := wn u) hP hD [wr.length] (List.range wr.length) hC (rg_map wr _) (nd_of List.nodup_range) (fun i hi => by have := List.mem_range.mp hi; simp; omega) hk1 hFc hP1 hD1
  exact kk u hw H1 locs1 ls hP2 hD2 hS1 hl

end BRULES
/-- from the explicit world to the world of the state -/
theorem b_toC {Z : va_W → Nat → Nat → List (Nat × Value) → Nat → List Value → Prop} {E : gE} {M : gM} {mc ms : Nat} {Rt : va_W → Prop} (hZ : Bx Z E M mc ms Rt) (ad : Nat → Nat) (lay : List gC) (ho : g_okb lay = true) (h99 : ad 99 = 0) {cells slots : Nat} (hc : cells ≤ mc) (hs : slots ≤ ms) (hret : M.2.2.2.1 = none) : Cx (fun S L pc st => Z (g_wl (E.1, E.2.1, E.2.2.1, ad) S lay) cells slots L pc st) (E.1, E.2.1, E.2.2.1, ad) lay M (fun v S => v = none ∧ Rt (g_wl (E.1, E.2.1, E.2.2.1, ad) S lay)) := by
  obtain ⟨p, e, R, s, m, args, below, meth, c, A, Q, rfl, hx, hb, hml, hown, hts, hK, hA, hR, hin, hN, h1⟩ := hZ
  refine ⟨p, e, R, s, m, args, below, meth, c, A, s.heap, cells, slots, Q, rfl, hx, hb, hml, hown, hts, hK, hA, g_ok_of ho, ⟨hR.1, hR.2.1, by rw [hR.2.2.1]; exact hc, by rw [hR.2.2.2]; exact hs⟩, ?_, ?_, ?_, ?_, rfl, fun h => ?_⟩
  · intro pc S L z d hr
    rcases hr with hr | ⟨ty, hr, -⟩ <;> rw [hret] at hr <;> cases hr
  · intro pc S L z d hr
    rw [hret] at hr; cases hr
  · intro pc S L d _ hq
    exact h1 _ cells slots L pc d hc hs hq.2
  · intro pc S L a d hr
    obtain ⟨n, hr⟩ := hr
    rw [hret] at hr; cases hr
  · have h2 : ad 99 = 1 := h
    omega
/-- the world of a state, cell by cell -/
def g_wlf (E : gE) (S : gS) : List gC → Nat → va_W
  | [], _ => []
  | c :: r, k => (gad E k, g_el E S c) :: g_wlf E S r (k + 1)
theorem g_wlf_eq (E : gE) (S : gS) (lay : List gC) : g_wl E S lay = g_wlf E S lay 0 := by
  have key : ∀ (lay : List gC) (k : Nat), lay.mapIdx (fun i c => (gad E (i + k), g_el E S c)) = g_wlf E S lay k := by
    intro lay
    induction lay with
    | nil => intro k; rfl
    | cons c r ih =>
      intro k
      rw [List.mapIdx_cons, g_wlf, ← ih (k + 1)]
      congr 1
      · rw [Nat.zero_add]
      · congr 1
        funext i c
        rw [show i + 1 + k = i + (k + 1) by omega]
  exact key lay 0
