/-! the law's entry: the object is made -/
theorem law_made {l : Launch} {dC : Nat → ClassId} {dI : Nat → Nat → Nat} {ac : Nat → ClassId} {b : Nat} (adK adV : Nat → Nat) (Z : va_W → Nat → Nat → List (Nat × Value) → Nat → List Value → Prop) (hZ : Bx Z (l, (dC, dI), ac, fun _ => 0) mLw 27 18130 (fun _ => False)) (fin : ∀ (ad : Nat → Nat) (S : gS), ad 99 = 1 → (∀ i, i < 100 → ad (100 + i) = adK i) → (∀ i, ad (200 + i) = adV i) → Inv S → Z (g_wl (l, (dC, dI), ac, ad) S LAY) 27 18130 [(0, .ref b), (1, .ref (ad 0)), (2, iV 1), (3, iV 0)] 12 []) : Z [] 0 0 [(0, .ref b)] 0 [] := by
  refine b_new hZ (ci := 7) (fs := [.null, .null, .null, .null, .null, .null, .null, .null, jV 0]) (C := RX8) (T := TX8) (N := 9) tyX8 rfl wtX8 tyX8_ok (TS_in 38 (by decide +kernel) rfl) (TS_in 39 (by decide +kernel) rfl) (TS_in 23 (by decide +kernel) rfl) (fun j hj => by rcases (show j = 0 ∨ j = 1 ∨ j = 2 ∨ j = 3 ∨ j = 4 ∨ j = 5 ∨ j = 6 ∨ j = 7 ∨ j = 8 by omega) with rfl | rfl | rfl | rfl | rfl | rfl | rfl | rfl | rfl <;> rfl) (Nat.le_of_ble_eq_true rfl) (Nat.le_of_ble_eq_true rfl) dL_law_0 (fun q0 => ?_)
  refine b_w hZ (ws2 := [(q0, .inr (7, [.null, .null, .null, .null, .null, .null, .null, .null, jV 0]))]) rfl ?_
  refine b_dup hZ dL_law_3 rfl ?_
  refine b_ctor hZ (n := 0) (As := []) [] (t_K8 (l, (dC, dI), ac, fun _ => 0) q0) ⟨TS_in 42 (by decide +kernel) rfl, TS_in 23 (by decide +kernel) rfl, TS_in 40 (by decide +kernel) rfl, TS_in 41 (by decide +kernel) rfl, rfl, rfl, by decide +kernel⟩ ⟨by decide, by decide⟩ rfl rfl rfl (Nat.le_of_ble_eq_true rfl) (Nat.le_of_ble_eq_true rfl) (Nat.le_of_ble_eq_true rfl) dL_law_4 (fun u hu => ?_)
  refine b_w hZ (List.nil_append _) ?_
  refine b_astore_n hZ dL_law_7 (by decide) ?_
  refine b_iconst hZ dL_law_8 ?_
  refine b_istore_n hZ dL_law_9 (by decide) ?_
  refine b_iconst hZ dL_law_10 ?_
  refine b_istore_n hZ dL_law_11 (by decide) ?_
  refine b_wd hZ (c2 := 27) (s2 := 18130) (Nat.le_of_ble_eq_true rfl) (Nat.le_of_ble_eq_true rfl) ?_
  obtain ⟨hu0, hK8⟩ := hu
  subst hu0
  refine b_w hZ (ws2 := g_wl (l, (dC, dI), ac, fun k => cond (Nat.blt k 27) (u.1 k) (cond (Nat.beq k 99) 1 (cond (Nat.blt k 200) (adK (k - 100)) (adV (k - 200))))) u.2 LAY) (by rw [g_wlf_eq, g_wlf_eq]; rfl) ?_
  refine fin _ u.2 rfl (fun i hi => ?_) (fun i => ?_) (K8_inv hK8)
  · show cond (Nat.blt (100 + i) 27) _ _ = _
    have e1 : Nat.blt (100 + i) 27 = false := by cases q : Nat.blt (100 + i) 27 with | false => rfl | true => exact absurd (Nat.le_of_ble_eq_true q) (by omega)
    have e4 : Nat.beq (100 + i) 99 = false := by cases q : Nat.beq (100 + i) 99 with | false => rfl | true => exact absurd (Nat.eq_of_beq_eq_true q) (by omega)
    have e5 : Nat.blt (100 + i) 200 = true := Nat.ble_eq_true_of_le (by omega)
    rw [e1, e4, e5]
    show adK (100 + i - 100) = adK i
    rw [Nat.add_sub_cancel_left]
  · show cond (Nat.blt (200 + i) 27) _ _ = _
    have e1 : Nat.blt (200 + i) 27 = false := by cases q : Nat.blt (200 + i) 27 with | false => rfl | true => exact absurd (Nat.le_of_ble_eq_true q) (by omega)
    have e4 : Nat.beq (200 + i) 99 = false := by cases q : Nat.beq (200 + i) 99 with | false => rfl | true => exact absurd (Nat.eq_of_beq_eq_true q) (by omega)
    have e5 : Nat.blt (200 + i) 200 = false := by cases q : Nat.blt (200 + i) 200 with | false => rfl | true => exact absurd (Nat.le_of_ble_eq_true q) (by omega)
    rw [e1, e4, e5]
    show adV (200 + i - 200) = adV i
    rw [Nat.add_sub_cancel_left]
theorem whole_start {p : Program} {e : Env} {s : State} {m : MethodId} {below : List Frame} {meth : Method} {c : Code} (l : Launch) (hflags : l.flags = flags0) {b L : Nat} {xs : Nat → Int32} (hL : L ≤ 260) (C0 : lw_At p s m meth c b L xs) : W p l e room_1 s m #[Value.ref b] below meth c s.heap [] 0 0 (lw_Z below #[Value.ref b] s) (entryFrame m ([Value.ref b] : List Value).toArray 7) := by
  obtain ⟨hx, hb, hr, hml, hown, hts0, hX, hbl, hlocks, hgv⟩ := id C0
  have hts : ∀ w ∈ TS, w.before #[Value.ref b] s = true := fun w h => hts0 w (List.mem_filter.mp h).1
  obtain ⟨dC, dI, ac, hK⟩ := law_K hts
  obtain ⟨adK, adV, hS1, hS2, hS3, hS4⟩ := law_str hts0 hgv
  have hl := lv_entry ([.ref b]) (n := 7) (Nat.le_of_ble_eq_true rfl)
  rw [lg_entry_eq]
  generalize (lg_sl ([.ref b]) ++ List.replicate (7 - (lg_sl ([.ref b])).length) Slot.unset).toArray = ls at hl ⊢
  have hl : lv_has ls 7 [(0, .ref b)] := hl
  have hB : Bx (fun ws cells slots Lc pc st => ∀ (H : Heap) (locs : List Loc) (ls : Array Slot), va_P (dC, dI) gcl ws H → va_D (fun q => s.heap.size ≤ q) ws → va_S (fun q => s.heap.size ≤ q) s.heap H locs → lv_has ls 7 Lc → W p l e room_1 s m #[Value.ref b] below meth c H locs cells slots (lw_Z below #[Value.ref b] s) (F0 m pc ls st)) (l, (dC, dI), ac, fun _ => 0) mLw 27 18130 (fun _ => False) :=
    ⟨p, e, room_1, s, m, #[Value.ref b], below, meth, c, fun q => s.heap.size ≤ q, lw_Z below #[Value.ref b] s, rfl, hx, hb, hml, hown, hts, hK, fun q h => h, ⟨rfl, rfl, rfl, rfl⟩, fun h => absurd h (by decide), ⟨va_Nw.of rfl (hts0 _ (List.mem_of_getElem? (i := 48) (by decide +kernel))), va_Nw.of rfl (hts0 _ (List.mem_of_getElem? (i := 131) (by decide +kernel))), va_Nw.of rfl (hts0 _ (List.mem_of_getElem? (i := 146) (by decide +kernel))), va_Nw.of rfl (hts0 _ (List.mem_of_getElem? (i := 166) (by decide +kernel))), va_Nw.of rfl (hts0 _ (List.mem_of_getElem? (i := 189) (by decide +kernel)))⟩, fun ws cells slots Lc pc _ _ _ h => h.elim⟩
  exact law_made adK adV _ hB (fun ad S h99 h100 h200 hI H locs ls hP hD hS hl => law_fin l hL C0 hK hS1 hS2 hS3 hS4 ad h99 h100 h200 S hI H locs ls hP hD hS hl) s.heap [] ls (fun k q h => by simp at h) ⟨fun i j p q h => by simp at h, fun k q h => by simp at h⟩ va_S.rf hl
