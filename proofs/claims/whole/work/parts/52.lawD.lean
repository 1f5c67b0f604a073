/-! the law: its loop -/
theorem lw_loop {Z : gS → List (Nat × Value) → Nat → List Value → Prop} {E : gE} {b : Nat} {xs : Nat → Int} {L : Nat} (C : LwC Z E b xs L) : ∀ (m i : Nat) (S : gS), L + 5 ≤ i + m → i ≤ L → Inv S → Z S (lwL E b i) 18 [] := by
  obtain ⟨hZ, hld, hln, hG, hxs, hL⟩ := id C
  intro m
  induction m with
  | zero => intro i S hm hi hI; omega
  | succ m ih =>
    intro i S hm hi hI
    have next : i + 5 ≤ L → ∀ S₉ : gS, Inv S₉ → Z S₉ (lwL E b i) 760 [] := by
      intro hi5 S₉ hI₉
      refine g_iinc hZ dL_law_760 rfl (by decide) ?_
      refine g_goto hZ 18 dL_law_763 rfl ?_
      exact ih (i + 5) S₉ (by omega) hi5 hI₉
    refine g_iload_n hZ dL_law_18 rfl ?_
    refine g_aload_n hZ dL_law_19 rfl ?_
    refine hln _ _ _ _ dL_law_20 ?_
    refine g_iconst hZ dL_law_21 ?_
    refine g_isub hZ dL_law_22 ?_
    refine g_icmp_gt hZ 766 dL_law_23 rfl (by omega) (fun c => ?_) (fun c => ?_)
    · refine g_iconst hZ dL_law_766 ?_
      exact g_zret hZ dL_law_767 rfl (Or.inr rfl) rfl
    · refine g_aload_n hZ dL_law_26 rfl ?_
      refine g_iload_n hZ dL_law_27 rfl ?_
      refine hld _ _ _ _ _ i rfl (by omega) dL_law_28 ?_
      refine g_bipush hZ (z := 31) dL_law_29 rfl ?_
      obtain ⟨j, hj, ej⟩ := pk_andE (Int32.ofInt (xs i)) (m := 31) 5 (by decide)
      refine g_iand hZ (z := (j : Int)) dL_law_31 (by rw [gi_nat]; exact ej) ?_
      have hi5 : i + 5 ≤ L := by omega
      rcases (show j = 0 ∨ j = 1 ∨ j = 2 ∨ j = 3 ∨ j = 4 ∨ j = 5 ∨ j = 6 ∨ j = 7 ∨ j = 8 ∨ j = 9 ∨ j = 10 ∨ j = 11 ∨ j = 12 ∨ j = 13 ∨ j = 14 ∨ j = 15 ∨ j = 16 ∨ j = 17 ∨ j = 18 ∨ j = 19 ∨ j = 20 ∨ j = 21 ∨ j = 22 ∨ j = 23 ∨ j = 24 ∨ j = 25 ∨ 25 < j by omega) with rfl | rfl | rfl | rfl | rfl | rfl | rfl | rfl | rfl | rfl | rfl | rfl | rfl | rfl | rfl | rfl | rfl | rfl | rfl | rfl | rfl | rfl | rfl | rfl | rfl | rfl | hj2
      · refine g_switch hZ (off := 120) 152 dL_law_32 (by omega) (by omega) (by omega) rfl rfl ?_
        exact lw_0 C hI hi5 (next hi5)
      · refine g_switch hZ (off := 153) 185 dL_law_32 (by omega) (by omega) (by omega) rfl rfl ?_
        exact lw_1 C hI hi5 (next hi5)
      · refine g_switch hZ (off := 186) 218 dL_law_32 (by omega) (by omega) (by omega) rfl rfl ?_
        exact lw_2 C hI hi5 (next hi5)
      · refine g_switch hZ (off := 209) 241 dL_law_32 (by omega) (by omega) (by omega) rfl rfl ?_
        exact lw_3 C hI hi5 (next hi5)
      · refine g_switch hZ (off := 232) 264 dL_law_32 (by omega) (by omega) (by omega) rfl rfl ?_
        exact lw_4 C hI hi5 (next hi5)
      · refine g_switch hZ (off := 265) 297 dL_law_32 (by omega) (by omega) (by omega) rfl rfl ?_
        exact lw_5 C hI hi5 (next hi5)
      · refine g_switch hZ (off := 278) 310 dL_law_32 (by omega) (by omega) (by omega) rfl rfl ?_
        exact lw_6 C hI hi5 (next hi5)
      · refine g_switch hZ (off := 331) 363 dL_law_32 (by omega) (by omega) (by omega) rfl rfl ?_
        exact lw_7 C hI hi5 (next hi5)
      · refine g_switch hZ (off := 354) 386 dL_law_32 (by omega) (by omega) (by omega) rfl rfl ?_
        exact lw_8 C hI hi5 (next hi5)
      · refine g_switch hZ (off := 397) 429 dL_law_32 (by omega) (by omega) (by omega) rfl rfl ?_
        exact lw_9 C hI hi5 (next hi5)
      · refine g_switch hZ (off := 410) 442 dL_law_32 (by omega) (by omega) (by omega) rfl rfl ?_
        exact lw_10 C hI hi5 (next hi5)
      · refine g_switch hZ (off := 433) 465 dL_law_32 (by omega) (by omega) (by omega) rfl rfl ?_
        exact lw_11 C hI hi5 (next hi5)
      · refine g_switch hZ (off := 466) 498 dL_law_32 (by omega) (by omega) (by omega) rfl rfl ?_
        exact lw_12 C hI hi5 (next hi5)
      · refine g_switch hZ (off := 489) 521 dL_law_32 (by omega) (by omega) (by omega) rfl rfl ?_
        exact lw_13 C hI hi5 (next hi5)
      · refine g_switch hZ (off := 502) 534 dL_law_32 (by omega) (by omega) (by omega) rfl rfl ?_
        exact lw_14 C hI hi5 (next hi5)
      · refine g_switch hZ (off := 525) 557 dL_law_32 (by omega) (by omega) (by omega) rfl rfl ?_
        exact lw_15 C hI hi5 (next hi5)
      · refine g_switch hZ (off := 548) 580 dL_law_32 (by omega) (by omega) (by omega) rfl rfl ?_
        exact lw_16 C hI hi5 (next hi5)
      · refine g_switch hZ (off := 571) 603 dL_law_32 (by omega) (by omega) (by omega) rfl rfl ?_
        exact lw_17 C hI hi5 (next hi5)
      · refine g_switch hZ (off := 584) 616 dL_law_32 (by omega) (by omega) (by omega) rfl rfl ?_
        exact lw_18 C hI hi5 (next hi5)
      · refine g_switch hZ (off := 607) 639 dL_law_32 (by omega) (by omega) (by omega) rfl rfl ?_
        exact lw_19 C hI hi5 (next hi5)
      · refine g_switch hZ (off := 630) 662 dL_law_32 (by omega) (by omega) (by omega) rfl rfl ?_
        exact lw_20 C hI hi5 (next hi5)
      · refine g_switch hZ (off := 653) 685 dL_law_32 (by omega) (by omega) (by omega) rfl rfl ?_
        exact lw_21 C hI hi5 (next hi5)
      · refine g_switch hZ (off := 666) 698 dL_law_32 (by omega) (by omega) (by omega) rfl rfl ?_
        exact lw_22 C hI hi5 (next hi5)
      · refine g_switch hZ (off := 689) 721 dL_law_32 (by omega) (by omega) (by omega) rfl rfl ?_
        exact lw_23 C hI hi5 (next hi5)
      · refine g_switch hZ (off := 702) 734 dL_law_32 (by omega) (by omega) (by omega) rfl rfl ?_
        exact lw_24 C hI hi5 (next hi5)
      · refine g_switch hZ (off := 715) 747 dL_law_32 (by omega) (by omega) (by omega) rfl rfl ?_
        exact lw_25 C hI hi5 (next hi5)
      · refine g_switchOut hZ 760 dL_law_32 (by omega) (Or.inr (by omega)) rfl ?_
        exact next hi5 S hI
