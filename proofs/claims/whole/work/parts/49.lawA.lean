/-! the law: its rules, the invariant between the class and the reference -/
theorem kL_13 : gV RL 13 mX8_reset 2 := ⟨TS_in 284 (by decide +kernel) rfl, TS_in 56 (by decide +kernel) rfl, TS_in 281 (by decide +kernel) rfl, TS_in 282 (by decide +kernel) rfl, TS_in 283 (by decide +kernel) rfl, by decide +kernel⟩
theorem kL_17 : gV RL 17 mX9_reset 2 := ⟨TS_in 782 (by decide +kernel) rfl, TS_in 64 (by decide +kernel) rfl, TS_in 779 (by decide +kernel) rfl, TS_in 780 (by decide +kernel) rfl, TS_in 781 (by decide +kernel) rfl, by decide +kernel⟩
theorem kL_18 : gV RL 18 mX8_setField 2 := ⟨TS_in 303 (by decide +kernel) rfl, TS_in 56 (by decide +kernel) rfl, TS_in 300 (by decide +kernel) rfl, TS_in 301 (by decide +kernel) rfl, TS_in 302 (by decide +kernel) rfl, by decide +kernel⟩
theorem kL_21 : gV RL 21 mX9_setField 2 := ⟨TS_in 793 (by decide +kernel) rfl, TS_in 64 (by decide +kernel) rfl, TS_in 790 (by decide +kernel) rfl, TS_in 791 (by decide +kernel) rfl, TS_in 792 (by decide +kernel) rfl, by decide +kernel⟩
theorem kL_22 : gV RL 22 mX8_field 1 := ⟨TS_in 348 (by decide +kernel) rfl, TS_in 56 (by decide +kernel) rfl, TS_in 345 (by decide +kernel) rfl, TS_in 346 (by decide +kernel) rfl, TS_in 347 (by decide +kernel) rfl, by decide +kernel⟩
theorem kL_26 : gV RL 26 mX9_field 1 := ⟨TS_in 820 (by decide +kernel) rfl, TS_in 64 (by decide +kernel) rfl, TS_in 817 (by decide +kernel) rfl, TS_in 818 (by decide +kernel) rfl, TS_in 819 (by decide +kernel) rfl, by decide +kernel⟩
theorem kL_27 : gV RL 27 mX8_count 1 := ⟨TS_in 352 (by decide +kernel) rfl, TS_in 56 (by decide +kernel) rfl, TS_in 349 (by decide +kernel) rfl, TS_in 350 (by decide +kernel) rfl, TS_in 351 (by decide +kernel) rfl, by decide +kernel⟩
theorem kL_30 : gV RL 30 mX9_count 1 := ⟨TS_in 824 (by decide +kernel) rfl, TS_in 64 (by decide +kernel) rfl, TS_in 821 (by decide +kernel) rfl, TS_in 822 (by decide +kernel) rfl, TS_in 823 (by decide +kernel) rfl, by decide +kernel⟩
theorem kL_31 : gV RL 31 mX8_isSeen 2 := ⟨TS_in 356 (by decide +kernel) rfl, TS_in 56 (by decide +kernel) rfl, TS_in 353 (by decide +kernel) rfl, TS_in 354 (by decide +kernel) rfl, TS_in 355 (by decide +kernel) rfl, by decide +kernel⟩
theorem kL_34 : gV RL 34 mX9_isSeen 2 := ⟨TS_in 828 (by decide +kernel) rfl, TS_in 64 (by decide +kernel) rfl, TS_in 825 (by decide +kernel) rfl, TS_in 826 (by decide +kernel) rfl, TS_in 827 (by decide +kernel) rfl, by decide +kernel⟩
theorem kL_35 : gV RL 35 mX8_undo 0 := ⟨TS_in 365 (by decide +kernel) rfl, TS_in 56 (by decide +kernel) rfl, TS_in 362 (by decide +kernel) rfl, TS_in 363 (by decide +kernel) rfl, TS_in 364 (by decide +kernel) rfl, by decide +kernel⟩
theorem kL_39 : gV RL 39 mX9_undo 0 := ⟨TS_in 840 (by decide +kernel) rfl, TS_in 64 (by decide +kernel) rfl, TS_in 837 (by decide +kernel) rfl, TS_in 838 (by decide +kernel) rfl, TS_in 839 (by decide +kernel) rfl, by decide +kernel⟩
theorem kL_40 : gV RL 40 mX8_move 4 := ⟨TS_in 369 (by decide +kernel) rfl, TS_in 56 (by decide +kernel) rfl, TS_in 366 (by decide +kernel) rfl, TS_in 367 (by decide +kernel) rfl, TS_in 368 (by decide +kernel) rfl, by decide +kernel⟩
theorem kL_44 : gV RL 44 mX9_move 4 := ⟨TS_in 844 (by decide +kernel) rfl, TS_in 64 (by decide +kernel) rfl, TS_in 841 (by decide +kernel) rfl, TS_in 842 (by decide +kernel) rfl, TS_in 843 (by decide +kernel) rfl, by decide +kernel⟩
theorem kL_45 : gV RL 45 mX8_moves 1 := ⟨TS_in 417 (by decide +kernel) rfl, TS_in 56 (by decide +kernel) rfl, TS_in 414 (by decide +kernel) rfl, TS_in 415 (by decide +kernel) rfl, TS_in 416 (by decide +kernel) rfl, by decide +kernel⟩
theorem kL_48 : gV RL 48 mX9_moves 1 := ⟨TS_in 864 (by decide +kernel) rfl, TS_in 64 (by decide +kernel) rfl, TS_in 861 (by decide +kernel) rfl, TS_in 862 (by decide +kernel) rfl, TS_in 863 (by decide +kernel) rfl, by decide +kernel⟩
theorem kL_49 : gV RL 49 mX8_moveAt 3 := ⟨TS_in 421 (by decide +kernel) rfl, TS_in 56 (by decide +kernel) rfl, TS_in 418 (by decide +kernel) rfl, TS_in 419 (by decide +kernel) rfl, TS_in 420 (by decide +kernel) rfl, by decide +kernel⟩
theorem kL_53 : gV RL 53 mX9_moveAt 3 := ⟨TS_in 868 (by decide +kernel) rfl, TS_in 64 (by decide +kernel) rfl, TS_in 865 (by decide +kernel) rfl, TS_in 866 (by decide +kernel) rfl, TS_in 867 (by decide +kernel) rfl, by decide +kernel⟩
theorem kL_54 : gV RL 54 mX8_regions 0 := ⟨TS_in 428 (by decide +kernel) rfl, TS_in 56 (by decide +kernel) rfl, TS_in 425 (by decide +kernel) rfl, TS_in 426 (by decide +kernel) rfl, TS_in 427 (by decide +kernel) rfl, by decide +kernel⟩
theorem kL_57 : gV RL 57 mX9_regions 0 := ⟨TS_in 872 (by decide +kernel) rfl, TS_in 64 (by decide +kernel) rfl, TS_in 869 (by decide +kernel) rfl, TS_in 870 (by decide +kernel) rfl, TS_in 871 (by decide +kernel) rfl, by decide +kernel⟩
theorem kL_58 : gV RL 58 mX8_regionOf 1 := ⟨TS_in 447 (by decide +kernel) rfl, TS_in 56 (by decide +kernel) rfl, TS_in 444 (by decide +kernel) rfl, TS_in 445 (by decide +kernel) rfl, TS_in 446 (by decide +kernel) rfl, by decide +kernel⟩
theorem kL_61 : gV RL 61 mX9_regionOf 1 := ⟨TS_in 884 (by decide +kernel) rfl, TS_in 64 (by decide +kernel) rfl, TS_in 881 (by decide +kernel) rfl, TS_in 882 (by decide +kernel) rfl, TS_in 883 (by decide +kernel) rfl, by decide +kernel⟩
theorem kL_62 : gV RL 62 mX8_regionInfo 2 := ⟨TS_in 451 (by decide +kernel) rfl, TS_in 56 (by decide +kernel) rfl, TS_in 448 (by decide +kernel) rfl, TS_in 449 (by decide +kernel) rfl, TS_in 450 (by decide +kernel) rfl, by decide +kernel⟩
theorem kL_65 : gV RL 65 mX9_regionInfo 2 := ⟨TS_in 888 (by decide +kernel) rfl, TS_in 64 (by decide +kernel) rfl, TS_in 885 (by decide +kernel) rfl, TS_in 886 (by decide +kernel) rfl, TS_in 887 (by decide +kernel) rfl, by decide +kernel⟩
theorem kL_66 : gV RL 66 mX8_value 1 := ⟨TS_in 463 (by decide +kernel) rfl, TS_in 56 (by decide +kernel) rfl, TS_in 460 (by decide +kernel) rfl, TS_in 461 (by decide +kernel) rfl, TS_in 462 (by decide +kernel) rfl, by decide +kernel⟩
theorem kL_69 : gV RL 69 mX9_value 1 := ⟨TS_in 904 (by decide +kernel) rfl, TS_in 64 (by decide +kernel) rfl, TS_in 901 (by decide +kernel) rfl, TS_in 902 (by decide +kernel) rfl, TS_in 903 (by decide +kernel) rfl, by decide +kernel⟩
theorem kL_70 : gV RL 70 mX8_lead 0 := ⟨TS_in 523 (by decide +kernel) rfl, TS_in 56 (by decide +kernel) rfl, TS_in 520 (by decide +kernel) rfl, TS_in 521 (by decide +kernel) rfl, TS_in 522 (by decide +kernel) rfl, by decide +kernel⟩
theorem kL_73 : gV RL 73 mX9_lead 0 := ⟨TS_in 940 (by decide +kernel) rfl, TS_in 64 (by decide +kernel) rfl, TS_in 937 (by decide +kernel) rfl, TS_in 938 (by decide +kernel) rfl, TS_in 939 (by decide +kernel) rfl, by decide +kernel⟩
theorem kL_74 : gV RL 74 mX8_kept 1 := ⟨TS_in 527 (by decide +kernel) rfl, TS_in 56 (by decide +kernel) rfl, TS_in 524 (by decide +kernel) rfl, TS_in 525 (by decide +kernel) rfl, TS_in 526 (by decide +kernel) rfl, by decide +kernel⟩
theorem kL_77 : gV RL 77 mX9_kept 1 := ⟨TS_in 944 (by decide +kernel) rfl, TS_in 64 (by decide +kernel) rfl, TS_in 941 (by decide +kernel) rfl, TS_in 942 (by decide +kernel) rfl, TS_in 943 (by decide +kernel) rfl, by decide +kernel⟩
theorem kL_78 : gV RL 78 mX8_positions 1 := ⟨TS_in 531 (by decide +kernel) rfl, TS_in 56 (by decide +kernel) rfl, TS_in 528 (by decide +kernel) rfl, TS_in 529 (by decide +kernel) rfl, TS_in 530 (by decide +kernel) rfl, by decide +kernel⟩
theorem kL_81 : gV RL 81 mX9_positions 1 := ⟨TS_in 948 (by decide +kernel) rfl, TS_in 64 (by decide +kernel) rfl, TS_in 945 (by decide +kernel) rfl, TS_in 946 (by decide +kernel) rfl, TS_in 947 (by decide +kernel) rfl, by decide +kernel⟩
theorem kL_82 : gV RL 82 mX8_wins 1 := ⟨TS_in 535 (by decide +kernel) rfl, TS_in 56 (by decide +kernel) rfl, TS_in 532 (by decide +kernel) rfl, TS_in 533 (by decide +kernel) rfl, TS_in 534 (by decide +kernel) rfl, by decide +kernel⟩
theorem kL_85 : gV RL 85 mX9_wins 1 := ⟨TS_in 952 (by decide +kernel) rfl, TS_in 64 (by decide +kernel) rfl, TS_in 949 (by decide +kernel) rfl, TS_in 950 (by decide +kernel) rfl, TS_in 951 (by decide +kernel) rfl, by decide +kernel⟩
theorem kL_86 : gV RL 86 mX8_outcome 0 := ⟨TS_in 553 (by decide +kernel) rfl, TS_in 56 (by decide +kernel) rfl, TS_in 550 (by decide +kernel) rfl, TS_in 551 (by decide +kernel) rfl, TS_in 552 (by decide +kernel) rfl, by decide +kernel⟩
theorem kL_89 : gV RL 89 mX9_outcome 0 := ⟨TS_in 960 (by decide +kernel) rfl, TS_in 64 (by decide +kernel) rfl, TS_in 957 (by decide +kernel) rfl, TS_in 958 (by decide +kernel) rfl, TS_in 959 (by decide +kernel) rfl, by decide +kernel⟩
theorem kL_90 : gV RL 90 mX8_outcomeOf 1 := ⟨TS_in 561 (by decide +kernel) rfl, TS_in 56 (by decide +kernel) rfl, TS_in 558 (by decide +kernel) rfl, TS_in 559 (by decide +kernel) rfl, TS_in 560 (by decide +kernel) rfl, by decide +kernel⟩
theorem kL_93 : gV RL 93 mX9_outcomeOf 1 := ⟨TS_in 968 (by decide +kernel) rfl, TS_in 64 (by decide +kernel) rfl, TS_in 965 (by decide +kernel) rfl, TS_in 966 (by decide +kernel) rfl, TS_in 967 (by decide +kernel) rfl, by decide +kernel⟩
theorem kL_94 : gV RL 94 mX8_bestMove 1 := ⟨TS_in 565 (by decide +kernel) rfl, TS_in 56 (by decide +kernel) rfl, TS_in 562 (by decide +kernel) rfl, TS_in 563 (by decide +kernel) rfl, TS_in 564 (by decide +kernel) rfl, by decide +kernel⟩
theorem kL_97 : gV RL 97 mX9_bestMove 1 := ⟨TS_in 972 (by decide +kernel) rfl, TS_in 64 (by decide +kernel) rfl, TS_in 969 (by decide +kernel) rfl, TS_in 970 (by decide +kernel) rfl, TS_in 971 (by decide +kernel) rfl, by decide +kernel⟩
theorem kL_98 : gV RL 98 mX8_length 1 := ⟨TS_in 570 (by decide +kernel) rfl, TS_in 56 (by decide +kernel) rfl, TS_in 567 (by decide +kernel) rfl, TS_in 568 (by decide +kernel) rfl, TS_in 569 (by decide +kernel) rfl, by decide +kernel⟩
theorem kL_101 : gV RL 101 mX9_length 1 := ⟨TS_in 976 (by decide +kernel) rfl, TS_in 64 (by decide +kernel) rfl, TS_in 973 (by decide +kernel) rfl, TS_in 974 (by decide +kernel) rfl, TS_in 975 (by decide +kernel) rfl, by decide +kernel⟩
theorem kL_102 : gV RL 102 mX8_zugzwangs 0 := ⟨TS_in 578 (by decide +kernel) rfl, TS_in 56 (by decide +kernel) rfl, TS_in 575 (by decide +kernel) rfl, TS_in 576 (by decide +kernel) rfl, TS_in 577 (by decide +kernel) rfl, by decide +kernel⟩
theorem kL_105 : gV RL 105 mX9_zugzwangs 0 := ⟨TS_in 980 (by decide +kernel) rfl, TS_in 64 (by decide +kernel) rfl, TS_in 977 (by decide +kernel) rfl, TS_in 978 (by decide +kernel) rfl, TS_in 979 (by decide +kernel) rfl, by decide +kernel⟩
theorem kL_106 : gV RL 106 mX8_type 1 := ⟨TS_in 586 (by decide +kernel) rfl, TS_in 56 (by decide +kernel) rfl, TS_in 583 (by decide +kernel) rfl, TS_in 584 (by decide +kernel) rfl, TS_in 585 (by decide +kernel) rfl, by decide +kernel⟩
theorem kL_109 : gV RL 109 mX9_type 1 := ⟨TS_in 989 (by decide +kernel) rfl, TS_in 64 (by decide +kernel) rfl, TS_in 986 (by decide +kernel) rfl, TS_in 987 (by decide +kernel) rfl, TS_in 988 (by decide +kernel) rfl, by decide +kernel⟩
theorem kL_110 : gV RL 110 mX8_clearText 0 := ⟨TS_in 594 (by decide +kernel) rfl, TS_in 56 (by decide +kernel) rfl, TS_in 591 (by decide +kernel) rfl, TS_in 592 (by decide +kernel) rfl, TS_in 593 (by decide +kernel) rfl, by decide +kernel⟩
theorem kL_113 : gV RL 113 mX9_clearText 0 := ⟨TS_in 993 (by decide +kernel) rfl, TS_in 64 (by decide +kernel) rfl, TS_in 990 (by decide +kernel) rfl, TS_in 991 (by decide +kernel) rfl, TS_in 992 (by decide +kernel) rfl, by decide +kernel⟩
theorem kL_114 : gV RL 114 mX8_fault 0 := ⟨TS_in 598 (by decide +kernel) rfl, TS_in 56 (by decide +kernel) rfl, TS_in 595 (by decide +kernel) rfl, TS_in 596 (by decide +kernel) rfl, TS_in 597 (by decide +kernel) rfl, by decide +kernel⟩
theorem kL_117 : gV RL 117 mX9_fault 0 := ⟨TS_in 997 (by decide +kernel) rfl, TS_in 64 (by decide +kernel) rfl, TS_in 994 (by decide +kernel) rfl, TS_in 995 (by decide +kernel) rfl, TS_in 996 (by decide +kernel) rfl, by decide +kernel⟩
theorem kL_118 : gV RL 118 mX8_run 0 := ⟨TS_in 691 (by decide +kernel) rfl, TS_in 56 (by decide +kernel) rfl, TS_in 688 (by decide +kernel) rfl, TS_in 689 (by decide +kernel) rfl, TS_in 690 (by decide +kernel) rfl, by decide +kernel⟩
theorem kL_121 : gV RL 121 mX9_run 0 := ⟨TS_in 1027 (by decide +kernel) rfl, TS_in 64 (by decide +kernel) rfl, TS_in 1024 (by decide +kernel) rfl, TS_in 1025 (by decide +kernel) rfl, TS_in 1026 (by decide +kernel) rfl, by decide +kernel⟩

abbrev mLw : gM := (x, code, 4, ret, 12, 440)
def LwR (v : Option Value) (_ : gS) : Prop := v = some (iV 1)
/-- the law's walk: the judgement, the script's cells, its length -/
def LwC (Z : gS → List (Nat × Value) → Nat → List Value → Prop) (E : gE) (b : Nat) (xs : Nat → Int) (L : Nat) : Prop := Cx Z E LAY mLw LwR ∧ (∀ (S : gS) (Lc : List (Nat × Value)) (pc : Nat) (st : List Value) (z : Int) (k : Nat), z = (k : Int) → k < L → decode code pc = .ok (.iaload, 1) → Z S Lc (pc + 1) (iV (xs k) :: st) → Z S Lc pc (iV z :: .ref b :: st)) ∧ (∀ (S : gS) (Lc : List (Nat × Value)) (pc : Nat) (st : List Value), decode code pc = .ok (.arraylength, 1) → Z S Lc (pc + 1) (iV (L : Int) :: st) → Z S Lc pc (.ref b :: st)) ∧ gad E 99 = 1 ∧ (∀ k, R32 (xs k)) ∧ L ≤ 2560
abbrev lwL (E : gE) (b i : Nat) : List (Nat × Value) := [(0, .ref b), (1, .ref (gad E 0)), (2, .ref (gad E 27)), (3, iV (i : Int))]
theorem g_same {Z : gS → List (Nat × Value) → Nat → List Value → Prop} {E : gE} {lay : List gC} {M : gM} {Rt : Option Value → gS → Prop} {S : gS} {L : List (Nat × Value)} {pc : Nat} {st : List Value} (hZ : Cx Z E lay M Rt) {a off : Int} (tgt : Nat) (d : decode M.2.1 pc = .ok (.if_icmp .eq off, 3)) (ht : (pc : Int) + off = (tgt : Int)) (k : Z S L tgt st) : Z S L pc (iV a :: iV a :: st) := by
  obtain ⟨p, e, R, s, m, args, below, meth, c, A, H0, cells, slots, Q, rfl, hx, hb, hml, hown, hts, hK, hA, ho, hR, -, -, -, -⟩ := hZ
  intro H locs ls hP hD hS hl
  exact lv_icmp_eq hx hb d ht (fun _ => k H locs ls hP hD hS hl) (fun h => absurd rfl h)
def SCR : List Nat := [6, 7, 10, 11, 12, 13, 14, 15, 16, 20, 21, 22, 23, 24, 25, 26, 30, 31, 40, 43, 55, 56, 57, 59, 60, 62, 66, 67, 68, 69, 70, 71, 72, 74]
def hOK (hs : List hEn) : Prop := ∀ e ∈ hs, gOK e.1 e.2.1 (e.1 * e.2.1) ∧ mBd e.2.2 (e.1 * e.2.1) ∧ mC3 e.2.2 (e.1 * e.2.1)
theorem hOK.push {hs : List hEn} {w h n : Nat} {B : Nat → Int} (ho : hOK hs) (hg : gOK w h n) (hB : mBd B n) (hc : mC3 B n) : hOK (hpush hs (w, h, B)) := by
  have e := hg.2.2.2.2.1
  subst e
  intro x hx
  unfold hpush at hx
  rcases List.mem_append.mp hx with z | z
  · by_cases q : hs.length = 8
    · rw [if_pos q] at z; exact ho x (List.mem_of_mem_tail z)
    · rw [if_neg q] at z; exact ho x z
  · rw [List.mem_singleton] at z
    subst z
    exact ⟨hg, hB, hc⟩
def Iv (S : gS) (w h n : Nat) (hs : List hEn) (kp : List (Nat × Nat)) (tx : List Nat) : Prop := xG S w h n ∧ mG S w h n ∧ XB S n (S 61) ∧ mBd (S 61) n ∧ mC3 (S 61) n ∧ XHs S hs ∧ mHs S hs ∧ hOK hs ∧ XK S (kX n kp) ∧ mKp S kp ∧ kcan n kp ∧ S 33 0 = S 54 0 ∧ XT S tx ∧ mTx S tx
def Inv (S : gS) : Prop := ∃ (w h n : Nat) (hs : List hEn) (kp : List (Nat × Nat)) (tx : List Nat), Iv S w h n hs kp tx
theorem Iv.scr {S S1 : gS} {w h n : Nat} {hs : List hEn} {kp : List (Nat × Nat)} {tx : List Nat} (hI : Iv S w h n hs kp tx) (he : Eqx SCR S S1) : Iv S1 w h n hs kp tx := by
  obtain ⟨a1, a2, a3, a4, a5, a6, a7, a8, a9, a10, a11, a12, a13, a14⟩ := hI
  have e61 : S1 61 = S 61 := funext fun j => he 61 j rfl
  exact ⟨a1.x he rfl, a2.x he rfl rfl, by rw [e61]; exact a3.x he rfl, by rw [e61]; exact a4, by rw [e61]; exact a5, a6.x he rfl rfl rfl rfl, a7.x he rfl rfl, a8, a9.x he rfl rfl rfl, a10.x he rfl rfl rfl, a11, by rw [he 33 0 rfl, he 54 0 rfl]; exact a12, a13.x he rfl rfl, a14.x he rfl rfl⟩
theorem Iv.kp {S S1 : gS} {w h n : Nat} {hs : List hEn} {kp kq : List (Nat × Nat)} {tx : List Nat} (hI : Iv S w h n hs kp tx) (he : Eqx (SCR ++ [32, 33, 34, 35, 53, 54, 64, 65]) S S1) (k1 : XK S1 (kX n kq)) (k2 : mKp S1 kq) (k3 : kcan n kq) (k4 : S1 33 0 = S1 54 0) : Iv S1 w h n hs kq tx := by
  obtain ⟨a1, a2, a3, a4, a5, a6, a7, a8, a9, a10, a11, a12, a13, a14⟩ := hI
  have e61 : S1 61 = S 61 := funext fun j => he 61 j rfl
  exact ⟨a1.x he rfl, a2.x he rfl rfl, by rw [e61]; exact a3.x he rfl, by rw [e61]; exact a4, by rw [e61]; exact a5, a6.x he rfl rfl rfl rfl, a7.x he rfl rfl, a8, k1, k2, k3, k4, a13.x he rfl rfl, a14.x he rfl rfl⟩
theorem Iv.tx {S S1 : gS} {w h n : Nat} {hs : List hEn} {kp : List (Nat × Nat)} {tx ty : List Nat} (hI : Iv S w h n hs kp tx) (he : Eqx (SCR ++ [41, 42, 58, 73]) S S1) (k1 : XT S1 ty) (k2 : mTx S1 ty) : Iv S1 w h n hs kp ty := by
  obtain ⟨a1, a2, a3, a4, a5, a6, a7, a8, a9, a10, a11, a12, a13, a14⟩ := hI
  have e61 : S1 61 = S 61 := funext fun j => he 61 j rfl
  exact ⟨a1.x he rfl, a2.x he rfl rfl, by rw [e61]; exact a3.x he rfl, by rw [e61]; exact a4, by rw [e61]; exact a5, a6.x he rfl rfl rfl rfl, a7.x he rfl rfl, a8, a9.x he rfl rfl rfl, a10.x he rfl rfl rfl, a11, by rw [he 33 0 rfl, he 54 0 rfl]; exact a12, k1, k2⟩
theorem Iv.bd {S S1 : gS} {w h n : Nat} {hs hq : List hEn} {kp : List (Nat × Nat)} {tx : List Nat} (hI : Iv S w h n hs kp tx) (he : Eqx (SCR ++ [0, 36, 37, 38, 39, 52, 61, 63]) S S1) (k1 : XB S1 n (S1 61)) (k2 : mBd (S1 61) n) (k3 : mC3 (S1 61) n) (k4 : XHs S1 hq) (k5 : mHs S1 hq) (k6 : hOK hq) : Iv S1 w h n hq kp tx := by
  obtain ⟨a1, a2, a3, a4, a5, a6, a7, a8, a9, a10, a11, a12, a13, a14⟩ := hI
  exact ⟨a1.x he rfl, a2.x he rfl rfl, k1, k2, k3, k4, k5, k6, a9.x he rfl rfl rfl, a10.x he rfl rfl rfl, a11, by rw [he 33 0 rfl, he 54 0 rfl]; exact a12, a13.x he rfl rfl, a14.x he rfl rfl⟩
theorem cntZ_none {f : Nat → Int} {z : Int} : ∀ {n : Nat}, (∀ k, k < n → f k ≠ z) → cntZ f z n = 0
  | 0, _ => rfl
  | n + 1, h => by
    rw [cntZ, cntZ_none (fun k hk => h k (by omega)), if_neg (h n (by omega))]
theorem rnF_ok {w h n : Nat} {tx : List Nat} (hg : gOK w h n) : ∀ (f i : Nat) (B : Nat → Int) (k : Nat), mBd B n → mC3 B n → mBd (rnF w n tx f i B k).2 n ∧ mC3 (rnF w n tx f i B k).2 n
  | 0, _, _, _, hB, hc => ⟨hB, hc⟩
  | f + 1, i, B, k, hB, hc => by
    rw [rnF]
    by_cases q : i < tx.length
    · rw [if_pos q]
      cases hp : pcmd tx i with
      | none => exact ⟨hB, hc⟩
      | some p =>
        simp only
        cases he : exC w n B p.1 p.2.1 with
        | none => exact ⟨hB, hc⟩
        | some B2 =>
          obtain ⟨b1, b2⟩ := exC_ok hg hB hc he
          exact rnF_ok hg f _ B2 _ b1 b2
    · rw [if_neg q]; exact ⟨hB, hc⟩
