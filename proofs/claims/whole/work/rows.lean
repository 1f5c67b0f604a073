section
-- ===== PART A: goes FIRST, ahead of the names: the tables' words, and 'selects' of the private methods out of them =====
/-- a private method of a class that the tables say can be made, by its rows of tables_1 -/
def lw_okq (q : MethodName × Nat) : Prop := (q.1.cls ≠ "java/lang/invoke/MethodHandle" ∧ q.1.cls ≠ "java/lang/invoke/VarHandle") ∧ Cond.instantiable q.1.cls q.2 ∈ tables_1 ∧ Cond.privateMethod q.1 ∈ tables_1 ∧ Cond.instanceMethod q.1 ∈ tables_1
theorem lw_p0 : lw_okq (⟨"BurningFields$Grid", "stepFrom", "(II)I"⟩, 5) := ⟨⟨by decide +kernel, by decide +kernel⟩, List.mem_of_getElem? (i := 26) (by decide +kernel), List.mem_of_getElem? (i := 195) (by decide +kernel), List.mem_of_getElem? (i := 196) (by decide +kernel)⟩
theorem lw_p1 : lw_okq (⟨"BurningFields$History", "dropOldest", "()V"⟩, 4) := ⟨⟨by decide +kernel, by decide +kernel⟩, List.mem_of_getElem? (i := 145) (by decide +kernel), List.mem_of_getElem? (i := 238) (by decide +kernel), List.mem_of_getElem? (i := 239) (by decide +kernel)⟩
theorem lw_p2 : lw_okq (⟨"BurningFields", "putContents", "(II)I"⟩, 9) := ⟨⟨by decide +kernel, by decide +kernel⟩, List.mem_of_getElem? (i := 18) (by decide +kernel), List.mem_of_getElem? (i := 250) (by decide +kernel), List.mem_of_getElem? (i := 251) (by decide +kernel)⟩
theorem lw_p3 : lw_okq (⟨"BurningFields", "maskOf", "(I)I"⟩, 9) := ⟨⟨by decide +kernel, by decide +kernel⟩, List.mem_of_getElem? (i := 18) (by decide +kernel), List.mem_of_getElem? (i := 270) (by decide +kernel), List.mem_of_getElem? (i := 271) (by decide +kernel)⟩
theorem lw_p4 : lw_okq (⟨"BurningFields", "makeMove", "(IIII)I"⟩, 9) := ⟨⟨by decide +kernel, by decide +kernel⟩, List.mem_of_getElem? (i := 18) (by decide +kernel), List.mem_of_getElem? (i := 316) (by decide +kernel), List.mem_of_getElem? (i := 317) (by decide +kernel)⟩
theorem lw_p5 : lw_okq (⟨"BurningFields$MoveList", "addMovesFrom", "(II)V"⟩, 3) := ⟨⟨by decide +kernel, by decide +kernel⟩, List.mem_of_getElem? (i := 57) (by decide +kernel), List.mem_of_getElem? (i := 326) (by decide +kernel), List.mem_of_getElem? (i := 327) (by decide +kernel)⟩
theorem lw_p6 : lw_okq (⟨"BurningFields$MoveList", "addBurns", "(II)V"⟩, 3) := ⟨⟨by decide +kernel, by decide +kernel⟩, List.mem_of_getElem? (i := 57) (by decide +kernel), List.mem_of_getElem? (i := 331) (by decide +kernel), List.mem_of_getElem? (i := 332) (by decide +kernel)⟩
theorem lw_p7 : lw_okq (⟨"BurningFields", "divideBoard", "()V"⟩, 9) := ⟨⟨by decide +kernel, by decide +kernel⟩, List.mem_of_getElem? (i := 18) (by decide +kernel), List.mem_of_getElem? (i := 375) (by decide +kernel), List.mem_of_getElem? (i := 376) (by decide +kernel)⟩
theorem lw_p8 : lw_okq (⟨"BurningFields", "kindOf", "(I)I"⟩, 9) := ⟨⟨by decide +kernel, by decide +kernel⟩, List.mem_of_getElem? (i := 18) (by decide +kernel), List.mem_of_getElem? (i := 402) (by decide +kernel), List.mem_of_getElem? (i := 403) (by decide +kernel)⟩
theorem lw_p9 : lw_okq (⟨"BurningFields", "isShared", "(I)Z"⟩, 9) := ⟨⟨by decide +kernel, by decide +kernel⟩, List.mem_of_getElem? (i := 18) (by decide +kernel), List.mem_of_getElem? (i := 410) (by decide +kernel), List.mem_of_getElem? (i := 411) (by decide +kernel)⟩
theorem lw_p10 : lw_okq (⟨"BurningFields", "askValue", "(I)I"⟩, 9) := ⟨⟨by decide +kernel, by decide +kernel⟩, List.mem_of_getElem? (i := 18) (by decide +kernel), List.mem_of_getElem? (i := 414) (by decide +kernel), List.mem_of_getElem? (i := 415) (by decide +kernel)⟩
theorem lw_p11 : lw_okq (⟨"BurningFields", "aloneOf", "(I)J"⟩, 9) := ⟨⟨by decide +kernel, by decide +kernel⟩, List.mem_of_getElem? (i := 18) (by decide +kernel), List.mem_of_getElem? (i := 418) (by decide +kernel), List.mem_of_getElem? (i := 419) (by decide +kernel)⟩
theorem lw_p12 : lw_okq (⟨"BurningFields$Play", "add", "(J)Z"⟩, 8) := ⟨⟨by decide +kernel, by decide +kernel⟩, List.mem_of_getElem? (i := 75) (by decide +kernel), List.mem_of_getElem? (i := 433) (by decide +kernel), List.mem_of_getElem? (i := 434) (by decide +kernel)⟩
theorem lw_p13 : lw_okq (⟨"BurningFields$Play", "slotOf", "(J)I"⟩, 8) := ⟨⟨by decide +kernel, by decide +kernel⟩, List.mem_of_getElem? (i := 75) (by decide +kernel), List.mem_of_getElem? (i := 437) (by decide +kernel), List.mem_of_getElem? (i := 438) (by decide +kernel)⟩
theorem lw_p14 : lw_okq (⟨"BurningFields$Play", "sideAt", "(I)I"⟩, 8) := ⟨⟨by decide +kernel, by decide +kernel⟩, List.mem_of_getElem? (i := 75) (by decide +kernel), List.mem_of_getElem? (i := 442) (by decide +kernel), List.mem_of_getElem? (i := 443) (by decide +kernel)⟩
theorem lw_p15 : lw_okq (⟨"BurningFields", "findOutcome", "(J)I"⟩, 9) := ⟨⟨by decide +kernel, by decide +kernel⟩, List.mem_of_getElem? (i := 18) (by decide +kernel), List.mem_of_getElem? (i := 500) (by decide +kernel), List.mem_of_getElem? (i := 501) (by decide +kernel)⟩
def lw_privs_1 : List (MethodName × Nat) := [(⟨"BurningFields$Grid", "stepFrom", "(II)I"⟩, 5), (⟨"BurningFields$History", "dropOldest", "()V"⟩, 4), (⟨"BurningFields", "putContents", "(II)I"⟩, 9), (⟨"BurningFields", "maskOf", "(I)I"⟩, 9), (⟨"BurningFields", "makeMove", "(IIII)I"⟩, 9), (⟨"BurningFields$MoveList", "addMovesFrom", "(II)V"⟩, 3), (⟨"BurningFields$MoveList", "addBurns", "(II)V"⟩, 3), (⟨"BurningFields", "divideBoard", "()V"⟩, 9), (⟨"BurningFields", "kindOf", "(I)I"⟩, 9), (⟨"BurningFields", "isShared", "(I)Z"⟩, 9), (⟨"BurningFields", "askValue", "(I)I"⟩, 9), (⟨"BurningFields", "aloneOf", "(I)J"⟩, 9), (⟨"BurningFields$Play", "add", "(J)Z"⟩, 8), (⟨"BurningFields$Play", "slotOf", "(J)I"⟩, 8), (⟨"BurningFields$Play", "sideAt", "(I)I"⟩, 8), (⟨"BurningFields", "findOutcome", "(J)I"⟩, 9)]
theorem lw_r1 : ∀ q ∈ lw_privs_1, lw_okq q := List.forall_mem_cons.mpr ⟨lw_p0, List.forall_mem_cons.mpr ⟨lw_p1, List.forall_mem_cons.mpr ⟨lw_p2, List.forall_mem_cons.mpr ⟨lw_p3, List.forall_mem_cons.mpr ⟨lw_p4, List.forall_mem_cons.mpr ⟨lw_p5, List.forall_mem_cons.mpr ⟨lw_p6, List.forall_mem_cons.mpr ⟨lw_p7, List.forall_mem_cons.mpr ⟨lw_p8, List.forall_mem_cons.mpr ⟨lw_p9, List.forall_mem_cons.mpr ⟨lw_p10, List.forall_mem_cons.mpr ⟨lw_p11, List.forall_mem_cons.mpr ⟨lw_p12, List.forall_mem_cons.mpr ⟨lw_p13, List.forall_mem_cons.mpr ⟨lw_p14, List.forall_mem_cons.mpr ⟨lw_p15, fun _ h => absurd h List.not_mem_nil⟩⟩⟩⟩⟩⟩⟩⟩⟩⟩⟩⟩⟩⟩⟩⟩
theorem lw_p16 : lw_okq (⟨"BurningFields$Script", "findWord", "(I)I"⟩, 4) := ⟨⟨by decide +kernel, by decide +kernel⟩, List.mem_of_getElem? (i := 168) (by decide +kernel), List.mem_of_getElem? (i := 553) (by decide +kernel), List.mem_of_getElem? (i := 554) (by decide +kernel)⟩
theorem lw_p17 : lw_okq (⟨"BurningFields$Script", "hasText", "(ILjava/lang/String;)Z"⟩, 4) := ⟨⟨by decide +kernel, by decide +kernel⟩, List.mem_of_getElem? (i := 168) (by decide +kernel), List.mem_of_getElem? (i := 566) (by decide +kernel), List.mem_of_getElem? (i := 567) (by decide +kernel)⟩
theorem lw_p18 : lw_okq (⟨"BurningFields$Script", "hasSign", "(IC)Z"⟩, 4) := ⟨⟨by decide +kernel, by decide +kernel⟩, List.mem_of_getElem? (i := 168) (by decide +kernel), List.mem_of_getElem? (i := 618) (by decide +kernel), List.mem_of_getElem? (i := 619) (by decide +kernel)⟩
theorem lw_p19 : lw_okq (⟨"BurningFields$Script", "readNumber", "(II)I"⟩, 4) := ⟨⟨by decide +kernel, by decide +kernel⟩, List.mem_of_getElem? (i := 168) (by decide +kernel), List.mem_of_getElem? (i := 625) (by decide +kernel), List.mem_of_getElem? (i := 626) (by decide +kernel)⟩
theorem lw_p20 : lw_okq (⟨"BurningFields$Script", "hasDigit", "(I)Z"⟩, 4) := ⟨⟨by decide +kernel, by decide +kernel⟩, List.mem_of_getElem? (i := 168) (by decide +kernel), List.mem_of_getElem? (i := 629) (by decide +kernel), List.mem_of_getElem? (i := 630) (by decide +kernel)⟩
theorem lw_p21 : lw_okq (⟨"BurningFields", "executeCommand", "()I"⟩, 9) := ⟨⟨by decide +kernel, by decide +kernel⟩, List.mem_of_getElem? (i := 18) (by decide +kernel), List.mem_of_getElem? (i := 639) (by decide +kernel), List.mem_of_getElem? (i := 640) (by decide +kernel)⟩
theorem lw_p22 : lw_okq (⟨"BurningFieldsModel", "keeps", "()V"⟩, 25) := ⟨⟨by decide +kernel, by decide +kernel⟩, List.mem_of_getElem? (i := 643) (by decide +kernel), List.mem_of_getElem? (i := 732) (by decide +kernel), List.mem_of_getElem? (i := 733) (by decide +kernel)⟩
theorem lw_p23 : lw_okq (⟨"BurningFieldsModel", "inWay", "(II)I"⟩, 25) := ⟨⟨by decide +kernel, by decide +kernel⟩, List.mem_of_getElem? (i := 643) (by decide +kernel), List.mem_of_getElem? (i := 740) (by decide +kernel), List.mem_of_getElem? (i := 741) (by decide +kernel)⟩
theorem lw_p24 : lw_okq (⟨"BurningFieldsModel", "isField", "(I)Z"⟩, 25) := ⟨⟨by decide +kernel, by decide +kernel⟩, List.mem_of_getElem? (i := 643) (by decide +kernel), List.mem_of_getElem? (i := 744) (by decide +kernel), List.mem_of_getElem? (i := 745) (by decide +kernel)⟩
theorem lw_p25 : lw_okq (⟨"BurningFieldsModel", "size", "()I"⟩, 25) := ⟨⟨by decide +kernel, by decide +kernel⟩, List.mem_of_getElem? (i := 643) (by decide +kernel), List.mem_of_getElem? (i := 748) (by decide +kernel), List.mem_of_getElem? (i := 749) (by decide +kernel)⟩
theorem lw_p26 : lw_okq (⟨"BurningFieldsModel", "counted", "(I)I"⟩, 25) := ⟨⟨by decide +kernel, by decide +kernel⟩, List.mem_of_getElem? (i := 643) (by decide +kernel), List.mem_of_getElem? (i := 755) (by decide +kernel), List.mem_of_getElem? (i := 756) (by decide +kernel)⟩
theorem lw_p27 : lw_okq (⟨"BurningFieldsModel", "puts", "(II)I"⟩, 25) := ⟨⟨by decide +kernel, by decide +kernel⟩, List.mem_of_getElem? (i := 643) (by decide +kernel), List.mem_of_getElem? (i := 759) (by decide +kernel), List.mem_of_getElem? (i := 760) (by decide +kernel)⟩
theorem lw_p28 : lw_okq (⟨"BurningFieldsModel", "shows", "()V"⟩, 25) := ⟨⟨by decide +kernel, by decide +kernel⟩, List.mem_of_getElem? (i := 643) (by decide +kernel), List.mem_of_getElem? (i := 775) (by decide +kernel), List.mem_of_getElem? (i := 776) (by decide +kernel)⟩
theorem lw_p29 : lw_okq (⟨"BurningFieldsModel", "sees", "(II)Z"⟩, 25) := ⟨⟨by decide +kernel, by decide +kernel⟩, List.mem_of_getElem? (i := 643) (by decide +kernel), List.mem_of_getElem? (i := 779) (by decide +kernel), List.mem_of_getElem? (i := 780) (by decide +kernel)⟩
theorem lw_p30 : lw_okq (⟨"BurningFieldsModel", "noMove", "(IIII)I"⟩, 25) := ⟨⟨by decide +kernel, by decide +kernel⟩, List.mem_of_getElem? (i := 643) (by decide +kernel), List.mem_of_getElem? (i := 791) (by decide +kernel), List.mem_of_getElem? (i := 792) (by decide +kernel)⟩
theorem lw_p31 : lw_okq (⟨"BurningFieldsModel", "movesNow", "(I)I"⟩, 25) := ⟨⟨by decide +kernel, by decide +kernel⟩, List.mem_of_getElem? (i := 643) (by decide +kernel), List.mem_of_getElem? (i := 795) (by decide +kernel), List.mem_of_getElem? (i := 796) (by decide +kernel)⟩
def lw_privs_2 : List (MethodName × Nat) := [(⟨"BurningFields$Script", "findWord", "(I)I"⟩, 4), (⟨"BurningFields$Script", "hasText", "(ILjava/lang/String;)Z"⟩, 4), (⟨"BurningFields$Script", "hasSign", "(IC)Z"⟩, 4), (⟨"BurningFields$Script", "readNumber", "(II)I"⟩, 4), (⟨"BurningFields$Script", "hasDigit", "(I)Z"⟩, 4), (⟨"BurningFields", "executeCommand", "()I"⟩, 9), (⟨"BurningFieldsModel", "keeps", "()V"⟩, 25), (⟨"BurningFieldsModel", "inWay", "(II)I"⟩, 25), (⟨"BurningFieldsModel", "isField", "(I)Z"⟩, 25), (⟨"BurningFieldsModel", "size", "()I"⟩, 25), (⟨"BurningFieldsModel", "counted", "(I)I"⟩, 25), (⟨"BurningFieldsModel", "puts", "(II)I"⟩, 25), (⟨"BurningFieldsModel", "shows", "()V"⟩, 25), (⟨"BurningFieldsModel", "sees", "(II)Z"⟩, 25), (⟨"BurningFieldsModel", "noMove", "(IIII)I"⟩, 25), (⟨"BurningFieldsModel", "movesNow", "(I)I"⟩, 25)]
theorem lw_r2 : ∀ q ∈ lw_privs_2, lw_okq q := List.forall_mem_cons.mpr ⟨lw_p16, List.forall_mem_cons.mpr ⟨lw_p17, List.forall_mem_cons.mpr ⟨lw_p18, List.forall_mem_cons.mpr ⟨lw_p19, List.forall_mem_cons.mpr ⟨lw_p20, List.forall_mem_cons.mpr ⟨lw_p21, List.forall_mem_cons.mpr ⟨lw_p22, List.forall_mem_cons.mpr ⟨lw_p23, List.forall_mem_cons.mpr ⟨lw_p24, List.forall_mem_cons.mpr ⟨lw_p25, List.forall_mem_cons.mpr ⟨lw_p26, List.forall_mem_cons.mpr ⟨lw_p27, List.forall_mem_cons.mpr ⟨lw_p28, List.forall_mem_cons.mpr ⟨lw_p29, List.forall_mem_cons.mpr ⟨lw_p30, List.forall_mem_cons.mpr ⟨lw_p31, fun _ h => absurd h List.not_mem_nil⟩⟩⟩⟩⟩⟩⟩⟩⟩⟩⟩⟩⟩⟩⟩⟩
theorem lw_p32 : lw_okq (⟨"BurningFieldsModel", "lists", "(I)V"⟩, 25) := ⟨⟨by decide +kernel, by decide +kernel⟩, List.mem_of_getElem? (i := 643) (by decide +kernel), List.mem_of_getElem? (i := 799) (by decide +kernel), List.mem_of_getElem? (i := 800) (by decide +kernel)⟩
theorem lw_p33 : lw_okq (⟨"BurningFieldsModel", "goes", "(IIII)I"⟩, 25) := ⟨⟨by decide +kernel, by decide +kernel⟩, List.mem_of_getElem? (i := 643) (by decide +kernel), List.mem_of_getElem? (i := 803) (by decide +kernel), List.mem_of_getElem? (i := 804) (by decide +kernel)⟩
theorem lw_p34 : lw_okq (⟨"BurningFieldsModel", "parts", "()V"⟩, 25) := ⟨⟨by decide +kernel, by decide +kernel⟩, List.mem_of_getElem? (i := 643) (by decide +kernel), List.mem_of_getElem? (i := 819) (by decide +kernel), List.mem_of_getElem? (i := 820) (by decide +kernel)⟩
theorem lw_p35 : lw_okq (⟨"BurningFieldsModel", "areNear", "(II)Z"⟩, 25) := ⟨⟨by decide +kernel, by decide +kernel⟩, List.mem_of_getElem? (i := 643) (by decide +kernel), List.mem_of_getElem? (i := 823) (by decide +kernel), List.mem_of_getElem? (i := 824) (by decide +kernel)⟩
theorem lw_p36 : lw_okq (⟨"BurningFieldsModel", "lowest", "(I)I"⟩, 25) := ⟨⟨by decide +kernel, by decide +kernel⟩, List.mem_of_getElem? (i := 643) (by decide +kernel), List.mem_of_getElem? (i := 835) (by decide +kernel), List.mem_of_getElem? (i := 836) (by decide +kernel)⟩
theorem lw_p37 : lw_okq (⟨"BurningFieldsModel", "kind", "(I)I"⟩, 25) := ⟨⟨by decide +kernel, by decide +kernel⟩, List.mem_of_getElem? (i := 643) (by decide +kernel), List.mem_of_getElem? (i := 839) (by decide +kernel), List.mem_of_getElem? (i := 840) (by decide +kernel)⟩
theorem lw_p38 : lw_okq (⟨"BurningFieldsModel", "within", "(II)I"⟩, 25) := ⟨⟨by decide +kernel, by decide +kernel⟩, List.mem_of_getElem? (i := 643) (by decide +kernel), List.mem_of_getElem? (i := 843) (by decide +kernel), List.mem_of_getElem? (i := 844) (by decide +kernel)⟩
theorem lw_p39 : lw_okq (⟨"BurningFieldsModel", "valueOf", "(I)I"⟩, 25) := ⟨⟨by decide +kernel, by decide +kernel⟩, List.mem_of_getElem? (i := 643) (by decide +kernel), List.mem_of_getElem? (i := 851) (by decide +kernel), List.mem_of_getElem? (i := 852) (by decide +kernel)⟩
theorem lw_p40 : lw_okq (⟨"BurningFieldsModel", "coded", "(I)I"⟩, 25) := ⟨⟨by decide +kernel, by decide +kernel⟩, List.mem_of_getElem? (i := 643) (by decide +kernel), List.mem_of_getElem? (i := 855) (by decide +kernel), List.mem_of_getElem? (i := 856) (by decide +kernel)⟩
theorem lw_p41 : lw_okq (⟨"BurningFieldsModel", "isReached", "(IIZ)Z"⟩, 25) := ⟨⟨by decide +kernel, by decide +kernel⟩, List.mem_of_getElem? (i := 643) (by decide +kernel), List.mem_of_getElem? (i := 859) (by decide +kernel), List.mem_of_getElem? (i := 860) (by decide +kernel)⟩
theorem lw_p42 : lw_okq (⟨"BurningFieldsModel", "placeOf", "(I)I"⟩, 25) := ⟨⟨by decide +kernel, by decide +kernel⟩, List.mem_of_getElem? (i := 643) (by decide +kernel), List.mem_of_getElem? (i := 863) (by decide +kernel), List.mem_of_getElem? (i := 864) (by decide +kernel)⟩
theorem lw_p43 : lw_okq (⟨"BurningFieldsModel", "decodes", "(I)V"⟩, 25) := ⟨⟨by decide +kernel, by decide +kernel⟩, List.mem_of_getElem? (i := 643) (by decide +kernel), List.mem_of_getElem? (i := 871) (by decide +kernel), List.mem_of_getElem? (i := 872) (by decide +kernel)⟩
theorem lw_p44 : lw_okq (⟨"BurningFieldsModel", "behind", "(II)I"⟩, 25) := ⟨⟨by decide +kernel, by decide +kernel⟩, List.mem_of_getElem? (i := 643) (by decide +kernel), List.mem_of_getElem? (i := 875) (by decide +kernel), List.mem_of_getElem? (i := 876) (by decide +kernel)⟩
theorem lw_p45 : lw_okq (⟨"BurningFieldsModel", "weighs", "(Z)V"⟩, 25) := ⟨⟨by decide +kernel, by decide +kernel⟩, List.mem_of_getElem? (i := 643) (by decide +kernel), List.mem_of_getElem? (i := 879) (by decide +kernel), List.mem_of_getElem? (i := 880) (by decide +kernel)⟩
theorem lw_p46 : lw_okq (⟨"BurningFieldsModel", "winsFrom", "(II)I"⟩, 25) := ⟨⟨by decide +kernel, by decide +kernel⟩, List.mem_of_getElem? (i := 643) (by decide +kernel), List.mem_of_getElem? (i := 899) (by decide +kernel), List.mem_of_getElem? (i := 900) (by decide +kernel)⟩
theorem lw_p47 : lw_okq (⟨"BurningFieldsModel", "outcomeFrom", "(I)I"⟩, 25) := ⟨⟨by decide +kernel, by decide +kernel⟩, List.mem_of_getElem? (i := 643) (by decide +kernel), List.mem_of_getElem? (i := 907) (by decide +kernel), List.mem_of_getElem? (i := 908) (by decide +kernel)⟩
def lw_privs_3 : List (MethodName × Nat) := [(⟨"BurningFieldsModel", "lists", "(I)V"⟩, 25), (⟨"BurningFieldsModel", "goes", "(IIII)I"⟩, 25), (⟨"BurningFieldsModel", "parts", "()V"⟩, 25), (⟨"BurningFieldsModel", "areNear", "(II)Z"⟩, 25), (⟨"BurningFieldsModel", "lowest", "(I)I"⟩, 25), (⟨"BurningFieldsModel", "kind", "(I)I"⟩, 25), (⟨"BurningFieldsModel", "within", "(II)I"⟩, 25), (⟨"BurningFieldsModel", "valueOf", "(I)I"⟩, 25), (⟨"BurningFieldsModel", "coded", "(I)I"⟩, 25), (⟨"BurningFieldsModel", "isReached", "(IIZ)Z"⟩, 25), (⟨"BurningFieldsModel", "placeOf", "(I)I"⟩, 25), (⟨"BurningFieldsModel", "decodes", "(I)V"⟩, 25), (⟨"BurningFieldsModel", "behind", "(II)I"⟩, 25), (⟨"BurningFieldsModel", "weighs", "(Z)V"⟩, 25), (⟨"BurningFieldsModel", "winsFrom", "(II)I"⟩, 25), (⟨"BurningFieldsModel", "outcomeFrom", "(I)I"⟩, 25)]
theorem lw_r3 : ∀ q ∈ lw_privs_3, lw_okq q := List.forall_mem_cons.mpr ⟨lw_p32, List.forall_mem_cons.mpr ⟨lw_p33, List.forall_mem_cons.mpr ⟨lw_p34, List.forall_mem_cons.mpr ⟨lw_p35, List.forall_mem_cons.mpr ⟨lw_p36, List.forall_mem_cons.mpr ⟨lw_p37, List.forall_mem_cons.mpr ⟨lw_p38, List.forall_mem_cons.mpr ⟨lw_p39, List.forall_mem_cons.mpr ⟨lw_p40, List.forall_mem_cons.mpr ⟨lw_p41, List.forall_mem_cons.mpr ⟨lw_p42, List.forall_mem_cons.mpr ⟨lw_p43, List.forall_mem_cons.mpr ⟨lw_p44, List.forall_mem_cons.mpr ⟨lw_p45, List.forall_mem_cons.mpr ⟨lw_p46, List.forall_mem_cons.mpr ⟨lw_p47, fun _ h => absurd h List.not_mem_nil⟩⟩⟩⟩⟩⟩⟩⟩⟩⟩⟩⟩⟩⟩⟩⟩
theorem lw_p48 : lw_okq (⟨"BurningFieldsModel", "collects", "()V"⟩, 25) := ⟨⟨by decide +kernel, by decide +kernel⟩, List.mem_of_getElem? (i := 643) (by decide +kernel), List.mem_of_getElem? (i := 927) (by decide +kernel), List.mem_of_getElem? (i := 928) (by decide +kernel)⟩
theorem lw_p49 : lw_okq (⟨"BurningFieldsModel", "faultOf", "()I"⟩, 25) := ⟨⟨by decide +kernel, by decide +kernel⟩, List.mem_of_getElem? (i := 643) (by decide +kernel), List.mem_of_getElem? (i := 944) (by decide +kernel), List.mem_of_getElem? (i := 945) (by decide +kernel)⟩
theorem lw_p50 : lw_okq (⟨"BurningFieldsModel", "isCommand", "()Z"⟩, 25) := ⟨⟨by decide +kernel, by decide +kernel⟩, List.mem_of_getElem? (i := 643) (by decide +kernel), List.mem_of_getElem? (i := 948) (by decide +kernel), List.mem_of_getElem? (i := 949) (by decide +kernel)⟩
theorem lw_p51 : lw_okq (⟨"BurningFieldsModel", "letters", "()I"⟩, 25) := ⟨⟨by decide +kernel, by decide +kernel⟩, List.mem_of_getElem? (i := 643) (by decide +kernel), List.mem_of_getElem? (i := 952) (by decide +kernel), List.mem_of_getElem? (i := 953) (by decide +kernel)⟩
theorem lw_p52 : lw_okq (⟨"BurningFieldsModel", "charAt", "(I)I"⟩, 25) := ⟨⟨by decide +kernel, by decide +kernel⟩, List.mem_of_getElem? (i := 643) (by decide +kernel), List.mem_of_getElem? (i := 956) (by decide +kernel), List.mem_of_getElem? (i := 957) (by decide +kernel)⟩
theorem lw_p53 : lw_okq (⟨"BurningFieldsModel", "isNumber", "(I)Z"⟩, 25) := ⟨⟨by decide +kernel, by decide +kernel⟩, List.mem_of_getElem? (i := 643) (by decide +kernel), List.mem_of_getElem? (i := 966) (by decide +kernel), List.mem_of_getElem? (i := 967) (by decide +kernel)⟩
theorem lw_p54 : lw_okq (⟨"BurningFieldsModel", "does", "()Z"⟩, 25) := ⟨⟨by decide +kernel, by decide +kernel⟩, List.mem_of_getElem? (i := 643) (by decide +kernel), List.mem_of_getElem? (i := 974) (by decide +kernel), List.mem_of_getElem? (i := 975) (by decide +kernel)⟩
def lw_privs_4 : List (MethodName × Nat) := [(⟨"BurningFieldsModel", "collects", "()V"⟩, 25), (⟨"BurningFieldsModel", "faultOf", "()I"⟩, 25), (⟨"BurningFieldsModel", "isCommand", "()Z"⟩, 25), (⟨"BurningFieldsModel", "letters", "()I"⟩, 25), (⟨"BurningFieldsModel", "charAt", "(I)I"⟩, 25), (⟨"BurningFieldsModel", "isNumber", "(I)Z"⟩, 25), (⟨"BurningFieldsModel", "does", "()Z"⟩, 25)]
theorem lw_r4 : ∀ q ∈ lw_privs_4, lw_okq q := List.forall_mem_cons.mpr ⟨lw_p48, List.forall_mem_cons.mpr ⟨lw_p49, List.forall_mem_cons.mpr ⟨lw_p50, List.forall_mem_cons.mpr ⟨lw_p51, List.forall_mem_cons.mpr ⟨lw_p52, List.forall_mem_cons.mpr ⟨lw_p53, List.forall_mem_cons.mpr ⟨lw_p54, fun _ h => absurd h List.not_mem_nil⟩⟩⟩⟩⟩⟩⟩
def lw_privs : List (MethodName × Nat) := lw_privs_1 ++ (lw_privs_2 ++ (lw_privs_3 ++ (lw_privs_4)))
def lw_tbl : List Cond := k2_sels lw_privs ++ tables_1
theorem lw_privs_ok : ∀ q ∈ lw_privs, lw_okq q := by
  show ∀ q ∈ lw_privs_1 ++ (lw_privs_2 ++ (lw_privs_3 ++ (lw_privs_4))), lw_okq q
  exact List.forall_mem_append.mpr ⟨lw_r1, List.forall_mem_append.mpr ⟨lw_r2, List.forall_mem_append.mpr ⟨lw_r3, lw_r4⟩⟩⟩
def RX0 : String := "BurningFields$Contents"
def TX0 : u_T := fun k => match k with
  | _ => ("", "", "", false)
def tyX0 : Nat → FieldType := fun k => match k with
  | _ => .int
theorem nmX0 : ∀ a, a < 0 → ∀ b, b < 0 → a ≠ b → (TX0 a).2.1 ≠ (TX0 b).2.1 := by decide +kernel
theorem tyX0_ok : ∀ k, k < 0 → parseFieldDescriptor (TX0 k).2.2.1 = some (tyX0 k) := by decide +kernel
abbrev cX0_of : ByteArray := prog_2_method_2_code
def yX0_of : MethodName := ⟨RX0, "of", "(III)J"⟩
abbrev cX0_mask : ByteArray := prog_2_method_3_code
def yX0_mask : MethodName := ⟨RX0, "mask", "(JI)I"⟩
abbrev cX0_freeMask : ByteArray := prog_2_method_4_code
def yX0_freeMask : MethodName := ⟨RX0, "freeMask", "(JI)I"⟩
abbrev cX0_at : ByteArray := prog_2_method_5_code
def yX0_at : MethodName := ⟨RX0, "at", "(JI)I"⟩
abbrev cX0_with : ByteArray := prog_2_method_6_code
def yX0_with : MethodName := ⟨RX0, "with", "(JII)J"⟩
abbrev cX0_bit : ByteArray := prog_2_method_7_code
def yX0_bit : MethodName := ⟨RX0, "bit", "(II)J"⟩
def RX1 : String := "BurningFields$Grid"
def TX1 : u_T := fun k => match k with
  | 0 => ("BurningFields$Grid", "width", "I", false)
  | 1 => ("BurningFields$Grid", "height", "I", false)
  | 2 => ("BurningFields$Grid", "fields", "I", false)
  | 3 => ("BurningFields$Grid", "all", "I", false)
  | _ => ("BurningFields$Grid", "next", "[I", true)
def tyX1 : Nat → FieldType := fun k => match k with
  | 0 => .int
  | 1 => .int
  | 2 => .int
  | 3 => .int
  | _ => .array .int
theorem nmX1 : ∀ a, a < 5 → ∀ b, b < 5 → a ≠ b → (TX1 a).2.1 ≠ (TX1 b).2.1 := by decide +kernel
theorem tyX1_ok : ∀ k, k < 5 → parseFieldDescriptor (TX1 k).2.2.1 = some (tyX1 k) := by decide +kernel
abbrev cX1_init : ByteArray := prog_3_method_1_code
def yX1_init : MethodName := ⟨RX1, "<init>", "()V"⟩
abbrev cX1_resize : ByteArray := prog_3_method_2_code
def yX1_resize : MethodName := ⟨RX1, "resize", "(II)V"⟩
abbrev cX1_stepFrom : ByteArray := prog_3_method_3_code
def yX1_stepFrom : MethodName := ⟨RX1, "stepFrom", "(II)I"⟩
abbrev cX1_has : ByteArray := prog_3_method_4_code
def yX1_has : MethodName := ⟨RX1, "has", "(I)Z"⟩
abbrev cX1_seenFrom : ByteArray := prog_3_method_5_code
def yX1_seenFrom : MethodName := ⟨RX1, "seenFrom", "(II)I"⟩
abbrev cX1_neighboursOf : ByteArray := prog_3_method_6_code
def yX1_neighboursOf : MethodName := ⟨RX1, "neighboursOf", "(I)I"⟩
def RX2 : String := "BurningFields$History"
def TX2 : u_T := fun k => match k with
  | 0 => ("BurningFields$History", "widths", "[I", true)
  | 1 => ("BurningFields$History", "heights", "[I", true)
  | 2 => ("BurningFields$History", "boards", "[J", true)
  | _ => ("BurningFields$History", "size", "I", false)
def tyX2 : Nat → FieldType := fun k => match k with
  | 0 => .array .int
  | 1 => .array .int
  | 2 => .array .long
  | _ => .int
theorem nmX2 : ∀ a, a < 4 → ∀ b, b < 4 → a ≠ b → (TX2 a).2.1 ≠ (TX2 b).2.1 := by decide +kernel
theorem tyX2_ok : ∀ k, k < 4 → parseFieldDescriptor (TX2 k).2.2.1 = some (tyX2 k) := by decide +kernel
abbrev cX2_init : ByteArray := prog_4_method_1_code
def yX2_init : MethodName := ⟨RX2, "<init>", "()V"⟩
abbrev cX2_record : ByteArray := prog_4_method_2_code
def yX2_record : MethodName := ⟨RX2, "record", "(LBurningFields$Grid;J)V"⟩
abbrev cX2_dropOldest : ByteArray := prog_4_method_3_code
def yX2_dropOldest : MethodName := ⟨RX2, "dropOldest", "()V"⟩
def RX3 : String := "BurningFields$MoveList"
def TX3 : u_T := fun k => match k with
  | 0 => ("BurningFields$MoveList", "grid", "LBurningFields$Grid;", true)
  | 1 => ("BurningFields$MoveList", "rows", "[I", true)
  | _ => ("BurningFields$MoveList", "size", "I", false)
def tyX3 : Nat → FieldType := fun k => match k with
  | 0 => .object "BurningFields$Grid"
  | 1 => .array .int
  | _ => .int
theorem nmX3 : ∀ a, a < 3 → ∀ b, b < 3 → a ≠ b → (TX3 a).2.1 ≠ (TX3 b).2.1 := by decide +kernel
theorem tyX3_ok : ∀ k, k < 3 → parseFieldDescriptor (TX3 k).2.2.1 = some (tyX3 k) := by decide +kernel
abbrev cX3_init : ByteArray := prog_5_method_1_code
def yX3_init : MethodName := ⟨RX3, "<init>", "(LBurningFields$Grid;)V"⟩
abbrev cX3_fill : ByteArray := prog_5_method_2_code
def yX3_fill : MethodName := ⟨RX3, "fill", "(JI)V"⟩
abbrev cX3_addMovesFrom : ByteArray := prog_5_method_3_code
def yX3_addMovesFrom : MethodName := ⟨RX3, "addMovesFrom", "(II)V"⟩
abbrev cX3_addBurns : ByteArray := prog_5_method_4_code
def yX3_addBurns : MethodName := ⟨RX3, "addBurns", "(II)V"⟩
abbrev cX3_find : ByteArray := prog_5_method_5_code
def yX3_find : MethodName := ⟨RX3, "find", "(III)I"⟩
abbrev cX3_fromOf : ByteArray := prog_5_method_6_code
def yX3_fromOf : MethodName := ⟨RX3, "fromOf", "(I)I"⟩
abbrev cX3_toOf : ByteArray := prog_5_method_7_code
def yX3_toOf : MethodName := ⟨RX3, "toOf", "(I)I"⟩
abbrev cX3_burntOf : ByteArray := prog_5_method_8_code
def yX3_burntOf : MethodName := ⟨RX3, "burntOf", "(I)I"⟩
abbrev cX3_after : ByteArray := prog_5_method_9_code
def yX3_after : MethodName := ⟨RX3, "after", "(JII)J"⟩
def RX4 : String := "BurningFields$Play"
def TX4 : u_T := fun k => match k with
  | 0 => ("BurningFields$Play", "list", "LBurningFields$MoveList;", true)
  | 1 => ("BurningFields$Play", "found", "[J", true)
  | 2 => ("BurningFields$Play", "won", "[Z", true)
  | 3 => ("BurningFields$Play", "rest", "[I", true)
  | 4 => ("BurningFields$Play", "slots", "[I", true)
  | 5 => ("BurningFields$Play", "firstSide", "I", false)
  | 6 => ("BurningFields$Play", "secondSide", "I", false)
  | _ => ("BurningFields$Play", "size", "I", false)
def tyX4 : Nat → FieldType := fun k => match k with
  | 0 => .object "BurningFields$MoveList"
  | 1 => .array .long
  | 2 => .array .boolean
  | 3 => .array .int
  | 4 => .array .int
  | 5 => .int
  | 6 => .int
  | _ => .int
theorem nmX4 : ∀ a, a < 8 → ∀ b, b < 8 → a ≠ b → (TX4 a).2.1 ≠ (TX4 b).2.1 := by decide +kernel
theorem tyX4_ok : ∀ k, k < 8 → parseFieldDescriptor (TX4 k).2.2.1 = some (tyX4 k) := by decide +kernel
abbrev cX4_init : ByteArray := prog_6_method_1_code
def yX4_init : MethodName := ⟨RX4, "<init>", "(LBurningFields$MoveList;)V"⟩
abbrev cX4_explore : ByteArray := prog_6_method_2_code
def yX4_explore : MethodName := ⟨RX4, "explore", "(JII)Z"⟩
abbrev cX4_add : ByteArray := prog_6_method_3_code
def yX4_add : MethodName := ⟨RX4, "add", "(J)Z"⟩
abbrev cX4_slotOf : ByteArray := prog_6_method_4_code
def yX4_slotOf : MethodName := ⟨RX4, "slotOf", "(J)I"⟩
abbrev cX4_find : ByteArray := prog_6_method_5_code
def yX4_find : MethodName := ⟨RX4, "find", "(J)I"⟩
abbrev cX4_sideAt : ByteArray := prog_6_method_6_code
def yX4_sideAt : MethodName := ⟨RX4, "sideAt", "(I)I"⟩
abbrev cX4_solve : ByteArray := prog_6_method_7_code
def yX4_solve : MethodName := ⟨RX4, "solve", "()V"⟩
abbrev cX4_findMostMoves : ByteArray := prog_6_method_8_code
def yX4_findMostMoves : MethodName := ⟨RX4, "findMostMoves", "()I"⟩
abbrev cX4_contentsOf : ByteArray := prog_6_method_9_code
def yX4_contentsOf : MethodName := ⟨RX4, "contentsOf", "(I)J"⟩
abbrev cX4_isWon : ByteArray := prog_6_method_10_code
def yX4_isWon : MethodName := ⟨RX4, "isWon", "(I)Z"⟩
abbrev cX4_restOf : ByteArray := prog_6_method_11_code
def yX4_restOf : MethodName := ⟨RX4, "restOf", "(I)I"⟩
def RX5 : String := "BurningFields$RegionList"
def TX5 : u_T := fun k => match k with
  | 0 => ("BurningFields$RegionList", "masks", "[I", true)
  | _ => ("BurningFields$RegionList", "size", "I", false)
def tyX5 : Nat → FieldType := fun k => match k with
  | 0 => .array .int
  | _ => .int
theorem nmX5 : ∀ a, a < 2 → ∀ b, b < 2 → a ≠ b → (TX5 a).2.1 ≠ (TX5 b).2.1 := by decide +kernel
theorem tyX5_ok : ∀ k, k < 2 → parseFieldDescriptor (TX5 k).2.2.1 = some (tyX5 k) := by decide +kernel
abbrev cX5_init : ByteArray := prog_7_method_1_code
def yX5_init : MethodName := ⟨RX5, "<init>", "()V"⟩
abbrev cX5_has : ByteArray := prog_7_method_2_code
def yX5_has : MethodName := ⟨RX5, "has", "(I)Z"⟩
abbrev cX5_divide : ByteArray := prog_7_method_3_code
def yX5_divide : MethodName := ⟨RX5, "divide", "(LBurningFields$Grid;I)V"⟩
abbrev cX5_spread : ByteArray := prog_7_method_4_code
def yX5_spread : MethodName := ⟨RX5, "spread", "(LBurningFields$Grid;II)I"⟩
def RX6 : String := "BurningFields$Script"
def TX6 : u_T := fun k => match k with
  | 0 => ("BurningFields$Script", "signs", "[C", true)
  | 1 => ("BurningFields$Script", "numbers", "[I", true)
  | 2 => ("BurningFields$Script", "word", "I", false)
  | _ => ("BurningFields$Script", "size", "I", false)
def tyX6 : Nat → FieldType := fun k => match k with
  | 0 => .array .char
  | 1 => .array .int
  | 2 => .int
  | _ => .int
theorem nmX6 : ∀ a, a < 4 → ∀ b, b < 4 → a ≠ b → (TX6 a).2.1 ≠ (TX6 b).2.1 := by decide +kernel
theorem tyX6_ok : ∀ k, k < 4 → parseFieldDescriptor (TX6 k).2.2.1 = some (tyX6 k) := by decide +kernel
abbrev cX6_init : ByteArray := prog_8_method_1_code
def yX6_init : MethodName := ⟨RX6, "<init>", "()V"⟩
abbrev cX6_append : ByteArray := prog_8_method_2_code
def yX6_append : MethodName := ⟨RX6, "append", "(C)Z"⟩
abbrev cX6_findFault : ByteArray := prog_8_method_3_code
def yX6_findFault : MethodName := ⟨RX6, "findFault", "()I"⟩
abbrev cX6_readCommand : ByteArray := prog_8_method_4_code
def yX6_readCommand : MethodName := ⟨RX6, "readCommand", "(I)I"⟩
abbrev cX6_findWord : ByteArray := prog_8_method_5_code
def yX6_findWord : MethodName := ⟨RX6, "findWord", "(I)I"⟩
abbrev cX6_hasText : ByteArray := prog_8_method_6_code
def yX6_hasText : MethodName := ⟨RX6, "hasText", "(ILjava/lang/String;)Z"⟩
abbrev cX6_hasSign : ByteArray := prog_8_method_7_code
def yX6_hasSign : MethodName := ⟨RX6, "hasSign", "(IC)Z"⟩
abbrev cX6_readNumber : ByteArray := prog_8_method_8_code
def yX6_readNumber : MethodName := ⟨RX6, "readNumber", "(II)I"⟩
abbrev cX6_hasDigit : ByteArray := prog_8_method_9_code
def yX6_hasDigit : MethodName := ⟨RX6, "hasDigit", "(I)Z"⟩
abbrev cX6_textOf : ByteArray := prog_8_method_10_code
def yX6_textOf : MethodName := ⟨RX6, "textOf", "(I)Ljava/lang/String;"⟩
abbrev cX6_numbersOf : ByteArray := prog_8_method_11_code
def yX6_numbersOf : MethodName := ⟨RX6, "numbersOf", "(I)I"⟩
def RX7 : String := "BurningFields$ValueTable"
def TX7 : u_T := fun k => match k with
  | 0 => ("BurningFields$ValueTable", "arrangements", "[J", true)
  | 1 => ("BurningFields$ValueTable", "numbers", "[I", true)
  | 2 => ("BurningFields$ValueTable", "size", "I", false)
  | _ => ("BurningFields$ValueTable", "hits", "I", false)
def tyX7 : Nat → FieldType := fun k => match k with
  | 0 => .array .long
  | 1 => .array .int
  | 2 => .int
  | _ => .int
theorem nmX7 : ∀ a, a < 4 → ∀ b, b < 4 → a ≠ b → (TX7 a).2.1 ≠ (TX7 b).2.1 := by decide +kernel
theorem tyX7_ok : ∀ k, k < 4 → parseFieldDescriptor (TX7 k).2.2.1 = some (tyX7 k) := by decide +kernel
abbrev cX7_init : ByteArray := prog_9_method_1_code
def yX7_init : MethodName := ⟨RX7, "<init>", "()V"⟩
abbrev cX7_empty : ByteArray := prog_9_method_2_code
def yX7_empty : MethodName := ⟨RX7, "empty", "()V"⟩
abbrev cX7_find : ByteArray := prog_9_method_3_code
def yX7_find : MethodName := ⟨RX7, "find", "(J)I"⟩
abbrev cX7_put : ByteArray := prog_9_method_4_code
def yX7_put : MethodName := ⟨RX7, "put", "(JI)V"⟩
def RX8 : String := "BurningFields"
def TX8 : u_T := fun k => match k with
  | 0 => ("BurningFields", "grid", "LBurningFields$Grid;", true)
  | 1 => ("BurningFields", "list", "LBurningFields$MoveList;", true)
  | 2 => ("BurningFields", "leftPlay", "LBurningFields$Play;", true)
  | 3 => ("BurningFields", "rightPlay", "LBurningFields$Play;", true)
  | 4 => ("BurningFields", "areas", "LBurningFields$RegionList;", true)
  | 5 => ("BurningFields", "table", "LBurningFields$ValueTable;", true)
  | 6 => ("BurningFields", "history", "LBurningFields$History;", true)
  | 7 => ("BurningFields", "script", "LBurningFields$Script;", true)
  | _ => ("BurningFields", "board", "J", false)
def tyX8 : Nat → FieldType := fun k => match k with
  | 0 => .object "BurningFields$Grid"
  | 1 => .object "BurningFields$MoveList"
  | 2 => .object "BurningFields$Play"
  | 3 => .object "BurningFields$Play"
  | 4 => .object "BurningFields$RegionList"
  | 5 => .object "BurningFields$ValueTable"
  | 6 => .object "BurningFields$History"
  | 7 => .object "BurningFields$Script"
  | _ => .long
theorem nmX8 : ∀ a, a < 9 → ∀ b, b < 9 → a ≠ b → (TX8 a).2.1 ≠ (TX8 b).2.1 := by decide +kernel
theorem tyX8_ok : ∀ k, k < 9 → parseFieldDescriptor (TX8 k).2.2.1 = some (tyX8 k) := by decide +kernel
abbrev cX8_init : ByteArray := prog_1_method_1_code
def yX8_init : MethodName := ⟨RX8, "<init>", "()V"⟩
abbrev cX8_reset : ByteArray := prog_1_method_2_code
def yX8_reset : MethodName := ⟨RX8, "reset", "(II)I"⟩
abbrev cX8_setField : ByteArray := prog_1_method_3_code
def yX8_setField : MethodName := ⟨RX8, "setField", "(II)I"⟩
abbrev cX8_field : ByteArray := prog_1_method_4_code
def yX8_field : MethodName := ⟨RX8, "field", "(I)I"⟩
abbrev cX8_count : ByteArray := prog_1_method_5_code
def yX8_count : MethodName := ⟨RX8, "count", "(I)I"⟩
abbrev cX8_isSeen : ByteArray := prog_1_method_6_code
def yX8_isSeen : MethodName := ⟨RX8, "isSeen", "(II)I"⟩
abbrev cX8_undo : ByteArray := prog_1_method_7_code
def yX8_undo : MethodName := ⟨RX8, "undo", "()I"⟩
abbrev cX8_move : ByteArray := prog_1_method_8_code
def yX8_move : MethodName := ⟨RX8, "move", "(IIII)I"⟩
abbrev cX8_moves : ByteArray := prog_1_method_9_code
def yX8_moves : MethodName := ⟨RX8, "moves", "(I)I"⟩
abbrev cX8_moveAt : ByteArray := prog_1_method_10_code
def yX8_moveAt : MethodName := ⟨RX8, "moveAt", "(III)I"⟩
abbrev cX8_regions : ByteArray := prog_1_method_11_code
def yX8_regions : MethodName := ⟨RX8, "regions", "()I"⟩
abbrev cX8_regionOf : ByteArray := prog_1_method_12_code
def yX8_regionOf : MethodName := ⟨RX8, "regionOf", "(I)I"⟩
abbrev cX8_regionInfo : ByteArray := prog_1_method_13_code
def yX8_regionInfo : MethodName := ⟨RX8, "regionInfo", "(II)I"⟩
abbrev cX8_value : ByteArray := prog_1_method_14_code
def yX8_value : MethodName := ⟨RX8, "value", "(I)I"⟩
abbrev cX8_lead : ByteArray := prog_1_method_15_code
def yX8_lead : MethodName := ⟨RX8, "lead", "()I"⟩
abbrev cX8_kept : ByteArray := prog_1_method_16_code
def yX8_kept : MethodName := ⟨RX8, "kept", "(I)I"⟩
abbrev cX8_positions : ByteArray := prog_1_method_17_code
def yX8_positions : MethodName := ⟨RX8, "positions", "(I)I"⟩
abbrev cX8_wins : ByteArray := prog_1_method_18_code
def yX8_wins : MethodName := ⟨RX8, "wins", "(I)I"⟩
abbrev cX8_outcome : ByteArray := prog_1_method_19_code
def yX8_outcome : MethodName := ⟨RX8, "outcome", "()I"⟩
abbrev cX8_outcomeOf : ByteArray := prog_1_method_20_code
def yX8_outcomeOf : MethodName := ⟨RX8, "outcomeOf", "(I)I"⟩
abbrev cX8_bestMove : ByteArray := prog_1_method_21_code
def yX8_bestMove : MethodName := ⟨RX8, "bestMove", "(I)I"⟩
abbrev cX8_length : ByteArray := prog_1_method_22_code
def yX8_length : MethodName := ⟨RX8, "length", "(I)I"⟩
abbrev cX8_zugzwangs : ByteArray := prog_1_method_23_code
def yX8_zugzwangs : MethodName := ⟨RX8, "zugzwangs", "()I"⟩
abbrev cX8_type : ByteArray := prog_1_method_24_code
def yX8_type : MethodName := ⟨RX8, "type", "(I)I"⟩
abbrev cX8_clearText : ByteArray := prog_1_method_25_code
def yX8_clearText : MethodName := ⟨RX8, "clearText", "()I"⟩
abbrev cX8_fault : ByteArray := prog_1_method_26_code
def yX8_fault : MethodName := ⟨RX8, "fault", "()I"⟩
abbrev cX8_run : ByteArray := prog_1_method_27_code
def yX8_run : MethodName := ⟨RX8, "run", "()I"⟩
abbrev cX8_isBoardSize : ByteArray := prog_1_method_28_code
def yX8_isBoardSize : MethodName := ⟨RX8, "isBoardSize", "(II)Z"⟩
abbrev cX8_isContents : ByteArray := prog_1_method_29_code
def yX8_isContents : MethodName := ⟨RX8, "isContents", "(I)Z"⟩
abbrev cX8_isSide : ByteArray := prog_1_method_30_code
def yX8_isSide : MethodName := ⟨RX8, "isSide", "(I)Z"⟩
abbrev cX8_otherSide : ByteArray := prog_1_method_31_code
def yX8_otherSide : MethodName := ⟨RX8, "otherSide", "(I)I"⟩
abbrev cX8_maskOf : ByteArray := prog_1_method_32_code
def yX8_maskOf : MethodName := ⟨RX8, "maskOf", "(I)I"⟩
abbrev cX8_putContents : ByteArray := prog_1_method_33_code
def yX8_putContents : MethodName := ⟨RX8, "putContents", "(II)I"⟩
abbrev cX8_makeMove : ByteArray := prog_1_method_34_code
def yX8_makeMove : MethodName := ⟨RX8, "makeMove", "(IIII)I"⟩
abbrev cX8_executeCommand : ByteArray := prog_1_method_35_code
def yX8_executeCommand : MethodName := ⟨RX8, "executeCommand", "()I"⟩
abbrev cX8_divideBoard : ByteArray := prog_1_method_36_code
def yX8_divideBoard : MethodName := ⟨RX8, "divideBoard", "()V"⟩
abbrev cX8_kindOf : ByteArray := prog_1_method_37_code
def yX8_kindOf : MethodName := ⟨RX8, "kindOf", "(I)I"⟩
abbrev cX8_isShared : ByteArray := prog_1_method_38_code
def yX8_isShared : MethodName := ⟨RX8, "isShared", "(I)Z"⟩
abbrev cX8_aloneOf : ByteArray := prog_1_method_39_code
def yX8_aloneOf : MethodName := ⟨RX8, "aloneOf", "(I)J"⟩
abbrev cX8_askValue : ByteArray := prog_1_method_40_code
def yX8_askValue : MethodName := ⟨RX8, "askValue", "(I)I"⟩
abbrev cX8_exploreAndSolve : ByteArray := prog_1_method_41_code
def yX8_exploreAndSolve : MethodName := ⟨RX8, "exploreAndSolve", "(LBurningFields$Play;JI)Z"⟩
abbrev cX8_findOutcome : ByteArray := prog_1_method_42_code
def yX8_findOutcome : MethodName := ⟨RX8, "findOutcome", "(J)I"⟩
def RX9 : String := "BurningFieldsModel"
def TX9 : u_T := fun k => match k with
  | 0 => ("BurningFieldsModel", "wide", "I", false)
  | 1 => ("BurningFieldsModel", "high", "I", false)
  | 2 => ("BurningFieldsModel", "board", "[I", true)
  | 3 => ("BurningFieldsModel", "b", "[I", true)
  | 4 => ("BurningFieldsModel", "before", "[I", true)
  | 5 => ("BurningFieldsModel", "undoMany", "I", false)
  | 6 => ("BurningFieldsModel", "keptMany", "I", false)
  | 7 => ("BurningFieldsModel", "keptBoard", "[I", true)
  | 8 => ("BurningFieldsModel", "keptValue", "[I", true)
  | 9 => ("BurningFieldsModel", "hits", "I", false)
  | 10 => ("BurningFieldsModel", "moveMany", "I", false)
  | 11 => ("BurningFieldsModel", "found", "[I", true)
  | 12 => ("BurningFieldsModel", "reached", "I", false)
  | 13 => ("BurningFieldsModel", "codes", "[I", true)
  | 14 => ("BurningFieldsModel", "slots", "[I", true)
  | 15 => ("BurningFieldsModel", "win", "[Z", true)
  | 16 => ("BurningFieldsModel", "far", "[I", true)
  | 17 => ("BurningFieldsModel", "losers", "I", false)
  | 18 => ("BurningFieldsModel", "losing", "[I", true)
  | 19 => ("BurningFieldsModel", "region", "[I", true)
  | 20 => ("BurningFieldsModel", "length", "I", false)
  | 21 => ("BurningFieldsModel", "text", "[I", true)
  | 22 => ("BurningFieldsModel", "spot", "I", false)
  | 23 => ("BurningFieldsModel", "word", "I", false)
  | _ => ("BurningFieldsModel", "number", "[I", true)
def tyX9 : Nat → FieldType := fun k => match k with
  | 0 => .int
  | 1 => .int
  | 2 => .array .int
  | 3 => .array .int
  | 4 => .array .int
  | 5 => .int
  | 6 => .int
  | 7 => .array .int
  | 8 => .array .int
  | 9 => .int
  | 10 => .int
  | 11 => .array .int
  | 12 => .int
  | 13 => .array .int
  | 14 => .array .int
  | 15 => .array .boolean
  | 16 => .array .int
  | 17 => .int
  | 18 => .array .int
  | 19 => .array .int
  | 20 => .int
  | 21 => .array .int
  | 22 => .int
  | 23 => .int
  | _ => .array .int
theorem nmX9 : ∀ a, a < 25 → ∀ b, b < 25 → a ≠ b → (TX9 a).2.1 ≠ (TX9 b).2.1 := by decide +kernel
theorem tyX9_ok : ∀ k, k < 25 → parseFieldDescriptor (TX9 k).2.2.1 = some (tyX9 k) := by decide +kernel
abbrev cX9_init : ByteArray := prog_11_method_1_code
def yX9_init : MethodName := ⟨RX9, "<init>", "()V"⟩
abbrev cX9_in : ByteArray := prog_11_method_2_code
def yX9_in : MethodName := ⟨RX9, "in", "(III)Z"⟩
abbrev cX9_size : ByteArray := prog_11_method_3_code
def yX9_size : MethodName := ⟨RX9, "size", "()I"⟩
abbrev cX9_isField : ByteArray := prog_11_method_4_code
def yX9_isField : MethodName := ⟨RX9, "isField", "(I)Z"⟩
abbrev cX9_isSide : ByteArray := prog_11_method_5_code
def yX9_isSide : MethodName := ⟨RX9, "isSide", "(I)Z"⟩
abbrev cX9_keeps : ByteArray := prog_11_method_6_code
def yX9_keeps : MethodName := ⟨RX9, "keeps", "()V"⟩
abbrev cX9_reset : ByteArray := prog_11_method_7_code
def yX9_reset : MethodName := ⟨RX9, "reset", "(II)I"⟩
abbrev cX9_counted : ByteArray := prog_11_method_8_code
def yX9_counted : MethodName := ⟨RX9, "counted", "(I)I"⟩
abbrev cX9_inWay : ByteArray := prog_11_method_9_code
def yX9_inWay : MethodName := ⟨RX9, "inWay", "(II)I"⟩
abbrev cX9_puts : ByteArray := prog_11_method_10_code
def yX9_puts : MethodName := ⟨RX9, "puts", "(II)I"⟩
abbrev cX9_setField : ByteArray := prog_11_method_11_code
def yX9_setField : MethodName := ⟨RX9, "setField", "(II)I"⟩
abbrev cX9_field : ByteArray := prog_11_method_12_code
def yX9_field : MethodName := ⟨RX9, "field", "(I)I"⟩
abbrev cX9_count : ByteArray := prog_11_method_13_code
def yX9_count : MethodName := ⟨RX9, "count", "(I)I"⟩
abbrev cX9_sees : ByteArray := prog_11_method_14_code
def yX9_sees : MethodName := ⟨RX9, "sees", "(II)Z"⟩
abbrev cX9_shows : ByteArray := prog_11_method_15_code
def yX9_shows : MethodName := ⟨RX9, "shows", "()V"⟩
abbrev cX9_isSeen : ByteArray := prog_11_method_16_code
def yX9_isSeen : MethodName := ⟨RX9, "isSeen", "(II)I"⟩
abbrev cX9_undo : ByteArray := prog_11_method_17_code
def yX9_undo : MethodName := ⟨RX9, "undo", "()I"⟩
abbrev cX9_lists : ByteArray := prog_11_method_18_code
def yX9_lists : MethodName := ⟨RX9, "lists", "(I)V"⟩
abbrev cX9_movesNow : ByteArray := prog_11_method_19_code
def yX9_movesNow : MethodName := ⟨RX9, "movesNow", "(I)I"⟩
abbrev cX9_noMove : ByteArray := prog_11_method_20_code
def yX9_noMove : MethodName := ⟨RX9, "noMove", "(IIII)I"⟩
abbrev cX9_goes : ByteArray := prog_11_method_21_code
def yX9_goes : MethodName := ⟨RX9, "goes", "(IIII)I"⟩
abbrev cX9_move : ByteArray := prog_11_method_22_code
def yX9_move : MethodName := ⟨RX9, "move", "(IIII)I"⟩
abbrev cX9_moves : ByteArray := prog_11_method_23_code
def yX9_moves : MethodName := ⟨RX9, "moves", "(I)I"⟩
abbrev cX9_moveAt : ByteArray := prog_11_method_24_code
def yX9_moveAt : MethodName := ⟨RX9, "moveAt", "(III)I"⟩
abbrev cX9_areNear : ByteArray := prog_11_method_25_code
def yX9_areNear : MethodName := ⟨RX9, "areNear", "(II)Z"⟩
abbrev cX9_parts : ByteArray := prog_11_method_26_code
def yX9_parts : MethodName := ⟨RX9, "parts", "()V"⟩
abbrev cX9_lowest : ByteArray := prog_11_method_27_code
def yX9_lowest : MethodName := ⟨RX9, "lowest", "(I)I"⟩
abbrev cX9_regions : ByteArray := prog_11_method_28_code
def yX9_regions : MethodName := ⟨RX9, "regions", "()I"⟩
abbrev cX9_regionOf : ByteArray := prog_11_method_29_code
def yX9_regionOf : MethodName := ⟨RX9, "regionOf", "(I)I"⟩
abbrev cX9_within : ByteArray := prog_11_method_30_code
def yX9_within : MethodName := ⟨RX9, "within", "(II)I"⟩
abbrev cX9_kind : ByteArray := prog_11_method_31_code
def yX9_kind : MethodName := ⟨RX9, "kind", "(I)I"⟩
abbrev cX9_regionInfo : ByteArray := prog_11_method_32_code
def yX9_regionInfo : MethodName := ⟨RX9, "regionInfo", "(II)I"⟩
abbrev cX9_coded : ByteArray := prog_11_method_33_code
def yX9_coded : MethodName := ⟨RX9, "coded", "(I)I"⟩
abbrev cX9_decodes : ByteArray := prog_11_method_34_code
def yX9_decodes : MethodName := ⟨RX9, "decodes", "(I)V"⟩
abbrev cX9_behind : ByteArray := prog_11_method_35_code
def yX9_behind : MethodName := ⟨RX9, "behind", "(II)I"⟩
abbrev cX9_placeOf : ByteArray := prog_11_method_36_code
def yX9_placeOf : MethodName := ⟨RX9, "placeOf", "(I)I"⟩
abbrev cX9_sideOf : ByteArray := prog_11_method_37_code
def yX9_sideOf : MethodName := ⟨RX9, "sideOf", "(I)I"⟩
abbrev cX9_isReached : ByteArray := prog_11_method_38_code
def yX9_isReached : MethodName := ⟨RX9, "isReached", "(IIZ)Z"⟩
abbrev cX9_weighs : ByteArray := prog_11_method_39_code
def yX9_weighs : MethodName := ⟨RX9, "weighs", "(Z)V"⟩
abbrev cX9_valueOf : ByteArray := prog_11_method_40_code
def yX9_valueOf : MethodName := ⟨RX9, "valueOf", "(I)I"⟩
abbrev cX9_value : ByteArray := prog_11_method_41_code
def yX9_value : MethodName := ⟨RX9, "value", "(I)I"⟩
abbrev cX9_lead : ByteArray := prog_11_method_42_code
def yX9_lead : MethodName := ⟨RX9, "lead", "()I"⟩
abbrev cX9_kept : ByteArray := prog_11_method_43_code
def yX9_kept : MethodName := ⟨RX9, "kept", "(I)I"⟩
abbrev cX9_positions : ByteArray := prog_11_method_44_code
def yX9_positions : MethodName := ⟨RX9, "positions", "(I)I"⟩
abbrev cX9_winsFrom : ByteArray := prog_11_method_45_code
def yX9_winsFrom : MethodName := ⟨RX9, "winsFrom", "(II)I"⟩
abbrev cX9_wins : ByteArray := prog_11_method_46_code
def yX9_wins : MethodName := ⟨RX9, "wins", "(I)I"⟩
abbrev cX9_outcomeFrom : ByteArray := prog_11_method_47_code
def yX9_outcomeFrom : MethodName := ⟨RX9, "outcomeFrom", "(I)I"⟩
abbrev cX9_outcome : ByteArray := prog_11_method_48_code
def yX9_outcome : MethodName := ⟨RX9, "outcome", "()I"⟩
abbrev cX9_outcomeOf : ByteArray := prog_11_method_49_code
def yX9_outcomeOf : MethodName := ⟨RX9, "outcomeOf", "(I)I"⟩
abbrev cX9_bestMove : ByteArray := prog_11_method_50_code
def yX9_bestMove : MethodName := ⟨RX9, "bestMove", "(I)I"⟩
abbrev cX9_length : ByteArray := prog_11_method_51_code
def yX9_length : MethodName := ⟨RX9, "length", "(I)I"⟩
abbrev cX9_collects : ByteArray := prog_11_method_52_code
def yX9_collects : MethodName := ⟨RX9, "collects", "()V"⟩
abbrev cX9_zugzwangs : ByteArray := prog_11_method_53_code
def yX9_zugzwangs : MethodName := ⟨RX9, "zugzwangs", "()I"⟩
abbrev cX9_type : ByteArray := prog_11_method_54_code
def yX9_type : MethodName := ⟨RX9, "type", "(I)I"⟩
abbrev cX9_clearText : ByteArray := prog_11_method_55_code
def yX9_clearText : MethodName := ⟨RX9, "clearText", "()I"⟩
abbrev cX9_charAt : ByteArray := prog_11_method_56_code
def yX9_charAt : MethodName := ⟨RX9, "charAt", "(I)I"⟩
abbrev cX9_letters : ByteArray := prog_11_method_57_code
def yX9_letters : MethodName := ⟨RX9, "letters", "()I"⟩
abbrev cX9_packed : ByteArray := prog_11_method_58_code
def yX9_packed : MethodName := ⟨RX9, "packed", "(IIIII)I"⟩
abbrev cX9_commandOf : ByteArray := prog_11_method_59_code
def yX9_commandOf : MethodName := ⟨RX9, "commandOf", "(I)I"⟩
abbrev cX9_isNumber : ByteArray := prog_11_method_60_code
def yX9_isNumber : MethodName := ⟨RX9, "isNumber", "(I)Z"⟩
abbrev cX9_isCommand : ByteArray := prog_11_method_61_code
def yX9_isCommand : MethodName := ⟨RX9, "isCommand", "()Z"⟩
abbrev cX9_faultOf : ByteArray := prog_11_method_62_code
def yX9_faultOf : MethodName := ⟨RX9, "faultOf", "()I"⟩
abbrev cX9_fault : ByteArray := prog_11_method_63_code
def yX9_fault : MethodName := ⟨RX9, "fault", "()I"⟩
abbrev cX9_does : ByteArray := prog_11_method_64_code
def yX9_does : MethodName := ⟨RX9, "does", "()Z"⟩
abbrev cX9_run : ByteArray := prog_11_method_65_code
def yX9_run : MethodName := ⟨RX9, "run", "()I"⟩
def RJ6 : String := "java/lang/Integer"
abbrev cJ6_bitCount_0f7a4 : ByteArray := prog_12_method_49_code
def yJ6_bitCount_0f7a4 : MethodName := ⟨RJ6, "bitCount", "(I)I"⟩
def RJ9 : String := "java/lang/Math"
abbrev cJ9_max_7cf53 : ByteArray := prog_13_method_65_code
def yJ9_max_7cf53 : MethodName := ⟨RJ9, "max", "(II)I"⟩
abbrev cJ9_min_7cf53 : ByteArray := prog_13_method_69_code
def yJ9_min_7cf53 : MethodName := ⟨RJ9, "min", "(II)I"⟩
def RJ0 : String := "java/lang/String"
abbrev cJ0_length_8abf5 : ByteArray := prog_14_method_54_code
def yJ0_length_8abf5 : MethodName := ⟨RJ0, "length", "()I"⟩
abbrev cJ0_charAt_5068e : ByteArray := prog_14_method_56_code
def yJ0_charAt_5068e : MethodName := ⟨RJ0, "charAt", "(I)C"⟩
abbrev cJ0_coder_7d493 : ByteArray := prog_14_method_152_code
def yJ0_coder_7d493 : MethodName := ⟨RJ0, "coder", "()B"⟩
abbrev cJ0_isLatin1_aae02 : ByteArray := prog_14_method_154_code
def yJ0_isLatin1_aae02 : MethodName := ⟨RJ0, "isLatin1", "()Z"⟩
abbrev cJ0_checkIndex_df160 : ByteArray := prog_14_method_155_code
def yJ0_checkIndex_df160 : MethodName := ⟨RJ0, "checkIndex", "(II)V"⟩
def RJ1 : String := "java/lang/StringLatin1"
abbrev cJ1_charAt_3b067 : ByteArray := prog_15_method_2_code
def yJ1_charAt_3b067 : MethodName := ⟨RJ1, "charAt", "([BI)C"⟩
def RJ2 : String := "java/lang/StringUTF16"
abbrev cJ2_getChar_3b067 : ByteArray := prog_16_method_5_code
def yJ2_getChar_3b067 : MethodName := ⟨RJ2, "getChar", "([BI)C"⟩
abbrev cJ2_length_9d52b : ByteArray := prog_16_method_6_code
def yJ2_length_9d52b : MethodName := ⟨RJ2, "length", "([B)I"⟩
abbrev cJ2_charAt_3b067 : ByteArray := prog_16_method_83_code
def yJ2_charAt_3b067 : MethodName := ⟨RJ2, "charAt", "([BI)C"⟩
abbrev cJ2_checkIndex_2214a : ByteArray := prog_16_method_91_code
def yJ2_checkIndex_2214a : MethodName := ⟨RJ2, "checkIndex", "(I[B)V"⟩
def RJ3 : String := "jdk/internal/util/Preconditions"
abbrev cJ3_checkIndex_8e157 : ByteArray := prog_17_method_11_code
def yJ3_checkIndex_8e157 : MethodName := ⟨RJ3, "checkIndex", "(IILjava/util/function/BiFunction;)I"⟩
def RL : String := "BurningFieldsLaw"
abbrev cL_law : ByteArray := code
theorem dX0_of_0 : decode cX0_of 0 = .ok (.iload_n 0, 1) := by decide +kernel
theorem dX0_of_1 : decode cX0_of 1 = .ok (.i2l, 1) := by decide +kernel
theorem dX0_of_2 : decode cX0_of 2 = .ok (.iload_n 1, 1) := by decide +kernel
theorem dX0_of_3 : decode cX0_of 3 = .ok (.i2l, 1) := by decide +kernel
theorem dX0_of_4 : decode cX0_of 4 = .ok (.bipush 15, 2) := by decide +kernel
theorem dX0_of_6 : decode cX0_of 6 = .ok (.lshl, 1) := by decide +kernel
theorem dX0_of_7 : decode cX0_of 7 = .ok (.lor, 1) := by decide +kernel
theorem dX0_of_8 : decode cX0_of 8 = .ok (.iload_n 2, 1) := by decide +kernel
theorem dX0_of_9 : decode cX0_of 9 = .ok (.i2l, 1) := by decide +kernel
theorem dX0_of_10 : decode cX0_of 10 = .ok (.bipush 30, 2) := by decide +kernel
theorem dX0_of_12 : decode cX0_of 12 = .ok (.lshl, 1) := by decide +kernel
theorem dX0_of_13 : decode cX0_of 13 = .ok (.lor, 1) := by decide +kernel
theorem dX0_of_14 : decode cX0_of 14 = .ok (.lreturn, 1) := by decide +kernel
theorem dX0_mask_0 : decode cX0_mask 0 = .ok (.lload_n 0, 1) := by decide +kernel
theorem dX0_mask_1 : decode cX0_mask 1 = .ok (.bipush 15, 2) := by decide +kernel
theorem dX0_mask_3 : decode cX0_mask 3 = .ok (.iload_n 2, 1) := by decide +kernel
theorem dX0_mask_4 : decode cX0_mask 4 = .ok (.iconst 1, 1) := by decide +kernel
theorem dX0_mask_5 : decode cX0_mask 5 = .ok (.isub, 1) := by decide +kernel
theorem dX0_mask_6 : decode cX0_mask 6 = .ok (.imul, 1) := by decide +kernel
theorem dX0_mask_7 : decode cX0_mask 7 = .ok (.lushr, 1) := by decide +kernel
theorem dX0_mask_8 : decode cX0_mask 8 = .ok (.l2i, 1) := by decide +kernel
theorem dX0_mask_9 : decode cX0_mask 9 = .ok (.sipush 32767, 3) := by decide +kernel
theorem dX0_mask_12 : decode cX0_mask 12 = .ok (.iand, 1) := by decide +kernel
theorem dX0_mask_13 : decode cX0_mask 13 = .ok (.ireturn, 1) := by decide +kernel
theorem dX0_freeMask_0 : decode cX0_freeMask 0 = .ok (.iload_n 2, 1) := by decide +kernel
theorem dX0_freeMask_1 : decode cX0_freeMask 1 = .ok (.lload_n 0, 1) := by decide +kernel
theorem dX0_freeMask_2 : decode cX0_freeMask 2 = .ok (.iconst 1, 1) := by decide +kernel
theorem dX0_freeMask_3 : decode cX0_freeMask 3 = .ok (.invokestatic 11, 3) := by decide +kernel
theorem dX0_freeMask_6 : decode cX0_freeMask 6 = .ok (.lload_n 0, 1) := by decide +kernel
theorem dX0_freeMask_7 : decode cX0_freeMask 7 = .ok (.iconst 2, 1) := by decide +kernel
theorem dX0_freeMask_8 : decode cX0_freeMask 8 = .ok (.invokestatic 11, 3) := by decide +kernel
theorem dX0_freeMask_11 : decode cX0_freeMask 11 = .ok (.ior, 1) := by decide +kernel
theorem dX0_freeMask_12 : decode cX0_freeMask 12 = .ok (.lload_n 0, 1) := by decide +kernel
theorem dX0_freeMask_13 : decode cX0_freeMask 13 = .ok (.iconst 3, 1) := by decide +kernel
theorem dX0_freeMask_14 : decode cX0_freeMask 14 = .ok (.invokestatic 11, 3) := by decide +kernel
theorem dX0_freeMask_17 : decode cX0_freeMask 17 = .ok (.ior, 1) := by decide +kernel
theorem dX0_freeMask_18 : decode cX0_freeMask 18 = .ok (.iconst (-1), 1) := by decide +kernel
theorem dX0_freeMask_19 : decode cX0_freeMask 19 = .ok (.ixor, 1) := by decide +kernel
theorem dX0_freeMask_20 : decode cX0_freeMask 20 = .ok (.iand, 1) := by decide +kernel
theorem dX0_freeMask_21 : decode cX0_freeMask 21 = .ok (.ireturn, 1) := by decide +kernel
theorem dX0_at_0 : decode cX0_at 0 = .ok (.iconst 1, 1) := by decide +kernel
theorem dX0_at_1 : decode cX0_at 1 = .ok (.istore_n 3, 1) := by decide +kernel
theorem dX0_at_2 : decode cX0_at 2 = .ok (.iload_n 3, 1) := by decide +kernel
theorem dX0_at_3 : decode cX0_at 3 = .ok (.iconst 3, 1) := by decide +kernel
theorem dX0_at_4 : decode cX0_at 4 = .ok (.if_icmp .gt 23, 3) := by decide +kernel
theorem dX0_at_7 : decode cX0_at 7 = .ok (.lload_n 0, 1) := by decide +kernel
theorem dX0_at_8 : decode cX0_at 8 = .ok (.iload_n 3, 1) := by decide +kernel
theorem dX0_at_9 : decode cX0_at 9 = .ok (.invokestatic 11, 3) := by decide +kernel
theorem dX0_at_12 : decode cX0_at 12 = .ok (.iload_n 2, 1) := by decide +kernel
theorem dX0_at_13 : decode cX0_at 13 = .ok (.ishr, 1) := by decide +kernel
theorem dX0_at_14 : decode cX0_at 14 = .ok (.iconst 1, 1) := by decide +kernel
theorem dX0_at_15 : decode cX0_at 15 = .ok (.iand, 1) := by decide +kernel
theorem dX0_at_16 : decode cX0_at 16 = .ok (.ifCond .eq 5, 3) := by decide +kernel
theorem dX0_at_19 : decode cX0_at 19 = .ok (.iload_n 3, 1) := by decide +kernel
theorem dX0_at_20 : decode cX0_at 20 = .ok (.ireturn, 1) := by decide +kernel
theorem dX0_at_21 : decode cX0_at 21 = .ok (.iinc 3 1, 3) := by decide +kernel
theorem dX0_at_24 : decode cX0_at 24 = .ok (.goto (-22), 3) := by decide +kernel
theorem dX0_at_27 : decode cX0_at 27 = .ok (.iconst 0, 1) := by decide +kernel
theorem dX0_at_28 : decode cX0_at 28 = .ok (.ireturn, 1) := by decide +kernel
theorem dX0_with_0 : decode cX0_with 0 = .ok (.lload_n 0, 1) := by decide +kernel
theorem dX0_with_1 : decode cX0_with 1 = .ok (.iload_n 2, 1) := by decide +kernel
theorem dX0_with_2 : decode cX0_with 2 = .ok (.iconst 1, 1) := by decide +kernel
theorem dX0_with_3 : decode cX0_with 3 = .ok (.invokestatic 15, 3) := by decide +kernel
theorem dX0_with_6 : decode cX0_with 6 = .ok (.iload_n 2, 1) := by decide +kernel
theorem dX0_with_7 : decode cX0_with 7 = .ok (.iconst 2, 1) := by decide +kernel
theorem dX0_with_8 : decode cX0_with 8 = .ok (.invokestatic 15, 3) := by decide +kernel
theorem dX0_with_11 : decode cX0_with 11 = .ok (.lor, 1) := by decide +kernel
theorem dX0_with_12 : decode cX0_with 12 = .ok (.iload_n 2, 1) := by decide +kernel
theorem dX0_with_13 : decode cX0_with 13 = .ok (.iconst 3, 1) := by decide +kernel
theorem dX0_with_14 : decode cX0_with 14 = .ok (.invokestatic 15, 3) := by decide +kernel
theorem dX0_with_17 : decode cX0_with 17 = .ok (.lor, 1) := by decide +kernel
theorem dX0_with_18 : decode cX0_with 18 = .ok (.ldc2_w 19, 3) := by decide +kernel
theorem dX0_with_21 : decode cX0_with 21 = .ok (.lxor, 1) := by decide +kernel
theorem dX0_with_22 : decode cX0_with 22 = .ok (.land, 1) := by decide +kernel
theorem dX0_with_23 : decode cX0_with 23 = .ok (.lstore 4, 2) := by decide +kernel
theorem dX0_with_25 : decode cX0_with 25 = .ok (.iload_n 3, 1) := by decide +kernel
theorem dX0_with_26 : decode cX0_with 26 = .ok (.ifCond .ne 8, 3) := by decide +kernel
theorem dX0_with_29 : decode cX0_with 29 = .ok (.lload 4, 2) := by decide +kernel
theorem dX0_with_31 : decode cX0_with 31 = .ok (.goto 11, 3) := by decide +kernel
theorem dX0_with_34 : decode cX0_with 34 = .ok (.lload 4, 2) := by decide +kernel
theorem dX0_with_36 : decode cX0_with 36 = .ok (.iload_n 2, 1) := by decide +kernel
theorem dX0_with_37 : decode cX0_with 37 = .ok (.iload_n 3, 1) := by decide +kernel
theorem dX0_with_38 : decode cX0_with 38 = .ok (.invokestatic 15, 3) := by decide +kernel
theorem dX0_with_41 : decode cX0_with 41 = .ok (.lor, 1) := by decide +kernel
theorem dX0_with_42 : decode cX0_with 42 = .ok (.lreturn, 1) := by decide +kernel
theorem dX0_bit_0 : decode cX0_bit 0 = .ok (.lconst 1, 1) := by decide +kernel
theorem dX0_bit_1 : decode cX0_bit 1 = .ok (.bipush 15, 2) := by decide +kernel
theorem dX0_bit_3 : decode cX0_bit 3 = .ok (.iload_n 1, 1) := by decide +kernel
theorem dX0_bit_4 : decode cX0_bit 4 = .ok (.iconst 1, 1) := by decide +kernel
theorem dX0_bit_5 : decode cX0_bit 5 = .ok (.isub, 1) := by decide +kernel
theorem dX0_bit_6 : decode cX0_bit 6 = .ok (.imul, 1) := by decide +kernel
theorem dX0_bit_7 : decode cX0_bit 7 = .ok (.iload_n 0, 1) := by decide +kernel
theorem dX0_bit_8 : decode cX0_bit 8 = .ok (.iadd, 1) := by decide +kernel
theorem dX0_bit_9 : decode cX0_bit 9 = .ok (.lshl, 1) := by decide +kernel
theorem dX0_bit_10 : decode cX0_bit 10 = .ok (.lreturn, 1) := by decide +kernel
theorem dX1_init_0 : decode cX1_init 0 = .ok (.aload_n 0, 1) := by decide +kernel
theorem dX1_init_1 : decode cX1_init 1 = .ok (.invokespecial 3, 3) := by decide +kernel
theorem dX1_init_4 : decode cX1_init 4 = .ok (.aload_n 0, 1) := by decide +kernel
theorem dX1_init_5 : decode cX1_init 5 = .ok (.bipush 120, 2) := by decide +kernel
theorem dX1_init_7 : decode cX1_init 7 = .ok (.newarray .int, 2) := by decide +kernel
theorem dX1_init_9 : decode cX1_init 9 = .ok (.putfield 9, 3) := by decide +kernel
theorem dX1_init_12 : decode cX1_init 12 = .ok (.return_, 1) := by decide +kernel
theorem dX1_resize_0 : decode cX1_resize 0 = .ok (.aload_n 0, 1) := by decide +kernel
theorem dX1_resize_1 : decode cX1_resize 1 = .ok (.iload_n 1, 1) := by decide +kernel
theorem dX1_resize_2 : decode cX1_resize 2 = .ok (.putfield 15, 3) := by decide +kernel
theorem dX1_resize_5 : decode cX1_resize 5 = .ok (.aload_n 0, 1) := by decide +kernel
theorem dX1_resize_6 : decode cX1_resize 6 = .ok (.iload_n 2, 1) := by decide +kernel
theorem dX1_resize_7 : decode cX1_resize 7 = .ok (.putfield 19, 3) := by decide +kernel
theorem dX1_resize_10 : decode cX1_resize 10 = .ok (.aload_n 0, 1) := by decide +kernel
theorem dX1_resize_11 : decode cX1_resize 11 = .ok (.aload_n 0, 1) := by decide +kernel
theorem dX1_resize_12 : decode cX1_resize 12 = .ok (.getfield 15, 3) := by decide +kernel
theorem dX1_resize_15 : decode cX1_resize 15 = .ok (.aload_n 0, 1) := by decide +kernel
theorem dX1_resize_16 : decode cX1_resize 16 = .ok (.getfield 19, 3) := by decide +kernel
theorem dX1_resize_19 : decode cX1_resize 19 = .ok (.imul, 1) := by decide +kernel
theorem dX1_resize_20 : decode cX1_resize 20 = .ok (.putfield 22, 3) := by decide +kernel
theorem dX1_resize_23 : decode cX1_resize 23 = .ok (.aload_n 0, 1) := by decide +kernel
theorem dX1_resize_24 : decode cX1_resize 24 = .ok (.iconst 1, 1) := by decide +kernel
theorem dX1_resize_25 : decode cX1_resize 25 = .ok (.aload_n 0, 1) := by decide +kernel
theorem dX1_resize_26 : decode cX1_resize 26 = .ok (.getfield 22, 3) := by decide +kernel
theorem dX1_resize_29 : decode cX1_resize 29 = .ok (.ishl, 1) := by decide +kernel
theorem dX1_resize_30 : decode cX1_resize 30 = .ok (.iconst 1, 1) := by decide +kernel
theorem dX1_resize_31 : decode cX1_resize 31 = .ok (.isub, 1) := by decide +kernel
theorem dX1_resize_32 : decode cX1_resize 32 = .ok (.putfield 25, 3) := by decide +kernel
theorem dX1_resize_35 : decode cX1_resize 35 = .ok (.iconst 0, 1) := by decide +kernel
theorem dX1_resize_36 : decode cX1_resize 36 = .ok (.istore_n 3, 1) := by decide +kernel
theorem dX1_resize_37 : decode cX1_resize 37 = .ok (.iload_n 3, 1) := by decide +kernel
theorem dX1_resize_38 : decode cX1_resize 38 = .ok (.aload_n 0, 1) := by decide +kernel
theorem dX1_resize_39 : decode cX1_resize 39 = .ok (.getfield 22, 3) := by decide +kernel
theorem dX1_resize_42 : decode cX1_resize 42 = .ok (.if_icmp .ge 50, 3) := by decide +kernel
theorem dX1_resize_45 : decode cX1_resize 45 = .ok (.iload_n 3, 1) := by decide +kernel
theorem dX1_resize_46 : decode cX1_resize 46 = .ok (.bipush 15, 2) := by decide +kernel
theorem dX1_resize_48 : decode cX1_resize 48 = .ok (.if_icmp .ge 44, 3) := by decide +kernel
theorem dX1_resize_51 : decode cX1_resize 51 = .ok (.iconst 0, 1) := by decide +kernel
theorem dX1_resize_52 : decode cX1_resize 52 = .ok (.istore 4, 2) := by decide +kernel
theorem dX1_resize_54 : decode cX1_resize 54 = .ok (.iload 4, 2) := by decide +kernel
theorem dX1_resize_56 : decode cX1_resize 56 = .ok (.bipush 8, 2) := by decide +kernel
theorem dX1_resize_58 : decode cX1_resize 58 = .ok (.if_icmp .ge 28, 3) := by decide +kernel
theorem dX1_resize_61 : decode cX1_resize 61 = .ok (.aload_n 0, 1) := by decide +kernel
theorem dX1_resize_62 : decode cX1_resize 62 = .ok (.getfield 9, 3) := by decide +kernel
theorem dX1_resize_65 : decode cX1_resize 65 = .ok (.iload_n 3, 1) := by decide +kernel
theorem dX1_resize_66 : decode cX1_resize 66 = .ok (.bipush 8, 2) := by decide +kernel
theorem dX1_resize_68 : decode cX1_resize 68 = .ok (.imul, 1) := by decide +kernel
theorem dX1_resize_69 : decode cX1_resize 69 = .ok (.iload 4, 2) := by decide +kernel
theorem dX1_resize_71 : decode cX1_resize 71 = .ok (.iadd, 1) := by decide +kernel
theorem dX1_resize_72 : decode cX1_resize 72 = .ok (.aload_n 0, 1) := by decide +kernel
theorem dX1_resize_73 : decode cX1_resize 73 = .ok (.iload_n 3, 1) := by decide +kernel
theorem dX1_resize_74 : decode cX1_resize 74 = .ok (.iload 4, 2) := by decide +kernel
theorem dX1_resize_76 : decode cX1_resize 76 = .ok (.invokevirtual 28, 3) := by decide +kernel
theorem dX1_resize_79 : decode cX1_resize 79 = .ok (.iastore, 1) := by decide +kernel
theorem dX1_resize_80 : decode cX1_resize 80 = .ok (.iinc 4 1, 3) := by decide +kernel
theorem dX1_resize_83 : decode cX1_resize 83 = .ok (.goto (-29), 3) := by decide +kernel
theorem dX1_resize_86 : decode cX1_resize 86 = .ok (.iinc 3 1, 3) := by decide +kernel
theorem dX1_resize_89 : decode cX1_resize 89 = .ok (.goto (-52), 3) := by decide +kernel
theorem dX1_resize_92 : decode cX1_resize 92 = .ok (.return_, 1) := by decide +kernel
theorem dX1_stepFrom_0 : decode cX1_stepFrom 0 = .ok (.iload_n 2, 1) := by decide +kernel
theorem dX1_stepFrom_1 : decode cX1_stepFrom 1 = .ok (.iconst 4, 1) := by decide +kernel
theorem dX1_stepFrom_2 : decode cX1_stepFrom 2 = .ok (.if_icmp .ge 7, 3) := by decide +kernel
theorem dX1_stepFrom_5 : decode cX1_stepFrom 5 = .ok (.iload_n 2, 1) := by decide +kernel
theorem dX1_stepFrom_6 : decode cX1_stepFrom 6 = .ok (.goto 6, 3) := by decide +kernel
theorem dX1_stepFrom_9 : decode cX1_stepFrom 9 = .ok (.iload_n 2, 1) := by decide +kernel
theorem dX1_stepFrom_10 : decode cX1_stepFrom 10 = .ok (.iconst 1, 1) := by decide +kernel
theorem dX1_stepFrom_11 : decode cX1_stepFrom 11 = .ok (.iadd, 1) := by decide +kernel
theorem dX1_stepFrom_12 : decode cX1_stepFrom 12 = .ok (.istore_n 3, 1) := by decide +kernel
theorem dX1_stepFrom_13 : decode cX1_stepFrom 13 = .ok (.iconst 0, 1) := by decide +kernel
theorem dX1_stepFrom_14 : decode cX1_stepFrom 14 = .ok (.istore 4, 2) := by decide +kernel
theorem dX1_stepFrom_16 : decode cX1_stepFrom 16 = .ok (.iload_n 1, 1) := by decide +kernel
theorem dX1_stepFrom_17 : decode cX1_stepFrom 17 = .ok (.istore 5, 2) := by decide +kernel
theorem dX1_stepFrom_19 : decode cX1_stepFrom 19 = .ok (.iconst 1, 1) := by decide +kernel
theorem dX1_stepFrom_20 : decode cX1_stepFrom 20 = .ok (.istore 6, 2) := by decide +kernel
theorem dX1_stepFrom_22 : decode cX1_stepFrom 22 = .ok (.iload 6, 2) := by decide +kernel
theorem dX1_stepFrom_24 : decode cX1_stepFrom 24 = .ok (.aload_n 0, 1) := by decide +kernel
theorem dX1_stepFrom_25 : decode cX1_stepFrom 25 = .ok (.getfield 19, 3) := by decide +kernel
theorem dX1_stepFrom_28 : decode cX1_stepFrom 28 = .ok (.if_icmp .ge 30, 3) := by decide +kernel
theorem dX1_stepFrom_31 : decode cX1_stepFrom 31 = .ok (.iload 5, 2) := by decide +kernel
theorem dX1_stepFrom_33 : decode cX1_stepFrom 33 = .ok (.aload_n 0, 1) := by decide +kernel
theorem dX1_stepFrom_34 : decode cX1_stepFrom 34 = .ok (.getfield 15, 3) := by decide +kernel
theorem dX1_stepFrom_37 : decode cX1_stepFrom 37 = .ok (.if_icmp .lt 21, 3) := by decide +kernel
theorem dX1_stepFrom_40 : decode cX1_stepFrom 40 = .ok (.iload 5, 2) := by decide +kernel
theorem dX1_stepFrom_42 : decode cX1_stepFrom 42 = .ok (.aload_n 0, 1) := by decide +kernel
theorem dX1_stepFrom_43 : decode cX1_stepFrom 43 = .ok (.getfield 15, 3) := by decide +kernel
theorem dX1_stepFrom_46 : decode cX1_stepFrom 46 = .ok (.isub, 1) := by decide +kernel
theorem dX1_stepFrom_47 : decode cX1_stepFrom 47 = .ok (.istore 5, 2) := by decide +kernel
theorem dX1_stepFrom_49 : decode cX1_stepFrom 49 = .ok (.iinc 4 1, 3) := by decide +kernel
theorem dX1_stepFrom_52 : decode cX1_stepFrom 52 = .ok (.iinc 6 1, 3) := by decide +kernel
theorem dX1_stepFrom_55 : decode cX1_stepFrom 55 = .ok (.goto (-33), 3) := by decide +kernel
theorem dX1_stepFrom_58 : decode cX1_stepFrom 58 = .ok (.iload 5, 2) := by decide +kernel
theorem dX1_stepFrom_60 : decode cX1_stepFrom 60 = .ok (.iload_n 3, 1) := by decide +kernel
theorem dX1_stepFrom_61 : decode cX1_stepFrom 61 = .ok (.iconst 3, 1) := by decide +kernel
theorem dX1_stepFrom_62 : decode cX1_stepFrom 62 = .ok (.irem, 1) := by decide +kernel
theorem dX1_stepFrom_63 : decode cX1_stepFrom 63 = .ok (.iconst 1, 1) := by decide +kernel
theorem dX1_stepFrom_64 : decode cX1_stepFrom 64 = .ok (.isub, 1) := by decide +kernel
theorem dX1_stepFrom_65 : decode cX1_stepFrom 65 = .ok (.iadd, 1) := by decide +kernel
theorem dX1_stepFrom_66 : decode cX1_stepFrom 66 = .ok (.istore 5, 2) := by decide +kernel
theorem dX1_stepFrom_68 : decode cX1_stepFrom 68 = .ok (.iload 4, 2) := by decide +kernel
theorem dX1_stepFrom_70 : decode cX1_stepFrom 70 = .ok (.iload_n 3, 1) := by decide +kernel
theorem dX1_stepFrom_71 : decode cX1_stepFrom 71 = .ok (.iconst 3, 1) := by decide +kernel
theorem dX1_stepFrom_72 : decode cX1_stepFrom 72 = .ok (.idiv, 1) := by decide +kernel
theorem dX1_stepFrom_73 : decode cX1_stepFrom 73 = .ok (.iconst 1, 1) := by decide +kernel
theorem dX1_stepFrom_74 : decode cX1_stepFrom 74 = .ok (.isub, 1) := by decide +kernel
theorem dX1_stepFrom_75 : decode cX1_stepFrom 75 = .ok (.iadd, 1) := by decide +kernel
theorem dX1_stepFrom_76 : decode cX1_stepFrom 76 = .ok (.istore 4, 2) := by decide +kernel
theorem dX1_stepFrom_78 : decode cX1_stepFrom 78 = .ok (.iload 5, 2) := by decide +kernel
theorem dX1_stepFrom_80 : decode cX1_stepFrom 80 = .ok (.ifCond .lt 30, 3) := by decide +kernel
theorem dX1_stepFrom_83 : decode cX1_stepFrom 83 = .ok (.iload 5, 2) := by decide +kernel
theorem dX1_stepFrom_85 : decode cX1_stepFrom 85 = .ok (.aload_n 0, 1) := by decide +kernel
theorem dX1_stepFrom_86 : decode cX1_stepFrom 86 = .ok (.getfield 15, 3) := by decide +kernel
theorem dX1_stepFrom_89 : decode cX1_stepFrom 89 = .ok (.if_icmp .ge 21, 3) := by decide +kernel
theorem dX1_stepFrom_92 : decode cX1_stepFrom 92 = .ok (.iload 4, 2) := by decide +kernel
theorem dX1_stepFrom_94 : decode cX1_stepFrom 94 = .ok (.ifCond .lt 16, 3) := by decide +kernel
theorem dX1_stepFrom_97 : decode cX1_stepFrom 97 = .ok (.iload 4, 2) := by decide +kernel
theorem dX1_stepFrom_99 : decode cX1_stepFrom 99 = .ok (.aload_n 0, 1) := by decide +kernel
theorem dX1_stepFrom_100 : decode cX1_stepFrom 100 = .ok (.getfield 19, 3) := by decide +kernel
theorem dX1_stepFrom_103 : decode cX1_stepFrom 103 = .ok (.if_icmp .ge 7, 3) := by decide +kernel
theorem dX1_stepFrom_106 : decode cX1_stepFrom 106 = .ok (.iconst 1, 1) := by decide +kernel
theorem dX1_stepFrom_107 : decode cX1_stepFrom 107 = .ok (.goto 4, 3) := by decide +kernel
theorem dX1_stepFrom_110 : decode cX1_stepFrom 110 = .ok (.iconst 0, 1) := by decide +kernel
theorem dX1_stepFrom_111 : decode cX1_stepFrom 111 = .ok (.istore 6, 2) := by decide +kernel
theorem dX1_stepFrom_113 : decode cX1_stepFrom 113 = .ok (.iload 6, 2) := by decide +kernel
theorem dX1_stepFrom_115 : decode cX1_stepFrom 115 = .ok (.ifCond .eq 16, 3) := by decide +kernel
theorem dX1_stepFrom_118 : decode cX1_stepFrom 118 = .ok (.aload_n 0, 1) := by decide +kernel
theorem dX1_stepFrom_119 : decode cX1_stepFrom 119 = .ok (.getfield 15, 3) := by decide +kernel
theorem dX1_stepFrom_122 : decode cX1_stepFrom 122 = .ok (.iload 4, 2) := by decide +kernel
theorem dX1_stepFrom_124 : decode cX1_stepFrom 124 = .ok (.imul, 1) := by decide +kernel
theorem dX1_stepFrom_125 : decode cX1_stepFrom 125 = .ok (.iload 5, 2) := by decide +kernel
theorem dX1_stepFrom_127 : decode cX1_stepFrom 127 = .ok (.iadd, 1) := by decide +kernel
theorem dX1_stepFrom_128 : decode cX1_stepFrom 128 = .ok (.goto 4, 3) := by decide +kernel
theorem dX1_stepFrom_131 : decode cX1_stepFrom 131 = .ok (.iconst (-1), 1) := by decide +kernel
theorem dX1_stepFrom_132 : decode cX1_stepFrom 132 = .ok (.ireturn, 1) := by decide +kernel
theorem dX1_has_0 : decode cX1_has 0 = .ok (.iload_n 1, 1) := by decide +kernel
theorem dX1_has_1 : decode cX1_has 1 = .ok (.ifCond .lt 15, 3) := by decide +kernel
theorem dX1_has_4 : decode cX1_has 4 = .ok (.iload_n 1, 1) := by decide +kernel
theorem dX1_has_5 : decode cX1_has 5 = .ok (.aload_n 0, 1) := by decide +kernel
theorem dX1_has_6 : decode cX1_has 6 = .ok (.getfield 22, 3) := by decide +kernel
theorem dX1_has_9 : decode cX1_has 9 = .ok (.if_icmp .ge 7, 3) := by decide +kernel
theorem dX1_has_12 : decode cX1_has 12 = .ok (.iconst 1, 1) := by decide +kernel
theorem dX1_has_13 : decode cX1_has 13 = .ok (.goto 4, 3) := by decide +kernel
theorem dX1_has_16 : decode cX1_has 16 = .ok (.iconst 0, 1) := by decide +kernel
theorem dX1_has_17 : decode cX1_has 17 = .ok (.ireturn, 1) := by decide +kernel
theorem dX1_seenFrom_0 : decode cX1_seenFrom 0 = .ok (.iconst 0, 1) := by decide +kernel
theorem dX1_seenFrom_1 : decode cX1_seenFrom 1 = .ok (.istore_n 3, 1) := by decide +kernel
theorem dX1_seenFrom_2 : decode cX1_seenFrom 2 = .ok (.aload_n 0, 1) := by decide +kernel
theorem dX1_seenFrom_3 : decode cX1_seenFrom 3 = .ok (.iload_n 1, 1) := by decide +kernel
theorem dX1_seenFrom_4 : decode cX1_seenFrom 4 = .ok (.invokevirtual 32, 3) := by decide +kernel
theorem dX1_seenFrom_7 : decode cX1_seenFrom 7 = .ok (.ifCond .ne 5, 3) := by decide +kernel
theorem dX1_seenFrom_10 : decode cX1_seenFrom 10 = .ok (.iload_n 3, 1) := by decide +kernel
theorem dX1_seenFrom_11 : decode cX1_seenFrom 11 = .ok (.ireturn, 1) := by decide +kernel
theorem dX1_seenFrom_12 : decode cX1_seenFrom 12 = .ok (.iconst 0, 1) := by decide +kernel
theorem dX1_seenFrom_13 : decode cX1_seenFrom 13 = .ok (.istore 4, 2) := by decide +kernel
theorem dX1_seenFrom_15 : decode cX1_seenFrom 15 = .ok (.iload 4, 2) := by decide +kernel
theorem dX1_seenFrom_17 : decode cX1_seenFrom 17 = .ok (.bipush 8, 2) := by decide +kernel
theorem dX1_seenFrom_19 : decode cX1_seenFrom 19 = .ok (.if_icmp .ge 81, 3) := by decide +kernel
theorem dX1_seenFrom_22 : decode cX1_seenFrom 22 = .ok (.aload_n 0, 1) := by decide +kernel
theorem dX1_seenFrom_23 : decode cX1_seenFrom 23 = .ok (.getfield 9, 3) := by decide +kernel
theorem dX1_seenFrom_26 : decode cX1_seenFrom 26 = .ok (.iload_n 1, 1) := by decide +kernel
theorem dX1_seenFrom_27 : decode cX1_seenFrom 27 = .ok (.bipush 8, 2) := by decide +kernel
theorem dX1_seenFrom_29 : decode cX1_seenFrom 29 = .ok (.imul, 1) := by decide +kernel
theorem dX1_seenFrom_30 : decode cX1_seenFrom 30 = .ok (.iload 4, 2) := by decide +kernel
theorem dX1_seenFrom_32 : decode cX1_seenFrom 32 = .ok (.iadd, 1) := by decide +kernel
theorem dX1_seenFrom_33 : decode cX1_seenFrom 33 = .ok (.iaload, 1) := by decide +kernel
theorem dX1_seenFrom_34 : decode cX1_seenFrom 34 = .ok (.istore 5, 2) := by decide +kernel
theorem dX1_seenFrom_36 : decode cX1_seenFrom 36 = .ok (.iconst 1, 1) := by decide +kernel
theorem dX1_seenFrom_37 : decode cX1_seenFrom 37 = .ok (.istore 6, 2) := by decide +kernel
theorem dX1_seenFrom_39 : decode cX1_seenFrom 39 = .ok (.iload 6, 2) := by decide +kernel
theorem dX1_seenFrom_41 : decode cX1_seenFrom 41 = .ok (.iconst 5, 1) := by decide +kernel
theorem dX1_seenFrom_42 : decode cX1_seenFrom 42 = .ok (.if_icmp .ge 52, 3) := by decide +kernel
theorem dX1_seenFrom_45 : decode cX1_seenFrom 45 = .ok (.aload_n 0, 1) := by decide +kernel
theorem dX1_seenFrom_46 : decode cX1_seenFrom 46 = .ok (.iload 5, 2) := by decide +kernel
theorem dX1_seenFrom_48 : decode cX1_seenFrom 48 = .ok (.invokevirtual 32, 3) := by decide +kernel
theorem dX1_seenFrom_51 : decode cX1_seenFrom 51 = .ok (.ifCond .eq 43, 3) := by decide +kernel
theorem dX1_seenFrom_54 : decode cX1_seenFrom 54 = .ok (.iload_n 2, 1) := by decide +kernel
theorem dX1_seenFrom_55 : decode cX1_seenFrom 55 = .ok (.iload 5, 2) := by decide +kernel
theorem dX1_seenFrom_57 : decode cX1_seenFrom 57 = .ok (.ishr, 1) := by decide +kernel
theorem dX1_seenFrom_58 : decode cX1_seenFrom 58 = .ok (.iconst 1, 1) := by decide +kernel
theorem dX1_seenFrom_59 : decode cX1_seenFrom 59 = .ok (.iand, 1) := by decide +kernel
theorem dX1_seenFrom_60 : decode cX1_seenFrom 60 = .ok (.ifCond .ne 6, 3) := by decide +kernel
theorem dX1_seenFrom_63 : decode cX1_seenFrom 63 = .ok (.goto 31, 3) := by decide +kernel
theorem dX1_seenFrom_66 : decode cX1_seenFrom 66 = .ok (.iload_n 3, 1) := by decide +kernel
theorem dX1_seenFrom_67 : decode cX1_seenFrom 67 = .ok (.iconst 1, 1) := by decide +kernel
theorem dX1_seenFrom_68 : decode cX1_seenFrom 68 = .ok (.iload 5, 2) := by decide +kernel
theorem dX1_seenFrom_70 : decode cX1_seenFrom 70 = .ok (.ishl, 1) := by decide +kernel
theorem dX1_seenFrom_71 : decode cX1_seenFrom 71 = .ok (.ior, 1) := by decide +kernel
theorem dX1_seenFrom_72 : decode cX1_seenFrom 72 = .ok (.istore_n 3, 1) := by decide +kernel
theorem dX1_seenFrom_73 : decode cX1_seenFrom 73 = .ok (.aload_n 0, 1) := by decide +kernel
theorem dX1_seenFrom_74 : decode cX1_seenFrom 74 = .ok (.getfield 9, 3) := by decide +kernel
theorem dX1_seenFrom_77 : decode cX1_seenFrom 77 = .ok (.iload 5, 2) := by decide +kernel
theorem dX1_seenFrom_79 : decode cX1_seenFrom 79 = .ok (.bipush 8, 2) := by decide +kernel
theorem dX1_seenFrom_81 : decode cX1_seenFrom 81 = .ok (.imul, 1) := by decide +kernel
theorem dX1_seenFrom_82 : decode cX1_seenFrom 82 = .ok (.iload 4, 2) := by decide +kernel
theorem dX1_seenFrom_84 : decode cX1_seenFrom 84 = .ok (.iadd, 1) := by decide +kernel
theorem dX1_seenFrom_85 : decode cX1_seenFrom 85 = .ok (.iaload, 1) := by decide +kernel
theorem dX1_seenFrom_86 : decode cX1_seenFrom 86 = .ok (.istore 5, 2) := by decide +kernel
theorem dX1_seenFrom_88 : decode cX1_seenFrom 88 = .ok (.iinc 6 1, 3) := by decide +kernel
theorem dX1_seenFrom_91 : decode cX1_seenFrom 91 = .ok (.goto (-52), 3) := by decide +kernel
theorem dX1_seenFrom_94 : decode cX1_seenFrom 94 = .ok (.iinc 4 1, 3) := by decide +kernel
theorem dX1_seenFrom_97 : decode cX1_seenFrom 97 = .ok (.goto (-82), 3) := by decide +kernel
theorem dX1_seenFrom_100 : decode cX1_seenFrom 100 = .ok (.iload_n 3, 1) := by decide +kernel
theorem dX1_seenFrom_101 : decode cX1_seenFrom 101 = .ok (.ireturn, 1) := by decide +kernel
theorem dX1_neighboursOf_0 : decode cX1_neighboursOf 0 = .ok (.iconst 0, 1) := by decide +kernel
theorem dX1_neighboursOf_1 : decode cX1_neighboursOf 1 = .ok (.istore_n 2, 1) := by decide +kernel
theorem dX1_neighboursOf_2 : decode cX1_neighboursOf 2 = .ok (.aload_n 0, 1) := by decide +kernel
theorem dX1_neighboursOf_3 : decode cX1_neighboursOf 3 = .ok (.iload_n 1, 1) := by decide +kernel
theorem dX1_neighboursOf_4 : decode cX1_neighboursOf 4 = .ok (.invokevirtual 32, 3) := by decide +kernel
theorem dX1_neighboursOf_7 : decode cX1_neighboursOf 7 = .ok (.ifCond .ne 5, 3) := by decide +kernel
theorem dX1_neighboursOf_10 : decode cX1_neighboursOf 10 = .ok (.iload_n 2, 1) := by decide +kernel
theorem dX1_neighboursOf_11 : decode cX1_neighboursOf 11 = .ok (.ireturn, 1) := by decide +kernel
theorem dX1_neighboursOf_12 : decode cX1_neighboursOf 12 = .ok (.iconst 0, 1) := by decide +kernel
theorem dX1_neighboursOf_13 : decode cX1_neighboursOf 13 = .ok (.istore_n 3, 1) := by decide +kernel
theorem dX1_neighboursOf_14 : decode cX1_neighboursOf 14 = .ok (.iload_n 3, 1) := by decide +kernel
theorem dX1_neighboursOf_15 : decode cX1_neighboursOf 15 = .ok (.bipush 8, 2) := by decide +kernel
theorem dX1_neighboursOf_17 : decode cX1_neighboursOf 17 = .ok (.if_icmp .ge 35, 3) := by decide +kernel
theorem dX1_neighboursOf_20 : decode cX1_neighboursOf 20 = .ok (.aload_n 0, 1) := by decide +kernel
theorem dX1_neighboursOf_21 : decode cX1_neighboursOf 21 = .ok (.getfield 9, 3) := by decide +kernel
theorem dX1_neighboursOf_24 : decode cX1_neighboursOf 24 = .ok (.iload_n 1, 1) := by decide +kernel
theorem dX1_neighboursOf_25 : decode cX1_neighboursOf 25 = .ok (.bipush 8, 2) := by decide +kernel
theorem dX1_neighboursOf_27 : decode cX1_neighboursOf 27 = .ok (.imul, 1) := by decide +kernel
theorem dX1_neighboursOf_28 : decode cX1_neighboursOf 28 = .ok (.iload_n 3, 1) := by decide +kernel
theorem dX1_neighboursOf_29 : decode cX1_neighboursOf 29 = .ok (.iadd, 1) := by decide +kernel
theorem dX1_neighboursOf_30 : decode cX1_neighboursOf 30 = .ok (.iaload, 1) := by decide +kernel
theorem dX1_neighboursOf_31 : decode cX1_neighboursOf 31 = .ok (.istore 4, 2) := by decide +kernel
theorem dX1_neighboursOf_33 : decode cX1_neighboursOf 33 = .ok (.iload 4, 2) := by decide +kernel
theorem dX1_neighboursOf_35 : decode cX1_neighboursOf 35 = .ok (.iconst (-1), 1) := by decide +kernel
theorem dX1_neighboursOf_36 : decode cX1_neighboursOf 36 = .ok (.if_icmp .eq 10, 3) := by decide +kernel
theorem dX1_neighboursOf_39 : decode cX1_neighboursOf 39 = .ok (.iload_n 2, 1) := by decide +kernel
theorem dX1_neighboursOf_40 : decode cX1_neighboursOf 40 = .ok (.iconst 1, 1) := by decide +kernel
theorem dX1_neighboursOf_41 : decode cX1_neighboursOf 41 = .ok (.iload 4, 2) := by decide +kernel
theorem dX1_neighboursOf_43 : decode cX1_neighboursOf 43 = .ok (.ishl, 1) := by decide +kernel
theorem dX1_neighboursOf_44 : decode cX1_neighboursOf 44 = .ok (.ior, 1) := by decide +kernel
theorem dX1_neighboursOf_45 : decode cX1_neighboursOf 45 = .ok (.istore_n 2, 1) := by decide +kernel
theorem dX1_neighboursOf_46 : decode cX1_neighboursOf 46 = .ok (.iinc 3 1, 3) := by decide +kernel
theorem dX1_neighboursOf_49 : decode cX1_neighboursOf 49 = .ok (.goto (-35), 3) := by decide +kernel
theorem dX1_neighboursOf_52 : decode cX1_neighboursOf 52 = .ok (.iload_n 2, 1) := by decide +kernel
theorem dX1_neighboursOf_53 : decode cX1_neighboursOf 53 = .ok (.ireturn, 1) := by decide +kernel
theorem dX2_init_0 : decode cX2_init 0 = .ok (.aload_n 0, 1) := by decide +kernel
theorem dX2_init_1 : decode cX2_init 1 = .ok (.invokespecial 3, 3) := by decide +kernel
theorem dX2_init_4 : decode cX2_init 4 = .ok (.aload_n 0, 1) := by decide +kernel
theorem dX2_init_5 : decode cX2_init 5 = .ok (.bipush 8, 2) := by decide +kernel
theorem dX2_init_7 : decode cX2_init 7 = .ok (.newarray .int, 2) := by decide +kernel
theorem dX2_init_9 : decode cX2_init 9 = .ok (.putfield 9, 3) := by decide +kernel
theorem dX2_init_12 : decode cX2_init 12 = .ok (.aload_n 0, 1) := by decide +kernel
theorem dX2_init_13 : decode cX2_init 13 = .ok (.bipush 8, 2) := by decide +kernel
theorem dX2_init_15 : decode cX2_init 15 = .ok (.newarray .int, 2) := by decide +kernel
theorem dX2_init_17 : decode cX2_init 17 = .ok (.putfield 15, 3) := by decide +kernel
theorem dX2_init_20 : decode cX2_init 20 = .ok (.aload_n 0, 1) := by decide +kernel
theorem dX2_init_21 : decode cX2_init 21 = .ok (.bipush 8, 2) := by decide +kernel
theorem dX2_init_23 : decode cX2_init 23 = .ok (.newarray .long, 2) := by decide +kernel
theorem dX2_init_25 : decode cX2_init 25 = .ok (.putfield 18, 3) := by decide +kernel
theorem dX2_init_28 : decode cX2_init 28 = .ok (.return_, 1) := by decide +kernel
theorem dX2_record_0 : decode cX2_record 0 = .ok (.aload_n 0, 1) := by decide +kernel
theorem dX2_record_1 : decode cX2_record 1 = .ok (.getfield 22, 3) := by decide +kernel
theorem dX2_record_4 : decode cX2_record 4 = .ok (.bipush 8, 2) := by decide +kernel
theorem dX2_record_6 : decode cX2_record 6 = .ok (.if_icmp .lt 7, 3) := by decide +kernel
theorem dX2_record_9 : decode cX2_record 9 = .ok (.aload_n 0, 1) := by decide +kernel
theorem dX2_record_10 : decode cX2_record 10 = .ok (.invokevirtual 26, 3) := by decide +kernel
theorem dX2_record_13 : decode cX2_record 13 = .ok (.aload_n 0, 1) := by decide +kernel
theorem dX2_record_14 : decode cX2_record 14 = .ok (.getfield 9, 3) := by decide +kernel
theorem dX2_record_17 : decode cX2_record 17 = .ok (.aload_n 0, 1) := by decide +kernel
theorem dX2_record_18 : decode cX2_record 18 = .ok (.getfield 22, 3) := by decide +kernel
theorem dX2_record_21 : decode cX2_record 21 = .ok (.aload_n 1, 1) := by decide +kernel
theorem dX2_record_22 : decode cX2_record 22 = .ok (.getfield 29, 3) := by decide +kernel
theorem dX2_record_25 : decode cX2_record 25 = .ok (.iastore, 1) := by decide +kernel
theorem dX2_record_26 : decode cX2_record 26 = .ok (.aload_n 0, 1) := by decide +kernel
theorem dX2_record_27 : decode cX2_record 27 = .ok (.getfield 15, 3) := by decide +kernel
theorem dX2_record_30 : decode cX2_record 30 = .ok (.aload_n 0, 1) := by decide +kernel
theorem dX2_record_31 : decode cX2_record 31 = .ok (.getfield 22, 3) := by decide +kernel
theorem dX2_record_34 : decode cX2_record 34 = .ok (.aload_n 1, 1) := by decide +kernel
theorem dX2_record_35 : decode cX2_record 35 = .ok (.getfield 34, 3) := by decide +kernel
theorem dX2_record_38 : decode cX2_record 38 = .ok (.iastore, 1) := by decide +kernel
theorem dX2_record_39 : decode cX2_record 39 = .ok (.aload_n 0, 1) := by decide +kernel
theorem dX2_record_40 : decode cX2_record 40 = .ok (.getfield 18, 3) := by decide +kernel
theorem dX2_record_43 : decode cX2_record 43 = .ok (.aload_n 0, 1) := by decide +kernel
theorem dX2_record_44 : decode cX2_record 44 = .ok (.getfield 22, 3) := by decide +kernel
theorem dX2_record_47 : decode cX2_record 47 = .ok (.lload_n 2, 1) := by decide +kernel
theorem dX2_record_48 : decode cX2_record 48 = .ok (.lastore, 1) := by decide +kernel
theorem dX2_record_49 : decode cX2_record 49 = .ok (.aload_n 0, 1) := by decide +kernel
theorem dX2_record_50 : decode cX2_record 50 = .ok (.dup, 1) := by decide +kernel
theorem dX2_record_51 : decode cX2_record 51 = .ok (.getfield 22, 3) := by decide +kernel
theorem dX2_record_54 : decode cX2_record 54 = .ok (.iconst 1, 1) := by decide +kernel
theorem dX2_record_55 : decode cX2_record 55 = .ok (.iadd, 1) := by decide +kernel
theorem dX2_record_56 : decode cX2_record 56 = .ok (.putfield 22, 3) := by decide +kernel
theorem dX2_record_59 : decode cX2_record 59 = .ok (.return_, 1) := by decide +kernel
theorem dX2_dropOldest_0 : decode cX2_dropOldest 0 = .ok (.iconst 1, 1) := by decide +kernel
theorem dX2_dropOldest_1 : decode cX2_dropOldest 1 = .ok (.istore_n 1, 1) := by decide +kernel
theorem dX2_dropOldest_2 : decode cX2_dropOldest 2 = .ok (.iload_n 1, 1) := by decide +kernel
theorem dX2_dropOldest_3 : decode cX2_dropOldest 3 = .ok (.bipush 8, 2) := by decide +kernel
theorem dX2_dropOldest_5 : decode cX2_dropOldest 5 = .ok (.if_icmp .ge 51, 3) := by decide +kernel
theorem dX2_dropOldest_8 : decode cX2_dropOldest 8 = .ok (.aload_n 0, 1) := by decide +kernel
theorem dX2_dropOldest_9 : decode cX2_dropOldest 9 = .ok (.getfield 9, 3) := by decide +kernel
theorem dX2_dropOldest_12 : decode cX2_dropOldest 12 = .ok (.iload_n 1, 1) := by decide +kernel
theorem dX2_dropOldest_13 : decode cX2_dropOldest 13 = .ok (.iconst 1, 1) := by decide +kernel
theorem dX2_dropOldest_14 : decode cX2_dropOldest 14 = .ok (.isub, 1) := by decide +kernel
theorem dX2_dropOldest_15 : decode cX2_dropOldest 15 = .ok (.aload_n 0, 1) := by decide +kernel
theorem dX2_dropOldest_16 : decode cX2_dropOldest 16 = .ok (.getfield 9, 3) := by decide +kernel
theorem dX2_dropOldest_19 : decode cX2_dropOldest 19 = .ok (.iload_n 1, 1) := by decide +kernel
theorem dX2_dropOldest_20 : decode cX2_dropOldest 20 = .ok (.iaload, 1) := by decide +kernel
theorem dX2_dropOldest_21 : decode cX2_dropOldest 21 = .ok (.iastore, 1) := by decide +kernel
theorem dX2_dropOldest_22 : decode cX2_dropOldest 22 = .ok (.aload_n 0, 1) := by decide +kernel
theorem dX2_dropOldest_23 : decode cX2_dropOldest 23 = .ok (.getfield 15, 3) := by decide +kernel
theorem dX2_dropOldest_26 : decode cX2_dropOldest 26 = .ok (.iload_n 1, 1) := by decide +kernel
theorem dX2_dropOldest_27 : decode cX2_dropOldest 27 = .ok (.iconst 1, 1) := by decide +kernel
theorem dX2_dropOldest_28 : decode cX2_dropOldest 28 = .ok (.isub, 1) := by decide +kernel
theorem dX2_dropOldest_29 : decode cX2_dropOldest 29 = .ok (.aload_n 0, 1) := by decide +kernel
theorem dX2_dropOldest_30 : decode cX2_dropOldest 30 = .ok (.getfield 15, 3) := by decide +kernel
theorem dX2_dropOldest_33 : decode cX2_dropOldest 33 = .ok (.iload_n 1, 1) := by decide +kernel
theorem dX2_dropOldest_34 : decode cX2_dropOldest 34 = .ok (.iaload, 1) := by decide +kernel
theorem dX2_dropOldest_35 : decode cX2_dropOldest 35 = .ok (.iastore, 1) := by decide +kernel
theorem dX2_dropOldest_36 : decode cX2_dropOldest 36 = .ok (.aload_n 0, 1) := by decide +kernel
theorem dX2_dropOldest_37 : decode cX2_dropOldest 37 = .ok (.getfield 18, 3) := by decide +kernel
theorem dX2_dropOldest_40 : decode cX2_dropOldest 40 = .ok (.iload_n 1, 1) := by decide +kernel
theorem dX2_dropOldest_41 : decode cX2_dropOldest 41 = .ok (.iconst 1, 1) := by decide +kernel
theorem dX2_dropOldest_42 : decode cX2_dropOldest 42 = .ok (.isub, 1) := by decide +kernel
theorem dX2_dropOldest_43 : decode cX2_dropOldest 43 = .ok (.aload_n 0, 1) := by decide +kernel
theorem dX2_dropOldest_44 : decode cX2_dropOldest 44 = .ok (.getfield 18, 3) := by decide +kernel
theorem dX2_dropOldest_47 : decode cX2_dropOldest 47 = .ok (.iload_n 1, 1) := by decide +kernel
theorem dX2_dropOldest_48 : decode cX2_dropOldest 48 = .ok (.laload, 1) := by decide +kernel
theorem dX2_dropOldest_49 : decode cX2_dropOldest 49 = .ok (.lastore, 1) := by decide +kernel
theorem dX2_dropOldest_50 : decode cX2_dropOldest 50 = .ok (.iinc 1 1, 3) := by decide +kernel
theorem dX2_dropOldest_53 : decode cX2_dropOldest 53 = .ok (.goto (-51), 3) := by decide +kernel
theorem dX2_dropOldest_56 : decode cX2_dropOldest 56 = .ok (.aload_n 0, 1) := by decide +kernel
theorem dX2_dropOldest_57 : decode cX2_dropOldest 57 = .ok (.bipush 7, 2) := by decide +kernel
theorem dX2_dropOldest_59 : decode cX2_dropOldest 59 = .ok (.putfield 22, 3) := by decide +kernel
theorem dX2_dropOldest_62 : decode cX2_dropOldest 62 = .ok (.return_, 1) := by decide +kernel
theorem dX3_init_0 : decode cX3_init 0 = .ok (.aload_n 0, 1) := by decide +kernel
theorem dX3_init_1 : decode cX3_init 1 = .ok (.invokespecial 3, 3) := by decide +kernel
theorem dX3_init_4 : decode cX3_init 4 = .ok (.aload_n 0, 1) := by decide +kernel
theorem dX3_init_5 : decode cX3_init 5 = .ok (.sipush 588, 3) := by decide +kernel
theorem dX3_init_8 : decode cX3_init 8 = .ok (.newarray .int, 2) := by decide +kernel
theorem dX3_init_10 : decode cX3_init 10 = .ok (.putfield 9, 3) := by decide +kernel
theorem dX3_init_13 : decode cX3_init 13 = .ok (.aload_n 0, 1) := by decide +kernel
theorem dX3_init_14 : decode cX3_init 14 = .ok (.aload_n 1, 1) := by decide +kernel
theorem dX3_init_15 : decode cX3_init 15 = .ok (.putfield 15, 3) := by decide +kernel
theorem dX3_init_18 : decode cX3_init 18 = .ok (.return_, 1) := by decide +kernel
theorem dX3_fill_0 : decode cX3_fill 0 = .ok (.aload_n 0, 1) := by decide +kernel
theorem dX3_fill_1 : decode cX3_fill 1 = .ok (.iconst 0, 1) := by decide +kernel
theorem dX3_fill_2 : decode cX3_fill 2 = .ok (.putfield 19, 3) := by decide +kernel
theorem dX3_fill_5 : decode cX3_fill 5 = .ok (.lload_n 1, 1) := by decide +kernel
theorem dX3_fill_6 : decode cX3_fill 6 = .ok (.iload_n 3, 1) := by decide +kernel
theorem dX3_fill_7 : decode cX3_fill 7 = .ok (.invokestatic 23, 3) := by decide +kernel
theorem dX3_fill_10 : decode cX3_fill 10 = .ok (.istore 4, 2) := by decide +kernel
theorem dX3_fill_12 : decode cX3_fill 12 = .ok (.lload_n 1, 1) := by decide +kernel
theorem dX3_fill_13 : decode cX3_fill 13 = .ok (.aload_n 0, 1) := by decide +kernel
theorem dX3_fill_14 : decode cX3_fill 14 = .ok (.getfield 15, 3) := by decide +kernel
theorem dX3_fill_17 : decode cX3_fill 17 = .ok (.getfield 29, 3) := by decide +kernel
theorem dX3_fill_20 : decode cX3_fill 20 = .ok (.invokestatic 34, 3) := by decide +kernel
theorem dX3_fill_23 : decode cX3_fill 23 = .ok (.istore 5, 2) := by decide +kernel
theorem dX3_fill_25 : decode cX3_fill 25 = .ok (.iconst 0, 1) := by decide +kernel
theorem dX3_fill_26 : decode cX3_fill 26 = .ok (.istore 6, 2) := by decide +kernel
theorem dX3_fill_28 : decode cX3_fill 28 = .ok (.iload 6, 2) := by decide +kernel
theorem dX3_fill_30 : decode cX3_fill 30 = .ok (.aload_n 0, 1) := by decide +kernel
theorem dX3_fill_31 : decode cX3_fill 31 = .ok (.getfield 15, 3) := by decide +kernel
theorem dX3_fill_34 : decode cX3_fill 34 = .ok (.getfield 37, 3) := by decide +kernel
theorem dX3_fill_37 : decode cX3_fill 37 = .ok (.if_icmp .ge 27, 3) := by decide +kernel
theorem dX3_fill_40 : decode cX3_fill 40 = .ok (.iload 4, 2) := by decide +kernel
theorem dX3_fill_42 : decode cX3_fill 42 = .ok (.iload 6, 2) := by decide +kernel
theorem dX3_fill_44 : decode cX3_fill 44 = .ok (.ishr, 1) := by decide +kernel
theorem dX3_fill_45 : decode cX3_fill 45 = .ok (.iconst 1, 1) := by decide +kernel
theorem dX3_fill_46 : decode cX3_fill 46 = .ok (.iand, 1) := by decide +kernel
theorem dX3_fill_47 : decode cX3_fill 47 = .ok (.ifCond .eq 11, 3) := by decide +kernel
theorem dX3_fill_50 : decode cX3_fill 50 = .ok (.aload_n 0, 1) := by decide +kernel
theorem dX3_fill_51 : decode cX3_fill 51 = .ok (.iload 6, 2) := by decide +kernel
theorem dX3_fill_53 : decode cX3_fill 53 = .ok (.iload 5, 2) := by decide +kernel
theorem dX3_fill_55 : decode cX3_fill 55 = .ok (.invokevirtual 40, 3) := by decide +kernel
theorem dX3_fill_58 : decode cX3_fill 58 = .ok (.iinc 6 1, 3) := by decide +kernel
theorem dX3_fill_61 : decode cX3_fill 61 = .ok (.goto (-33), 3) := by decide +kernel
theorem dX3_fill_64 : decode cX3_fill 64 = .ok (.return_, 1) := by decide +kernel
theorem dX3_addMovesFrom_0 : decode cX3_addMovesFrom 0 = .ok (.aload_n 0, 1) := by decide +kernel
theorem dX3_addMovesFrom_1 : decode cX3_addMovesFrom 1 = .ok (.getfield 15, 3) := by decide +kernel
theorem dX3_addMovesFrom_4 : decode cX3_addMovesFrom 4 = .ok (.iload_n 1, 1) := by decide +kernel
theorem dX3_addMovesFrom_5 : decode cX3_addMovesFrom 5 = .ok (.iload_n 2, 1) := by decide +kernel
theorem dX3_addMovesFrom_6 : decode cX3_addMovesFrom 6 = .ok (.invokevirtual 44, 3) := by decide +kernel
theorem dX3_addMovesFrom_9 : decode cX3_addMovesFrom 9 = .ok (.istore_n 3, 1) := by decide +kernel
theorem dX3_addMovesFrom_10 : decode cX3_addMovesFrom 10 = .ok (.iconst 0, 1) := by decide +kernel
theorem dX3_addMovesFrom_11 : decode cX3_addMovesFrom 11 = .ok (.istore 4, 2) := by decide +kernel
theorem dX3_addMovesFrom_13 : decode cX3_addMovesFrom 13 = .ok (.iload 4, 2) := by decide +kernel
theorem dX3_addMovesFrom_15 : decode cX3_addMovesFrom 15 = .ok (.aload_n 0, 1) := by decide +kernel
theorem dX3_addMovesFrom_16 : decode cX3_addMovesFrom 16 = .ok (.getfield 15, 3) := by decide +kernel
theorem dX3_addMovesFrom_19 : decode cX3_addMovesFrom 19 = .ok (.getfield 37, 3) := by decide +kernel
theorem dX3_addMovesFrom_22 : decode cX3_addMovesFrom 22 = .ok (.if_icmp .ge 56, 3) := by decide +kernel
theorem dX3_addMovesFrom_25 : decode cX3_addMovesFrom 25 = .ok (.iload_n 3, 1) := by decide +kernel
theorem dX3_addMovesFrom_26 : decode cX3_addMovesFrom 26 = .ok (.iload 4, 2) := by decide +kernel
theorem dX3_addMovesFrom_28 : decode cX3_addMovesFrom 28 = .ok (.ishr, 1) := by decide +kernel
theorem dX3_addMovesFrom_29 : decode cX3_addMovesFrom 29 = .ok (.iconst 1, 1) := by decide +kernel
theorem dX3_addMovesFrom_30 : decode cX3_addMovesFrom 30 = .ok (.iand, 1) := by decide +kernel
theorem dX3_addMovesFrom_31 : decode cX3_addMovesFrom 31 = .ok (.ifCond .eq 41, 3) := by decide +kernel
theorem dX3_addMovesFrom_34 : decode cX3_addMovesFrom 34 = .ok (.aload_n 0, 1) := by decide +kernel
theorem dX3_addMovesFrom_35 : decode cX3_addMovesFrom 35 = .ok (.getfield 15, 3) := by decide +kernel
theorem dX3_addMovesFrom_38 : decode cX3_addMovesFrom 38 = .ok (.iload 4, 2) := by decide +kernel
theorem dX3_addMovesFrom_40 : decode cX3_addMovesFrom 40 = .ok (.iload_n 2, 1) := by decide +kernel
theorem dX3_addMovesFrom_41 : decode cX3_addMovesFrom 41 = .ok (.iconst 1, 1) := by decide +kernel
theorem dX3_addMovesFrom_42 : decode cX3_addMovesFrom 42 = .ok (.iload_n 1, 1) := by decide +kernel
theorem dX3_addMovesFrom_43 : decode cX3_addMovesFrom 43 = .ok (.ishl, 1) := by decide +kernel
theorem dX3_addMovesFrom_44 : decode cX3_addMovesFrom 44 = .ok (.ior, 1) := by decide +kernel
theorem dX3_addMovesFrom_45 : decode cX3_addMovesFrom 45 = .ok (.iconst 1, 1) := by decide +kernel
theorem dX3_addMovesFrom_46 : decode cX3_addMovesFrom 46 = .ok (.iload 4, 2) := by decide +kernel
theorem dX3_addMovesFrom_48 : decode cX3_addMovesFrom 48 = .ok (.ishl, 1) := by decide +kernel
theorem dX3_addMovesFrom_49 : decode cX3_addMovesFrom 49 = .ok (.iconst (-1), 1) := by decide +kernel
theorem dX3_addMovesFrom_50 : decode cX3_addMovesFrom 50 = .ok (.ixor, 1) := by decide +kernel
theorem dX3_addMovesFrom_51 : decode cX3_addMovesFrom 51 = .ok (.iand, 1) := by decide +kernel
theorem dX3_addMovesFrom_52 : decode cX3_addMovesFrom 52 = .ok (.invokevirtual 44, 3) := by decide +kernel
theorem dX3_addMovesFrom_55 : decode cX3_addMovesFrom 55 = .ok (.istore 5, 2) := by decide +kernel
theorem dX3_addMovesFrom_57 : decode cX3_addMovesFrom 57 = .ok (.aload_n 0, 1) := by decide +kernel
theorem dX3_addMovesFrom_58 : decode cX3_addMovesFrom 58 = .ok (.iload_n 1, 1) := by decide +kernel
theorem dX3_addMovesFrom_59 : decode cX3_addMovesFrom 59 = .ok (.bipush 8, 2) := by decide +kernel
theorem dX3_addMovesFrom_61 : decode cX3_addMovesFrom 61 = .ok (.ishl, 1) := by decide +kernel
theorem dX3_addMovesFrom_62 : decode cX3_addMovesFrom 62 = .ok (.iload 4, 2) := by decide +kernel
theorem dX3_addMovesFrom_64 : decode cX3_addMovesFrom 64 = .ok (.iconst 4, 1) := by decide +kernel
theorem dX3_addMovesFrom_65 : decode cX3_addMovesFrom 65 = .ok (.ishl, 1) := by decide +kernel
theorem dX3_addMovesFrom_66 : decode cX3_addMovesFrom 66 = .ok (.ior, 1) := by decide +kernel
theorem dX3_addMovesFrom_67 : decode cX3_addMovesFrom 67 = .ok (.iload 5, 2) := by decide +kernel
theorem dX3_addMovesFrom_69 : decode cX3_addMovesFrom 69 = .ok (.invokevirtual 48, 3) := by decide +kernel
theorem dX3_addMovesFrom_72 : decode cX3_addMovesFrom 72 = .ok (.iinc 4 1, 3) := by decide +kernel
theorem dX3_addMovesFrom_75 : decode cX3_addMovesFrom 75 = .ok (.goto (-62), 3) := by decide +kernel
theorem dX3_addMovesFrom_78 : decode cX3_addMovesFrom 78 = .ok (.return_, 1) := by decide +kernel
theorem dX3_addBurns_0 : decode cX3_addBurns 0 = .ok (.iconst 0, 1) := by decide +kernel
theorem dX3_addBurns_1 : decode cX3_addBurns 1 = .ok (.istore_n 3, 1) := by decide +kernel
theorem dX3_addBurns_2 : decode cX3_addBurns 2 = .ok (.iload_n 3, 1) := by decide +kernel
theorem dX3_addBurns_3 : decode cX3_addBurns 3 = .ok (.aload_n 0, 1) := by decide +kernel
theorem dX3_addBurns_4 : decode cX3_addBurns 4 = .ok (.getfield 15, 3) := by decide +kernel
theorem dX3_addBurns_7 : decode cX3_addBurns 7 = .ok (.getfield 37, 3) := by decide +kernel
theorem dX3_addBurns_10 : decode cX3_addBurns 10 = .ok (.if_icmp .ge 49, 3) := by decide +kernel
theorem dX3_addBurns_13 : decode cX3_addBurns 13 = .ok (.iload_n 2, 1) := by decide +kernel
theorem dX3_addBurns_14 : decode cX3_addBurns 14 = .ok (.iload_n 3, 1) := by decide +kernel
theorem dX3_addBurns_15 : decode cX3_addBurns 15 = .ok (.ishr, 1) := by decide +kernel
theorem dX3_addBurns_16 : decode cX3_addBurns 16 = .ok (.iconst 1, 1) := by decide +kernel
theorem dX3_addBurns_17 : decode cX3_addBurns 17 = .ok (.iand, 1) := by decide +kernel
theorem dX3_addBurns_18 : decode cX3_addBurns 18 = .ok (.ifCond .eq 35, 3) := by decide +kernel
theorem dX3_addBurns_21 : decode cX3_addBurns 21 = .ok (.aload_n 0, 1) := by decide +kernel
theorem dX3_addBurns_22 : decode cX3_addBurns 22 = .ok (.getfield 19, 3) := by decide +kernel
theorem dX3_addBurns_25 : decode cX3_addBurns 25 = .ok (.sipush 588, 3) := by decide +kernel
theorem dX3_addBurns_28 : decode cX3_addBurns 28 = .ok (.if_icmp .ge 25, 3) := by decide +kernel
theorem dX3_addBurns_31 : decode cX3_addBurns 31 = .ok (.aload_n 0, 1) := by decide +kernel
theorem dX3_addBurns_32 : decode cX3_addBurns 32 = .ok (.getfield 9, 3) := by decide +kernel
theorem dX3_addBurns_35 : decode cX3_addBurns 35 = .ok (.aload_n 0, 1) := by decide +kernel
theorem dX3_addBurns_36 : decode cX3_addBurns 36 = .ok (.getfield 19, 3) := by decide +kernel
theorem dX3_addBurns_39 : decode cX3_addBurns 39 = .ok (.iload_n 1, 1) := by decide +kernel
theorem dX3_addBurns_40 : decode cX3_addBurns 40 = .ok (.iload_n 3, 1) := by decide +kernel
theorem dX3_addBurns_41 : decode cX3_addBurns 41 = .ok (.ior, 1) := by decide +kernel
theorem dX3_addBurns_42 : decode cX3_addBurns 42 = .ok (.iastore, 1) := by decide +kernel
theorem dX3_addBurns_43 : decode cX3_addBurns 43 = .ok (.aload_n 0, 1) := by decide +kernel
theorem dX3_addBurns_44 : decode cX3_addBurns 44 = .ok (.dup, 1) := by decide +kernel
theorem dX3_addBurns_45 : decode cX3_addBurns 45 = .ok (.getfield 19, 3) := by decide +kernel
theorem dX3_addBurns_48 : decode cX3_addBurns 48 = .ok (.iconst 1, 1) := by decide +kernel
theorem dX3_addBurns_49 : decode cX3_addBurns 49 = .ok (.iadd, 1) := by decide +kernel
theorem dX3_addBurns_50 : decode cX3_addBurns 50 = .ok (.putfield 19, 3) := by decide +kernel
theorem dX3_addBurns_53 : decode cX3_addBurns 53 = .ok (.iinc 3 1, 3) := by decide +kernel
theorem dX3_addBurns_56 : decode cX3_addBurns 56 = .ok (.goto (-54), 3) := by decide +kernel
theorem dX3_addBurns_59 : decode cX3_addBurns 59 = .ok (.return_, 1) := by decide +kernel
theorem dX3_find_0 : decode cX3_find 0 = .ok (.iload_n 1, 1) := by decide +kernel
theorem dX3_find_1 : decode cX3_find 1 = .ok (.bipush 8, 2) := by decide +kernel
theorem dX3_find_3 : decode cX3_find 3 = .ok (.ishl, 1) := by decide +kernel
theorem dX3_find_4 : decode cX3_find 4 = .ok (.iload_n 2, 1) := by decide +kernel
theorem dX3_find_5 : decode cX3_find 5 = .ok (.iconst 4, 1) := by decide +kernel
theorem dX3_find_6 : decode cX3_find 6 = .ok (.ishl, 1) := by decide +kernel
theorem dX3_find_7 : decode cX3_find 7 = .ok (.ior, 1) := by decide +kernel
theorem dX3_find_8 : decode cX3_find 8 = .ok (.iload_n 3, 1) := by decide +kernel
theorem dX3_find_9 : decode cX3_find 9 = .ok (.ior, 1) := by decide +kernel
theorem dX3_find_10 : decode cX3_find 10 = .ok (.istore 4, 2) := by decide +kernel
theorem dX3_find_12 : decode cX3_find 12 = .ok (.iconst 0, 1) := by decide +kernel
theorem dX3_find_13 : decode cX3_find 13 = .ok (.istore 5, 2) := by decide +kernel
theorem dX3_find_15 : decode cX3_find 15 = .ok (.iload 5, 2) := by decide +kernel
theorem dX3_find_17 : decode cX3_find 17 = .ok (.aload_n 0, 1) := by decide +kernel
theorem dX3_find_18 : decode cX3_find 18 = .ok (.getfield 19, 3) := by decide +kernel
theorem dX3_find_21 : decode cX3_find 21 = .ok (.if_icmp .ge 24, 3) := by decide +kernel
theorem dX3_find_24 : decode cX3_find 24 = .ok (.aload_n 0, 1) := by decide +kernel
theorem dX3_find_25 : decode cX3_find 25 = .ok (.getfield 9, 3) := by decide +kernel
theorem dX3_find_28 : decode cX3_find 28 = .ok (.iload 5, 2) := by decide +kernel
theorem dX3_find_30 : decode cX3_find 30 = .ok (.iaload, 1) := by decide +kernel
theorem dX3_find_31 : decode cX3_find 31 = .ok (.iload 4, 2) := by decide +kernel
theorem dX3_find_33 : decode cX3_find 33 = .ok (.if_icmp .ne 6, 3) := by decide +kernel
theorem dX3_find_36 : decode cX3_find 36 = .ok (.iload 5, 2) := by decide +kernel
theorem dX3_find_38 : decode cX3_find 38 = .ok (.ireturn, 1) := by decide +kernel
theorem dX3_find_39 : decode cX3_find 39 = .ok (.iinc 5 1, 3) := by decide +kernel
theorem dX3_find_42 : decode cX3_find 42 = .ok (.goto (-27), 3) := by decide +kernel
theorem dX3_find_45 : decode cX3_find 45 = .ok (.iconst (-1), 1) := by decide +kernel
theorem dX3_find_46 : decode cX3_find 46 = .ok (.ireturn, 1) := by decide +kernel
theorem dX3_fromOf_0 : decode cX3_fromOf 0 = .ok (.aload_n 0, 1) := by decide +kernel
theorem dX3_fromOf_1 : decode cX3_fromOf 1 = .ok (.getfield 9, 3) := by decide +kernel
theorem dX3_fromOf_4 : decode cX3_fromOf 4 = .ok (.iload_n 1, 1) := by decide +kernel
theorem dX3_fromOf_5 : decode cX3_fromOf 5 = .ok (.iaload, 1) := by decide +kernel
theorem dX3_fromOf_6 : decode cX3_fromOf 6 = .ok (.bipush 8, 2) := by decide +kernel
theorem dX3_fromOf_8 : decode cX3_fromOf 8 = .ok (.ishr, 1) := by decide +kernel
theorem dX3_fromOf_9 : decode cX3_fromOf 9 = .ok (.ireturn, 1) := by decide +kernel
theorem dX3_toOf_0 : decode cX3_toOf 0 = .ok (.aload_n 0, 1) := by decide +kernel
theorem dX3_toOf_1 : decode cX3_toOf 1 = .ok (.getfield 9, 3) := by decide +kernel
theorem dX3_toOf_4 : decode cX3_toOf 4 = .ok (.iload_n 1, 1) := by decide +kernel
theorem dX3_toOf_5 : decode cX3_toOf 5 = .ok (.iaload, 1) := by decide +kernel
theorem dX3_toOf_6 : decode cX3_toOf 6 = .ok (.iconst 4, 1) := by decide +kernel
theorem dX3_toOf_7 : decode cX3_toOf 7 = .ok (.ishr, 1) := by decide +kernel
theorem dX3_toOf_8 : decode cX3_toOf 8 = .ok (.bipush 15, 2) := by decide +kernel
theorem dX3_toOf_10 : decode cX3_toOf 10 = .ok (.iand, 1) := by decide +kernel
theorem dX3_toOf_11 : decode cX3_toOf 11 = .ok (.ireturn, 1) := by decide +kernel
theorem dX3_burntOf_0 : decode cX3_burntOf 0 = .ok (.aload_n 0, 1) := by decide +kernel
theorem dX3_burntOf_1 : decode cX3_burntOf 1 = .ok (.getfield 9, 3) := by decide +kernel
theorem dX3_burntOf_4 : decode cX3_burntOf 4 = .ok (.iload_n 1, 1) := by decide +kernel
theorem dX3_burntOf_5 : decode cX3_burntOf 5 = .ok (.iaload, 1) := by decide +kernel
theorem dX3_burntOf_6 : decode cX3_burntOf 6 = .ok (.bipush 15, 2) := by decide +kernel
theorem dX3_burntOf_8 : decode cX3_burntOf 8 = .ok (.iand, 1) := by decide +kernel
theorem dX3_burntOf_9 : decode cX3_burntOf 9 = .ok (.ireturn, 1) := by decide +kernel
theorem dX3_after_0 : decode cX3_after 0 = .ok (.lload_n 1, 1) := by decide +kernel
theorem dX3_after_1 : decode cX3_after 1 = .ok (.aload_n 0, 1) := by decide +kernel
theorem dX3_after_2 : decode cX3_after 2 = .ok (.iload 4, 2) := by decide +kernel
theorem dX3_after_4 : decode cX3_after 4 = .ok (.invokevirtual 51, 3) := by decide +kernel
theorem dX3_after_7 : decode cX3_after 7 = .ok (.iload_n 3, 1) := by decide +kernel
theorem dX3_after_8 : decode cX3_after 8 = .ok (.invokestatic 55, 3) := by decide +kernel
theorem dX3_after_11 : decode cX3_after 11 = .ok (.ldc2_w 59, 3) := by decide +kernel
theorem dX3_after_14 : decode cX3_after 14 = .ok (.lxor, 1) := by decide +kernel
theorem dX3_after_15 : decode cX3_after 15 = .ok (.land, 1) := by decide +kernel
theorem dX3_after_16 : decode cX3_after 16 = .ok (.aload_n 0, 1) := by decide +kernel
theorem dX3_after_17 : decode cX3_after 17 = .ok (.iload 4, 2) := by decide +kernel
theorem dX3_after_19 : decode cX3_after 19 = .ok (.invokevirtual 61, 3) := by decide +kernel
theorem dX3_after_22 : decode cX3_after 22 = .ok (.iload_n 3, 1) := by decide +kernel
theorem dX3_after_23 : decode cX3_after 23 = .ok (.invokestatic 55, 3) := by decide +kernel
theorem dX3_after_26 : decode cX3_after 26 = .ok (.lor, 1) := by decide +kernel
theorem dX3_after_27 : decode cX3_after 27 = .ok (.lstore 5, 2) := by decide +kernel
theorem dX3_after_29 : decode cX3_after 29 = .ok (.lload 5, 2) := by decide +kernel
theorem dX3_after_31 : decode cX3_after 31 = .ok (.aload_n 0, 1) := by decide +kernel
theorem dX3_after_32 : decode cX3_after 32 = .ok (.iload 4, 2) := by decide +kernel
theorem dX3_after_34 : decode cX3_after 34 = .ok (.invokevirtual 64, 3) := by decide +kernel
theorem dX3_after_37 : decode cX3_after 37 = .ok (.iconst 3, 1) := by decide +kernel
theorem dX3_after_38 : decode cX3_after 38 = .ok (.invokestatic 55, 3) := by decide +kernel
theorem dX3_after_41 : decode cX3_after 41 = .ok (.lor, 1) := by decide +kernel
theorem dX3_after_42 : decode cX3_after 42 = .ok (.lreturn, 1) := by decide +kernel
theorem dX4_init_0 : decode cX4_init 0 = .ok (.aload_n 0, 1) := by decide +kernel
theorem dX4_init_1 : decode cX4_init 1 = .ok (.invokespecial 3, 3) := by decide +kernel
theorem dX4_init_4 : decode cX4_init 4 = .ok (.aload_n 0, 1) := by decide +kernel
theorem dX4_init_5 : decode cX4_init 5 = .ok (.sipush 1500, 3) := by decide +kernel
theorem dX4_init_8 : decode cX4_init 8 = .ok (.newarray .long, 2) := by decide +kernel
theorem dX4_init_10 : decode cX4_init 10 = .ok (.putfield 9, 3) := by decide +kernel
theorem dX4_init_13 : decode cX4_init 13 = .ok (.aload_n 0, 1) := by decide +kernel
theorem dX4_init_14 : decode cX4_init 14 = .ok (.sipush 1500, 3) := by decide +kernel
theorem dX4_init_17 : decode cX4_init 17 = .ok (.newarray .boolean, 2) := by decide +kernel
theorem dX4_init_19 : decode cX4_init 19 = .ok (.putfield 15, 3) := by decide +kernel
theorem dX4_init_22 : decode cX4_init 22 = .ok (.aload_n 0, 1) := by decide +kernel
theorem dX4_init_23 : decode cX4_init 23 = .ok (.sipush 1500, 3) := by decide +kernel
theorem dX4_init_26 : decode cX4_init 26 = .ok (.newarray .int, 2) := by decide +kernel
theorem dX4_init_28 : decode cX4_init 28 = .ok (.putfield 19, 3) := by decide +kernel
theorem dX4_init_31 : decode cX4_init 31 = .ok (.aload_n 0, 1) := by decide +kernel
theorem dX4_init_32 : decode cX4_init 32 = .ok (.sipush 4096, 3) := by decide +kernel
theorem dX4_init_35 : decode cX4_init 35 = .ok (.newarray .int, 2) := by decide +kernel
theorem dX4_init_37 : decode cX4_init 37 = .ok (.putfield 23, 3) := by decide +kernel
theorem dX4_init_40 : decode cX4_init 40 = .ok (.aload_n 0, 1) := by decide +kernel
theorem dX4_init_41 : decode cX4_init 41 = .ok (.aload_n 1, 1) := by decide +kernel
theorem dX4_init_42 : decode cX4_init 42 = .ok (.putfield 26, 3) := by decide +kernel
theorem dX4_init_45 : decode cX4_init 45 = .ok (.return_, 1) := by decide +kernel
theorem dX4_explore_0 : decode cX4_explore 0 = .ok (.iconst 0, 1) := by decide +kernel
theorem dX4_explore_1 : decode cX4_explore 1 = .ok (.istore 5, 2) := by decide +kernel
theorem dX4_explore_3 : decode cX4_explore 3 = .ok (.iload 5, 2) := by decide +kernel
theorem dX4_explore_5 : decode cX4_explore 5 = .ok (.sipush 4096, 3) := by decide +kernel
theorem dX4_explore_8 : decode cX4_explore 8 = .ok (.if_icmp .ge 17, 3) := by decide +kernel
theorem dX4_explore_11 : decode cX4_explore 11 = .ok (.aload_n 0, 1) := by decide +kernel
theorem dX4_explore_12 : decode cX4_explore 12 = .ok (.getfield 23, 3) := by decide +kernel
theorem dX4_explore_15 : decode cX4_explore 15 = .ok (.iload 5, 2) := by decide +kernel
theorem dX4_explore_17 : decode cX4_explore 17 = .ok (.iconst 0, 1) := by decide +kernel
theorem dX4_explore_18 : decode cX4_explore 18 = .ok (.iastore, 1) := by decide +kernel
theorem dX4_explore_19 : decode cX4_explore 19 = .ok (.iinc 5 1, 3) := by decide +kernel
theorem dX4_explore_22 : decode cX4_explore 22 = .ok (.goto (-19), 3) := by decide +kernel
theorem dX4_explore_25 : decode cX4_explore 25 = .ok (.aload_n 0, 1) := by decide +kernel
theorem dX4_explore_26 : decode cX4_explore 26 = .ok (.iconst 0, 1) := by decide +kernel
theorem dX4_explore_27 : decode cX4_explore 27 = .ok (.putfield 30, 3) := by decide +kernel
theorem dX4_explore_30 : decode cX4_explore 30 = .ok (.aload_n 0, 1) := by decide +kernel
theorem dX4_explore_31 : decode cX4_explore 31 = .ok (.iload_n 3, 1) := by decide +kernel
theorem dX4_explore_32 : decode cX4_explore 32 = .ok (.putfield 34, 3) := by decide +kernel
theorem dX4_explore_35 : decode cX4_explore 35 = .ok (.aload_n 0, 1) := by decide +kernel
theorem dX4_explore_36 : decode cX4_explore 36 = .ok (.iload 4, 2) := by decide +kernel
theorem dX4_explore_38 : decode cX4_explore 38 = .ok (.putfield 37, 3) := by decide +kernel
theorem dX4_explore_41 : decode cX4_explore 41 = .ok (.aload_n 0, 1) := by decide +kernel
theorem dX4_explore_42 : decode cX4_explore 42 = .ok (.lload_n 1, 1) := by decide +kernel
theorem dX4_explore_43 : decode cX4_explore 43 = .ok (.invokevirtual 40, 3) := by decide +kernel
theorem dX4_explore_46 : decode cX4_explore 46 = .ok (.pop, 1) := by decide +kernel
theorem dX4_explore_47 : decode cX4_explore 47 = .ok (.iconst 0, 1) := by decide +kernel
theorem dX4_explore_48 : decode cX4_explore 48 = .ok (.istore 5, 2) := by decide +kernel
theorem dX4_explore_50 : decode cX4_explore 50 = .ok (.iload 5, 2) := by decide +kernel
theorem dX4_explore_52 : decode cX4_explore 52 = .ok (.aload_n 0, 1) := by decide +kernel
theorem dX4_explore_53 : decode cX4_explore 53 = .ok (.getfield 30, 3) := by decide +kernel
theorem dX4_explore_56 : decode cX4_explore 56 = .ok (.if_icmp .ge 89, 3) := by decide +kernel
theorem dX4_explore_59 : decode cX4_explore 59 = .ok (.iload 5, 2) := by decide +kernel
theorem dX4_explore_61 : decode cX4_explore 61 = .ok (.sipush 1500, 3) := by decide +kernel
theorem dX4_explore_64 : decode cX4_explore 64 = .ok (.if_icmp .ge 81, 3) := by decide +kernel
theorem dX4_explore_67 : decode cX4_explore 67 = .ok (.aload_n 0, 1) := by decide +kernel
theorem dX4_explore_68 : decode cX4_explore 68 = .ok (.iload 5, 2) := by decide +kernel
theorem dX4_explore_70 : decode cX4_explore 70 = .ok (.invokevirtual 44, 3) := by decide +kernel
theorem dX4_explore_73 : decode cX4_explore 73 = .ok (.istore 6, 2) := by decide +kernel
theorem dX4_explore_75 : decode cX4_explore 75 = .ok (.aload_n 0, 1) := by decide +kernel
theorem dX4_explore_76 : decode cX4_explore 76 = .ok (.getfield 26, 3) := by decide +kernel
theorem dX4_explore_79 : decode cX4_explore 79 = .ok (.aload_n 0, 1) := by decide +kernel
theorem dX4_explore_80 : decode cX4_explore 80 = .ok (.getfield 9, 3) := by decide +kernel
theorem dX4_explore_83 : decode cX4_explore 83 = .ok (.iload 5, 2) := by decide +kernel
theorem dX4_explore_85 : decode cX4_explore 85 = .ok (.laload, 1) := by decide +kernel
theorem dX4_explore_86 : decode cX4_explore 86 = .ok (.iload 6, 2) := by decide +kernel
theorem dX4_explore_88 : decode cX4_explore 88 = .ok (.invokevirtual 48, 3) := by decide +kernel
theorem dX4_explore_91 : decode cX4_explore 91 = .ok (.iconst 0, 1) := by decide +kernel
theorem dX4_explore_92 : decode cX4_explore 92 = .ok (.istore 7, 2) := by decide +kernel
theorem dX4_explore_94 : decode cX4_explore 94 = .ok (.iload 7, 2) := by decide +kernel
theorem dX4_explore_96 : decode cX4_explore 96 = .ok (.aload_n 0, 1) := by decide +kernel
theorem dX4_explore_97 : decode cX4_explore 97 = .ok (.getfield 26, 3) := by decide +kernel
theorem dX4_explore_100 : decode cX4_explore 100 = .ok (.getfield 54, 3) := by decide +kernel
theorem dX4_explore_103 : decode cX4_explore 103 = .ok (.if_icmp .ge 36, 3) := by decide +kernel
theorem dX4_explore_106 : decode cX4_explore 106 = .ok (.aload_n 0, 1) := by decide +kernel
theorem dX4_explore_107 : decode cX4_explore 107 = .ok (.aload_n 0, 1) := by decide +kernel
theorem dX4_explore_108 : decode cX4_explore 108 = .ok (.getfield 26, 3) := by decide +kernel
theorem dX4_explore_111 : decode cX4_explore 111 = .ok (.aload_n 0, 1) := by decide +kernel
theorem dX4_explore_112 : decode cX4_explore 112 = .ok (.getfield 9, 3) := by decide +kernel
theorem dX4_explore_115 : decode cX4_explore 115 = .ok (.iload 5, 2) := by decide +kernel
theorem dX4_explore_117 : decode cX4_explore 117 = .ok (.laload, 1) := by decide +kernel
theorem dX4_explore_118 : decode cX4_explore 118 = .ok (.iload 6, 2) := by decide +kernel
theorem dX4_explore_120 : decode cX4_explore 120 = .ok (.iload 7, 2) := by decide +kernel
theorem dX4_explore_122 : decode cX4_explore 122 = .ok (.invokevirtual 55, 3) := by decide +kernel
theorem dX4_explore_125 : decode cX4_explore 125 = .ok (.invokevirtual 40, 3) := by decide +kernel
theorem dX4_explore_128 : decode cX4_explore 128 = .ok (.ifCond .ne 5, 3) := by decide +kernel
theorem dX4_explore_131 : decode cX4_explore 131 = .ok (.iconst 0, 1) := by decide +kernel
theorem dX4_explore_132 : decode cX4_explore 132 = .ok (.ireturn, 1) := by decide +kernel
theorem dX4_explore_133 : decode cX4_explore 133 = .ok (.iinc 7 1, 3) := by decide +kernel
theorem dX4_explore_136 : decode cX4_explore 136 = .ok (.goto (-42), 3) := by decide +kernel
theorem dX4_explore_139 : decode cX4_explore 139 = .ok (.iinc 5 1, 3) := by decide +kernel
theorem dX4_explore_142 : decode cX4_explore 142 = .ok (.goto (-92), 3) := by decide +kernel
theorem dX4_explore_145 : decode cX4_explore 145 = .ok (.iconst 1, 1) := by decide +kernel
theorem dX4_explore_146 : decode cX4_explore 146 = .ok (.ireturn, 1) := by decide +kernel
theorem dX4_add_0 : decode cX4_add 0 = .ok (.aload_n 0, 1) := by decide +kernel
theorem dX4_add_1 : decode cX4_add 1 = .ok (.lload_n 1, 1) := by decide +kernel
theorem dX4_add_2 : decode cX4_add 2 = .ok (.invokevirtual 59, 3) := by decide +kernel
theorem dX4_add_5 : decode cX4_add 5 = .ok (.istore_n 3, 1) := by decide +kernel
theorem dX4_add_6 : decode cX4_add 6 = .ok (.aload_n 0, 1) := by decide +kernel
theorem dX4_add_7 : decode cX4_add 7 = .ok (.getfield 23, 3) := by decide +kernel
theorem dX4_add_10 : decode cX4_add 10 = .ok (.iload_n 3, 1) := by decide +kernel
theorem dX4_add_11 : decode cX4_add 11 = .ok (.iaload, 1) := by decide +kernel
theorem dX4_add_12 : decode cX4_add 12 = .ok (.ifCond .eq 5, 3) := by decide +kernel
theorem dX4_add_15 : decode cX4_add 15 = .ok (.iconst 1, 1) := by decide +kernel
theorem dX4_add_16 : decode cX4_add 16 = .ok (.ireturn, 1) := by decide +kernel
theorem dX4_add_17 : decode cX4_add 17 = .ok (.aload_n 0, 1) := by decide +kernel
theorem dX4_add_18 : decode cX4_add 18 = .ok (.getfield 30, 3) := by decide +kernel
theorem dX4_add_21 : decode cX4_add 21 = .ok (.sipush 1500, 3) := by decide +kernel
theorem dX4_add_24 : decode cX4_add 24 = .ok (.if_icmp .lt 5, 3) := by decide +kernel
theorem dX4_add_27 : decode cX4_add 27 = .ok (.iconst 0, 1) := by decide +kernel
theorem dX4_add_28 : decode cX4_add 28 = .ok (.ireturn, 1) := by decide +kernel
theorem dX4_add_29 : decode cX4_add 29 = .ok (.aload_n 0, 1) := by decide +kernel
theorem dX4_add_30 : decode cX4_add 30 = .ok (.getfield 9, 3) := by decide +kernel
theorem dX4_add_33 : decode cX4_add 33 = .ok (.aload_n 0, 1) := by decide +kernel
theorem dX4_add_34 : decode cX4_add 34 = .ok (.getfield 30, 3) := by decide +kernel
theorem dX4_add_37 : decode cX4_add 37 = .ok (.lload_n 1, 1) := by decide +kernel
theorem dX4_add_38 : decode cX4_add 38 = .ok (.lastore, 1) := by decide +kernel
theorem dX4_add_39 : decode cX4_add 39 = .ok (.aload_n 0, 1) := by decide +kernel
theorem dX4_add_40 : decode cX4_add 40 = .ok (.dup, 1) := by decide +kernel
theorem dX4_add_41 : decode cX4_add 41 = .ok (.getfield 30, 3) := by decide +kernel
theorem dX4_add_44 : decode cX4_add 44 = .ok (.iconst 1, 1) := by decide +kernel
theorem dX4_add_45 : decode cX4_add 45 = .ok (.iadd, 1) := by decide +kernel
theorem dX4_add_46 : decode cX4_add 46 = .ok (.putfield 30, 3) := by decide +kernel
theorem dX4_add_49 : decode cX4_add 49 = .ok (.aload_n 0, 1) := by decide +kernel
theorem dX4_add_50 : decode cX4_add 50 = .ok (.getfield 23, 3) := by decide +kernel
theorem dX4_add_53 : decode cX4_add 53 = .ok (.iload_n 3, 1) := by decide +kernel
theorem dX4_add_54 : decode cX4_add 54 = .ok (.aload_n 0, 1) := by decide +kernel
theorem dX4_add_55 : decode cX4_add 55 = .ok (.getfield 30, 3) := by decide +kernel
theorem dX4_add_58 : decode cX4_add 58 = .ok (.iastore, 1) := by decide +kernel
theorem dX4_add_59 : decode cX4_add 59 = .ok (.iconst 1, 1) := by decide +kernel
theorem dX4_add_60 : decode cX4_add 60 = .ok (.ireturn, 1) := by decide +kernel
theorem dX4_slotOf_0 : decode cX4_slotOf 0 = .ok (.lload_n 1, 1) := by decide +kernel
theorem dX4_slotOf_1 : decode cX4_slotOf 1 = .ok (.ldc2_w 63, 3) := by decide +kernel
theorem dX4_slotOf_4 : decode cX4_slotOf 4 = .ok (.lmul, 1) := by decide +kernel
theorem dX4_slotOf_5 : decode cX4_slotOf 5 = .ok (.bipush 52, 2) := by decide +kernel
theorem dX4_slotOf_7 : decode cX4_slotOf 7 = .ok (.lushr, 1) := by decide +kernel
theorem dX4_slotOf_8 : decode cX4_slotOf 8 = .ok (.l2i, 1) := by decide +kernel
theorem dX4_slotOf_9 : decode cX4_slotOf 9 = .ok (.istore_n 3, 1) := by decide +kernel
theorem dX4_slotOf_10 : decode cX4_slotOf 10 = .ok (.iconst 0, 1) := by decide +kernel
theorem dX4_slotOf_11 : decode cX4_slotOf 11 = .ok (.istore 4, 2) := by decide +kernel
theorem dX4_slotOf_13 : decode cX4_slotOf 13 = .ok (.iload 4, 2) := by decide +kernel
theorem dX4_slotOf_15 : decode cX4_slotOf 15 = .ok (.sipush 4096, 3) := by decide +kernel
theorem dX4_slotOf_18 : decode cX4_slotOf 18 = .ok (.if_icmp .ge 46, 3) := by decide +kernel
theorem dX4_slotOf_21 : decode cX4_slotOf 21 = .ok (.aload_n 0, 1) := by decide +kernel
theorem dX4_slotOf_22 : decode cX4_slotOf 22 = .ok (.getfield 23, 3) := by decide +kernel
theorem dX4_slotOf_25 : decode cX4_slotOf 25 = .ok (.iload_n 3, 1) := by decide +kernel
theorem dX4_slotOf_26 : decode cX4_slotOf 26 = .ok (.iaload, 1) := by decide +kernel
theorem dX4_slotOf_27 : decode cX4_slotOf 27 = .ok (.istore 5, 2) := by decide +kernel
theorem dX4_slotOf_29 : decode cX4_slotOf 29 = .ok (.iload 5, 2) := by decide +kernel
theorem dX4_slotOf_31 : decode cX4_slotOf 31 = .ok (.ifCond .eq 17, 3) := by decide +kernel
theorem dX4_slotOf_34 : decode cX4_slotOf 34 = .ok (.aload_n 0, 1) := by decide +kernel
theorem dX4_slotOf_35 : decode cX4_slotOf 35 = .ok (.getfield 9, 3) := by decide +kernel
theorem dX4_slotOf_38 : decode cX4_slotOf 38 = .ok (.iload 5, 2) := by decide +kernel
theorem dX4_slotOf_40 : decode cX4_slotOf 40 = .ok (.iconst 1, 1) := by decide +kernel
theorem dX4_slotOf_41 : decode cX4_slotOf 41 = .ok (.isub, 1) := by decide +kernel
theorem dX4_slotOf_42 : decode cX4_slotOf 42 = .ok (.laload, 1) := by decide +kernel
theorem dX4_slotOf_43 : decode cX4_slotOf 43 = .ok (.lload_n 1, 1) := by decide +kernel
theorem dX4_slotOf_44 : decode cX4_slotOf 44 = .ok (.lcmp, 1) := by decide +kernel
theorem dX4_slotOf_45 : decode cX4_slotOf 45 = .ok (.ifCond .ne 5, 3) := by decide +kernel
theorem dX4_slotOf_48 : decode cX4_slotOf 48 = .ok (.iload_n 3, 1) := by decide +kernel
theorem dX4_slotOf_49 : decode cX4_slotOf 49 = .ok (.ireturn, 1) := by decide +kernel
theorem dX4_slotOf_50 : decode cX4_slotOf 50 = .ok (.iload_n 3, 1) := by decide +kernel
theorem dX4_slotOf_51 : decode cX4_slotOf 51 = .ok (.iconst 1, 1) := by decide +kernel
theorem dX4_slotOf_52 : decode cX4_slotOf 52 = .ok (.iadd, 1) := by decide +kernel
theorem dX4_slotOf_53 : decode cX4_slotOf 53 = .ok (.sipush 4095, 3) := by decide +kernel
theorem dX4_slotOf_56 : decode cX4_slotOf 56 = .ok (.iand, 1) := by decide +kernel
theorem dX4_slotOf_57 : decode cX4_slotOf 57 = .ok (.istore_n 3, 1) := by decide +kernel
theorem dX4_slotOf_58 : decode cX4_slotOf 58 = .ok (.iinc 4 1, 3) := by decide +kernel
theorem dX4_slotOf_61 : decode cX4_slotOf 61 = .ok (.goto (-48), 3) := by decide +kernel
theorem dX4_slotOf_64 : decode cX4_slotOf 64 = .ok (.iload_n 3, 1) := by decide +kernel
theorem dX4_slotOf_65 : decode cX4_slotOf 65 = .ok (.ireturn, 1) := by decide +kernel
theorem dX4_find_0 : decode cX4_find 0 = .ok (.aload_n 0, 1) := by decide +kernel
theorem dX4_find_1 : decode cX4_find 1 = .ok (.getfield 23, 3) := by decide +kernel
theorem dX4_find_4 : decode cX4_find 4 = .ok (.aload_n 0, 1) := by decide +kernel
theorem dX4_find_5 : decode cX4_find 5 = .ok (.lload_n 1, 1) := by decide +kernel
theorem dX4_find_6 : decode cX4_find 6 = .ok (.invokevirtual 59, 3) := by decide +kernel
theorem dX4_find_9 : decode cX4_find 9 = .ok (.iaload, 1) := by decide +kernel
theorem dX4_find_10 : decode cX4_find 10 = .ok (.iconst 1, 1) := by decide +kernel
theorem dX4_find_11 : decode cX4_find 11 = .ok (.isub, 1) := by decide +kernel
theorem dX4_find_12 : decode cX4_find 12 = .ok (.ireturn, 1) := by decide +kernel
theorem dX4_sideAt_0 : decode cX4_sideAt 0 = .ok (.aload_n 0, 1) := by decide +kernel
theorem dX4_sideAt_1 : decode cX4_sideAt 1 = .ok (.getfield 9, 3) := by decide +kernel
theorem dX4_sideAt_4 : decode cX4_sideAt 4 = .ok (.iconst 0, 1) := by decide +kernel
theorem dX4_sideAt_5 : decode cX4_sideAt 5 = .ok (.laload, 1) := by decide +kernel
theorem dX4_sideAt_6 : decode cX4_sideAt 6 = .ok (.iconst 3, 1) := by decide +kernel
theorem dX4_sideAt_7 : decode cX4_sideAt 7 = .ok (.invokestatic 65, 3) := by decide +kernel
theorem dX4_sideAt_10 : decode cX4_sideAt 10 = .ok (.invokestatic 71, 3) := by decide +kernel
theorem dX4_sideAt_13 : decode cX4_sideAt 13 = .ok (.istore_n 2, 1) := by decide +kernel
theorem dX4_sideAt_14 : decode cX4_sideAt 14 = .ok (.aload_n 0, 1) := by decide +kernel
theorem dX4_sideAt_15 : decode cX4_sideAt 15 = .ok (.getfield 9, 3) := by decide +kernel
theorem dX4_sideAt_18 : decode cX4_sideAt 18 = .ok (.iload_n 1, 1) := by decide +kernel
theorem dX4_sideAt_19 : decode cX4_sideAt 19 = .ok (.laload, 1) := by decide +kernel
theorem dX4_sideAt_20 : decode cX4_sideAt 20 = .ok (.iconst 3, 1) := by decide +kernel
theorem dX4_sideAt_21 : decode cX4_sideAt 21 = .ok (.invokestatic 65, 3) := by decide +kernel
theorem dX4_sideAt_24 : decode cX4_sideAt 24 = .ok (.invokestatic 71, 3) := by decide +kernel
theorem dX4_sideAt_27 : decode cX4_sideAt 27 = .ok (.istore_n 3, 1) := by decide +kernel
theorem dX4_sideAt_28 : decode cX4_sideAt 28 = .ok (.iload_n 3, 1) := by decide +kernel
theorem dX4_sideAt_29 : decode cX4_sideAt 29 = .ok (.iload_n 2, 1) := by decide +kernel
theorem dX4_sideAt_30 : decode cX4_sideAt 30 = .ok (.isub, 1) := by decide +kernel
theorem dX4_sideAt_31 : decode cX4_sideAt 31 = .ok (.iconst 1, 1) := by decide +kernel
theorem dX4_sideAt_32 : decode cX4_sideAt 32 = .ok (.iand, 1) := by decide +kernel
theorem dX4_sideAt_33 : decode cX4_sideAt 33 = .ok (.ifCond .ne 10, 3) := by decide +kernel
theorem dX4_sideAt_36 : decode cX4_sideAt 36 = .ok (.aload_n 0, 1) := by decide +kernel
theorem dX4_sideAt_37 : decode cX4_sideAt 37 = .ok (.getfield 34, 3) := by decide +kernel
theorem dX4_sideAt_40 : decode cX4_sideAt 40 = .ok (.goto 7, 3) := by decide +kernel
theorem dX4_sideAt_43 : decode cX4_sideAt 43 = .ok (.aload_n 0, 1) := by decide +kernel
theorem dX4_sideAt_44 : decode cX4_sideAt 44 = .ok (.getfield 37, 3) := by decide +kernel
theorem dX4_sideAt_47 : decode cX4_sideAt 47 = .ok (.ireturn, 1) := by decide +kernel
theorem dX4_solve_0 : decode cX4_solve 0 = .ok (.aload_n 0, 1) := by decide +kernel
theorem dX4_solve_1 : decode cX4_solve 1 = .ok (.getfield 30, 3) := by decide +kernel
theorem dX4_solve_4 : decode cX4_solve 4 = .ok (.iconst 1, 1) := by decide +kernel
theorem dX4_solve_5 : decode cX4_solve 5 = .ok (.isub, 1) := by decide +kernel
theorem dX4_solve_6 : decode cX4_solve 6 = .ok (.istore_n 1, 1) := by decide +kernel
theorem dX4_solve_7 : decode cX4_solve 7 = .ok (.iload_n 1, 1) := by decide +kernel
theorem dX4_solve_8 : decode cX4_solve 8 = .ok (.ifCond .lt 167, 3) := by decide +kernel
theorem dX4_solve_11 : decode cX4_solve 11 = .ok (.aload_n 0, 1) := by decide +kernel
theorem dX4_solve_12 : decode cX4_solve 12 = .ok (.iload_n 1, 1) := by decide +kernel
theorem dX4_solve_13 : decode cX4_solve 13 = .ok (.invokevirtual 44, 3) := by decide +kernel
theorem dX4_solve_16 : decode cX4_solve 16 = .ok (.istore_n 2, 1) := by decide +kernel
theorem dX4_solve_17 : decode cX4_solve 17 = .ok (.sipush 1000, 3) := by decide +kernel
theorem dX4_solve_20 : decode cX4_solve 20 = .ok (.istore_n 3, 1) := by decide +kernel
theorem dX4_solve_21 : decode cX4_solve 21 = .ok (.iconst 0, 1) := by decide +kernel
theorem dX4_solve_22 : decode cX4_solve 22 = .ok (.istore 4, 2) := by decide +kernel
theorem dX4_solve_24 : decode cX4_solve 24 = .ok (.aload_n 0, 1) := by decide +kernel
theorem dX4_solve_25 : decode cX4_solve 25 = .ok (.getfield 26, 3) := by decide +kernel
theorem dX4_solve_28 : decode cX4_solve 28 = .ok (.aload_n 0, 1) := by decide +kernel
theorem dX4_solve_29 : decode cX4_solve 29 = .ok (.getfield 9, 3) := by decide +kernel
theorem dX4_solve_32 : decode cX4_solve 32 = .ok (.iload_n 1, 1) := by decide +kernel
theorem dX4_solve_33 : decode cX4_solve 33 = .ok (.laload, 1) := by decide +kernel
theorem dX4_solve_34 : decode cX4_solve 34 = .ok (.iload_n 2, 1) := by decide +kernel
theorem dX4_solve_35 : decode cX4_solve 35 = .ok (.invokevirtual 48, 3) := by decide +kernel
theorem dX4_solve_38 : decode cX4_solve 38 = .ok (.iconst 0, 1) := by decide +kernel
theorem dX4_solve_39 : decode cX4_solve 39 = .ok (.istore 5, 2) := by decide +kernel
theorem dX4_solve_41 : decode cX4_solve 41 = .ok (.iload 5, 2) := by decide +kernel
theorem dX4_solve_43 : decode cX4_solve 43 = .ok (.aload_n 0, 1) := by decide +kernel
theorem dX4_solve_44 : decode cX4_solve 44 = .ok (.getfield 26, 3) := by decide +kernel
theorem dX4_solve_47 : decode cX4_solve 47 = .ok (.getfield 54, 3) := by decide +kernel
theorem dX4_solve_50 : decode cX4_solve 50 = .ok (.if_icmp .ge 80, 3) := by decide +kernel
theorem dX4_solve_53 : decode cX4_solve 53 = .ok (.aload_n 0, 1) := by decide +kernel
theorem dX4_solve_54 : decode cX4_solve 54 = .ok (.aload_n 0, 1) := by decide +kernel
theorem dX4_solve_55 : decode cX4_solve 55 = .ok (.getfield 26, 3) := by decide +kernel
theorem dX4_solve_58 : decode cX4_solve 58 = .ok (.aload_n 0, 1) := by decide +kernel
theorem dX4_solve_59 : decode cX4_solve 59 = .ok (.getfield 9, 3) := by decide +kernel
theorem dX4_solve_62 : decode cX4_solve 62 = .ok (.iload_n 1, 1) := by decide +kernel
theorem dX4_solve_63 : decode cX4_solve 63 = .ok (.laload, 1) := by decide +kernel
theorem dX4_solve_64 : decode cX4_solve 64 = .ok (.iload_n 2, 1) := by decide +kernel
theorem dX4_solve_65 : decode cX4_solve 65 = .ok (.iload 5, 2) := by decide +kernel
theorem dX4_solve_67 : decode cX4_solve 67 = .ok (.invokevirtual 55, 3) := by decide +kernel
theorem dX4_solve_70 : decode cX4_solve 70 = .ok (.invokevirtual 76, 3) := by decide +kernel
theorem dX4_solve_73 : decode cX4_solve 73 = .ok (.istore 6, 2) := by decide +kernel
theorem dX4_solve_75 : decode cX4_solve 75 = .ok (.iload 6, 2) := by decide +kernel
theorem dX4_solve_77 : decode cX4_solve 77 = .ok (.iconst (-1), 1) := by decide +kernel
theorem dX4_solve_78 : decode cX4_solve 78 = .ok (.if_icmp .ne 6, 3) := by decide +kernel
theorem dX4_solve_81 : decode cX4_solve 81 = .ok (.goto 43, 3) := by decide +kernel
theorem dX4_solve_84 : decode cX4_solve 84 = .ok (.iload 4, 2) := by decide +kernel
theorem dX4_solve_86 : decode cX4_solve 86 = .ok (.aload_n 0, 1) := by decide +kernel
theorem dX4_solve_87 : decode cX4_solve 87 = .ok (.getfield 19, 3) := by decide +kernel
theorem dX4_solve_90 : decode cX4_solve 90 = .ok (.iload 6, 2) := by decide +kernel
theorem dX4_solve_92 : decode cX4_solve 92 = .ok (.iaload, 1) := by decide +kernel
theorem dX4_solve_93 : decode cX4_solve 93 = .ok (.iconst 1, 1) := by decide +kernel
theorem dX4_solve_94 : decode cX4_solve 94 = .ok (.iadd, 1) := by decide +kernel
theorem dX4_solve_95 : decode cX4_solve 95 = .ok (.invokestatic 79, 3) := by decide +kernel
theorem dX4_solve_98 : decode cX4_solve 98 = .ok (.istore 4, 2) := by decide +kernel
theorem dX4_solve_100 : decode cX4_solve 100 = .ok (.aload_n 0, 1) := by decide +kernel
theorem dX4_solve_101 : decode cX4_solve 101 = .ok (.getfield 15, 3) := by decide +kernel
theorem dX4_solve_104 : decode cX4_solve 104 = .ok (.iload 6, 2) := by decide +kernel
theorem dX4_solve_106 : decode cX4_solve 106 = .ok (.baload, 1) := by decide +kernel
theorem dX4_solve_107 : decode cX4_solve 107 = .ok (.ifCond .ne 17, 3) := by decide +kernel
theorem dX4_solve_110 : decode cX4_solve 110 = .ok (.iload_n 3, 1) := by decide +kernel
theorem dX4_solve_111 : decode cX4_solve 111 = .ok (.aload_n 0, 1) := by decide +kernel
theorem dX4_solve_112 : decode cX4_solve 112 = .ok (.getfield 19, 3) := by decide +kernel
theorem dX4_solve_115 : decode cX4_solve 115 = .ok (.iload 6, 2) := by decide +kernel
theorem dX4_solve_117 : decode cX4_solve 117 = .ok (.iaload, 1) := by decide +kernel
theorem dX4_solve_118 : decode cX4_solve 118 = .ok (.iconst 1, 1) := by decide +kernel
theorem dX4_solve_119 : decode cX4_solve 119 = .ok (.iadd, 1) := by decide +kernel
theorem dX4_solve_120 : decode cX4_solve 120 = .ok (.invokestatic 85, 3) := by decide +kernel
theorem dX4_solve_123 : decode cX4_solve 123 = .ok (.istore_n 3, 1) := by decide +kernel
theorem dX4_solve_124 : decode cX4_solve 124 = .ok (.iinc 5 1, 3) := by decide +kernel
theorem dX4_solve_127 : decode cX4_solve 127 = .ok (.goto (-86), 3) := by decide +kernel
theorem dX4_solve_130 : decode cX4_solve 130 = .ok (.aload_n 0, 1) := by decide +kernel
theorem dX4_solve_131 : decode cX4_solve 131 = .ok (.getfield 15, 3) := by decide +kernel
theorem dX4_solve_134 : decode cX4_solve 134 = .ok (.iload_n 1, 1) := by decide +kernel
theorem dX4_solve_135 : decode cX4_solve 135 = .ok (.iload_n 3, 1) := by decide +kernel
theorem dX4_solve_136 : decode cX4_solve 136 = .ok (.sipush 1000, 3) := by decide +kernel
theorem dX4_solve_139 : decode cX4_solve 139 = .ok (.if_icmp .eq 7, 3) := by decide +kernel
theorem dX4_solve_142 : decode cX4_solve 142 = .ok (.iconst 1, 1) := by decide +kernel
theorem dX4_solve_143 : decode cX4_solve 143 = .ok (.goto 4, 3) := by decide +kernel
theorem dX4_solve_146 : decode cX4_solve 146 = .ok (.iconst 0, 1) := by decide +kernel
theorem dX4_solve_147 : decode cX4_solve 147 = .ok (.bastore, 1) := by decide +kernel
theorem dX4_solve_148 : decode cX4_solve 148 = .ok (.aload_n 0, 1) := by decide +kernel
theorem dX4_solve_149 : decode cX4_solve 149 = .ok (.getfield 19, 3) := by decide +kernel
theorem dX4_solve_152 : decode cX4_solve 152 = .ok (.iload_n 1, 1) := by decide +kernel
theorem dX4_solve_153 : decode cX4_solve 153 = .ok (.aload_n 0, 1) := by decide +kernel
theorem dX4_solve_154 : decode cX4_solve 154 = .ok (.getfield 15, 3) := by decide +kernel
theorem dX4_solve_157 : decode cX4_solve 157 = .ok (.iload_n 1, 1) := by decide +kernel
theorem dX4_solve_158 : decode cX4_solve 158 = .ok (.baload, 1) := by decide +kernel
theorem dX4_solve_159 : decode cX4_solve 159 = .ok (.ifCond .eq 7, 3) := by decide +kernel
theorem dX4_solve_162 : decode cX4_solve 162 = .ok (.iload_n 3, 1) := by decide +kernel
theorem dX4_solve_163 : decode cX4_solve 163 = .ok (.goto 5, 3) := by decide +kernel
theorem dX4_solve_166 : decode cX4_solve 166 = .ok (.iload 4, 2) := by decide +kernel
theorem dX4_solve_168 : decode cX4_solve 168 = .ok (.iastore, 1) := by decide +kernel
theorem dX4_solve_169 : decode cX4_solve 169 = .ok (.iinc 1 (-1), 3) := by decide +kernel
theorem dX4_solve_172 : decode cX4_solve 172 = .ok (.goto (-165), 3) := by decide +kernel
theorem dX4_solve_175 : decode cX4_solve 175 = .ok (.return_, 1) := by decide +kernel
theorem dX4_findMostMoves_0 : decode cX4_findMostMoves 0 = .ok (.aload_n 0, 1) := by decide +kernel
theorem dX4_findMostMoves_1 : decode cX4_findMostMoves 1 = .ok (.getfield 30, 3) := by decide +kernel
theorem dX4_findMostMoves_4 : decode cX4_findMostMoves 4 = .ok (.iconst 1, 1) := by decide +kernel
theorem dX4_findMostMoves_5 : decode cX4_findMostMoves 5 = .ok (.isub, 1) := by decide +kernel
theorem dX4_findMostMoves_6 : decode cX4_findMostMoves 6 = .ok (.istore_n 1, 1) := by decide +kernel
theorem dX4_findMostMoves_7 : decode cX4_findMostMoves 7 = .ok (.iload_n 1, 1) := by decide +kernel
theorem dX4_findMostMoves_8 : decode cX4_findMostMoves 8 = .ok (.ifCond .lt 98, 3) := by decide +kernel
theorem dX4_findMostMoves_11 : decode cX4_findMostMoves 11 = .ok (.iconst 0, 1) := by decide +kernel
theorem dX4_findMostMoves_12 : decode cX4_findMostMoves 12 = .ok (.istore_n 2, 1) := by decide +kernel
theorem dX4_findMostMoves_13 : decode cX4_findMostMoves 13 = .ok (.aload_n 0, 1) := by decide +kernel
theorem dX4_findMostMoves_14 : decode cX4_findMostMoves 14 = .ok (.getfield 26, 3) := by decide +kernel
theorem dX4_findMostMoves_17 : decode cX4_findMostMoves 17 = .ok (.aload_n 0, 1) := by decide +kernel
theorem dX4_findMostMoves_18 : decode cX4_findMostMoves 18 = .ok (.getfield 9, 3) := by decide +kernel
theorem dX4_findMostMoves_21 : decode cX4_findMostMoves 21 = .ok (.iload_n 1, 1) := by decide +kernel
theorem dX4_findMostMoves_22 : decode cX4_findMostMoves 22 = .ok (.laload, 1) := by decide +kernel
theorem dX4_findMostMoves_23 : decode cX4_findMostMoves 23 = .ok (.aload_n 0, 1) := by decide +kernel
theorem dX4_findMostMoves_24 : decode cX4_findMostMoves 24 = .ok (.getfield 34, 3) := by decide +kernel
theorem dX4_findMostMoves_27 : decode cX4_findMostMoves 27 = .ok (.invokevirtual 48, 3) := by decide +kernel
theorem dX4_findMostMoves_30 : decode cX4_findMostMoves 30 = .ok (.iconst 0, 1) := by decide +kernel
theorem dX4_findMostMoves_31 : decode cX4_findMostMoves 31 = .ok (.istore_n 3, 1) := by decide +kernel
theorem dX4_findMostMoves_32 : decode cX4_findMostMoves 32 = .ok (.iload_n 3, 1) := by decide +kernel
theorem dX4_findMostMoves_33 : decode cX4_findMostMoves 33 = .ok (.aload_n 0, 1) := by decide +kernel
theorem dX4_findMostMoves_34 : decode cX4_findMostMoves 34 = .ok (.getfield 26, 3) := by decide +kernel
theorem dX4_findMostMoves_37 : decode cX4_findMostMoves 37 = .ok (.getfield 54, 3) := by decide +kernel
theorem dX4_findMostMoves_40 : decode cX4_findMostMoves 40 = .ok (.if_icmp .ge 53, 3) := by decide +kernel
theorem dX4_findMostMoves_43 : decode cX4_findMostMoves 43 = .ok (.aload_n 0, 1) := by decide +kernel
theorem dX4_findMostMoves_44 : decode cX4_findMostMoves 44 = .ok (.aload_n 0, 1) := by decide +kernel
theorem dX4_findMostMoves_45 : decode cX4_findMostMoves 45 = .ok (.getfield 26, 3) := by decide +kernel
theorem dX4_findMostMoves_48 : decode cX4_findMostMoves 48 = .ok (.aload_n 0, 1) := by decide +kernel
theorem dX4_findMostMoves_49 : decode cX4_findMostMoves 49 = .ok (.getfield 9, 3) := by decide +kernel
theorem dX4_findMostMoves_52 : decode cX4_findMostMoves 52 = .ok (.iload_n 1, 1) := by decide +kernel
theorem dX4_findMostMoves_53 : decode cX4_findMostMoves 53 = .ok (.laload, 1) := by decide +kernel
theorem dX4_findMostMoves_54 : decode cX4_findMostMoves 54 = .ok (.aload_n 0, 1) := by decide +kernel
theorem dX4_findMostMoves_55 : decode cX4_findMostMoves 55 = .ok (.getfield 34, 3) := by decide +kernel
theorem dX4_findMostMoves_58 : decode cX4_findMostMoves 58 = .ok (.iload_n 3, 1) := by decide +kernel
theorem dX4_findMostMoves_59 : decode cX4_findMostMoves 59 = .ok (.invokevirtual 55, 3) := by decide +kernel
theorem dX4_findMostMoves_62 : decode cX4_findMostMoves 62 = .ok (.invokevirtual 76, 3) := by decide +kernel
theorem dX4_findMostMoves_65 : decode cX4_findMostMoves 65 = .ok (.istore 4, 2) := by decide +kernel
theorem dX4_findMostMoves_67 : decode cX4_findMostMoves 67 = .ok (.iload 4, 2) := by decide +kernel
theorem dX4_findMostMoves_69 : decode cX4_findMostMoves 69 = .ok (.iconst (-1), 1) := by decide +kernel
theorem dX4_findMostMoves_70 : decode cX4_findMostMoves 70 = .ok (.if_icmp .eq 17, 3) := by decide +kernel
theorem dX4_findMostMoves_73 : decode cX4_findMostMoves 73 = .ok (.iload_n 2, 1) := by decide +kernel
theorem dX4_findMostMoves_74 : decode cX4_findMostMoves 74 = .ok (.aload_n 0, 1) := by decide +kernel
theorem dX4_findMostMoves_75 : decode cX4_findMostMoves 75 = .ok (.getfield 19, 3) := by decide +kernel
theorem dX4_findMostMoves_78 : decode cX4_findMostMoves 78 = .ok (.iload 4, 2) := by decide +kernel
theorem dX4_findMostMoves_80 : decode cX4_findMostMoves 80 = .ok (.iaload, 1) := by decide +kernel
theorem dX4_findMostMoves_81 : decode cX4_findMostMoves 81 = .ok (.iconst 1, 1) := by decide +kernel
theorem dX4_findMostMoves_82 : decode cX4_findMostMoves 82 = .ok (.iadd, 1) := by decide +kernel
theorem dX4_findMostMoves_83 : decode cX4_findMostMoves 83 = .ok (.invokestatic 79, 3) := by decide +kernel
theorem dX4_findMostMoves_86 : decode cX4_findMostMoves 86 = .ok (.istore_n 2, 1) := by decide +kernel
theorem dX4_findMostMoves_87 : decode cX4_findMostMoves 87 = .ok (.iinc 3 1, 3) := by decide +kernel
theorem dX4_findMostMoves_90 : decode cX4_findMostMoves 90 = .ok (.goto (-58), 3) := by decide +kernel
theorem dX4_findMostMoves_93 : decode cX4_findMostMoves 93 = .ok (.aload_n 0, 1) := by decide +kernel
theorem dX4_findMostMoves_94 : decode cX4_findMostMoves 94 = .ok (.getfield 19, 3) := by decide +kernel
theorem dX4_findMostMoves_97 : decode cX4_findMostMoves 97 = .ok (.iload_n 1, 1) := by decide +kernel
theorem dX4_findMostMoves_98 : decode cX4_findMostMoves 98 = .ok (.iload_n 2, 1) := by decide +kernel
theorem dX4_findMostMoves_99 : decode cX4_findMostMoves 99 = .ok (.iastore, 1) := by decide +kernel
theorem dX4_findMostMoves_100 : decode cX4_findMostMoves 100 = .ok (.iinc 1 (-1), 3) := by decide +kernel
theorem dX4_findMostMoves_103 : decode cX4_findMostMoves 103 = .ok (.goto (-96), 3) := by decide +kernel
theorem dX4_findMostMoves_106 : decode cX4_findMostMoves 106 = .ok (.aload_n 0, 1) := by decide +kernel
theorem dX4_findMostMoves_107 : decode cX4_findMostMoves 107 = .ok (.getfield 19, 3) := by decide +kernel
theorem dX4_findMostMoves_110 : decode cX4_findMostMoves 110 = .ok (.iconst 0, 1) := by decide +kernel
theorem dX4_findMostMoves_111 : decode cX4_findMostMoves 111 = .ok (.iaload, 1) := by decide +kernel
theorem dX4_findMostMoves_112 : decode cX4_findMostMoves 112 = .ok (.ireturn, 1) := by decide +kernel
theorem dX4_contentsOf_0 : decode cX4_contentsOf 0 = .ok (.aload_n 0, 1) := by decide +kernel
theorem dX4_contentsOf_1 : decode cX4_contentsOf 1 = .ok (.getfield 9, 3) := by decide +kernel
theorem dX4_contentsOf_4 : decode cX4_contentsOf 4 = .ok (.iload_n 1, 1) := by decide +kernel
theorem dX4_contentsOf_5 : decode cX4_contentsOf 5 = .ok (.laload, 1) := by decide +kernel
theorem dX4_contentsOf_6 : decode cX4_contentsOf 6 = .ok (.lreturn, 1) := by decide +kernel
theorem dX4_isWon_0 : decode cX4_isWon 0 = .ok (.aload_n 0, 1) := by decide +kernel
theorem dX4_isWon_1 : decode cX4_isWon 1 = .ok (.getfield 15, 3) := by decide +kernel
theorem dX4_isWon_4 : decode cX4_isWon 4 = .ok (.iload_n 1, 1) := by decide +kernel
theorem dX4_isWon_5 : decode cX4_isWon 5 = .ok (.baload, 1) := by decide +kernel
theorem dX4_isWon_6 : decode cX4_isWon 6 = .ok (.ireturn, 1) := by decide +kernel
theorem dX4_restOf_0 : decode cX4_restOf 0 = .ok (.aload_n 0, 1) := by decide +kernel
theorem dX4_restOf_1 : decode cX4_restOf 1 = .ok (.getfield 19, 3) := by decide +kernel
theorem dX4_restOf_4 : decode cX4_restOf 4 = .ok (.iload_n 1, 1) := by decide +kernel
theorem dX4_restOf_5 : decode cX4_restOf 5 = .ok (.iaload, 1) := by decide +kernel
theorem dX4_restOf_6 : decode cX4_restOf 6 = .ok (.ireturn, 1) := by decide +kernel
theorem dX5_init_0 : decode cX5_init 0 = .ok (.aload_n 0, 1) := by decide +kernel
theorem dX5_init_1 : decode cX5_init 1 = .ok (.invokespecial 3, 3) := by decide +kernel
theorem dX5_init_4 : decode cX5_init 4 = .ok (.aload_n 0, 1) := by decide +kernel
theorem dX5_init_5 : decode cX5_init 5 = .ok (.bipush 15, 2) := by decide +kernel
theorem dX5_init_7 : decode cX5_init 7 = .ok (.newarray .int, 2) := by decide +kernel
theorem dX5_init_9 : decode cX5_init 9 = .ok (.putfield 9, 3) := by decide +kernel
theorem dX5_init_12 : decode cX5_init 12 = .ok (.return_, 1) := by decide +kernel
theorem dX5_has_0 : decode cX5_has 0 = .ok (.iload_n 1, 1) := by decide +kernel
theorem dX5_has_1 : decode cX5_has 1 = .ok (.ifCond .lt 15, 3) := by decide +kernel
theorem dX5_has_4 : decode cX5_has 4 = .ok (.iload_n 1, 1) := by decide +kernel
theorem dX5_has_5 : decode cX5_has 5 = .ok (.aload_n 0, 1) := by decide +kernel
theorem dX5_has_6 : decode cX5_has 6 = .ok (.getfield 15, 3) := by decide +kernel
theorem dX5_has_9 : decode cX5_has 9 = .ok (.if_icmp .ge 7, 3) := by decide +kernel
theorem dX5_has_12 : decode cX5_has 12 = .ok (.iconst 1, 1) := by decide +kernel
theorem dX5_has_13 : decode cX5_has 13 = .ok (.goto 4, 3) := by decide +kernel
theorem dX5_has_16 : decode cX5_has 16 = .ok (.iconst 0, 1) := by decide +kernel
theorem dX5_has_17 : decode cX5_has 17 = .ok (.ireturn, 1) := by decide +kernel
theorem dX5_divide_0 : decode cX5_divide 0 = .ok (.aload_n 0, 1) := by decide +kernel
theorem dX5_divide_1 : decode cX5_divide 1 = .ok (.iconst 0, 1) := by decide +kernel
theorem dX5_divide_2 : decode cX5_divide 2 = .ok (.putfield 15, 3) := by decide +kernel
theorem dX5_divide_5 : decode cX5_divide 5 = .ok (.iload_n 2, 1) := by decide +kernel
theorem dX5_divide_6 : decode cX5_divide 6 = .ok (.istore_n 3, 1) := by decide +kernel
theorem dX5_divide_7 : decode cX5_divide 7 = .ok (.iconst 0, 1) := by decide +kernel
theorem dX5_divide_8 : decode cX5_divide 8 = .ok (.istore 4, 2) := by decide +kernel
theorem dX5_divide_10 : decode cX5_divide 10 = .ok (.iload 4, 2) := by decide +kernel
theorem dX5_divide_12 : decode cX5_divide 12 = .ok (.aload_n 1, 1) := by decide +kernel
theorem dX5_divide_13 : decode cX5_divide 13 = .ok (.getfield 19, 3) := by decide +kernel
theorem dX5_divide_16 : decode cX5_divide 16 = .ok (.if_icmp .ge 67, 3) := by decide +kernel
theorem dX5_divide_19 : decode cX5_divide 19 = .ok (.aload_n 0, 1) := by decide +kernel
theorem dX5_divide_20 : decode cX5_divide 20 = .ok (.getfield 15, 3) := by decide +kernel
theorem dX5_divide_23 : decode cX5_divide 23 = .ok (.bipush 15, 2) := by decide +kernel
theorem dX5_divide_25 : decode cX5_divide 25 = .ok (.if_icmp .ge 58, 3) := by decide +kernel
theorem dX5_divide_28 : decode cX5_divide 28 = .ok (.iload_n 3, 1) := by decide +kernel
theorem dX5_divide_29 : decode cX5_divide 29 = .ok (.iload 4, 2) := by decide +kernel
theorem dX5_divide_31 : decode cX5_divide 31 = .ok (.ishr, 1) := by decide +kernel
theorem dX5_divide_32 : decode cX5_divide 32 = .ok (.iconst 1, 1) := by decide +kernel
theorem dX5_divide_33 : decode cX5_divide 33 = .ok (.iand, 1) := by decide +kernel
theorem dX5_divide_34 : decode cX5_divide 34 = .ok (.ifCond .eq 43, 3) := by decide +kernel
theorem dX5_divide_37 : decode cX5_divide 37 = .ok (.aload_n 0, 1) := by decide +kernel
theorem dX5_divide_38 : decode cX5_divide 38 = .ok (.getfield 9, 3) := by decide +kernel
theorem dX5_divide_41 : decode cX5_divide 41 = .ok (.aload_n 0, 1) := by decide +kernel
theorem dX5_divide_42 : decode cX5_divide 42 = .ok (.getfield 15, 3) := by decide +kernel
theorem dX5_divide_45 : decode cX5_divide 45 = .ok (.aload_n 1, 1) := by decide +kernel
theorem dX5_divide_46 : decode cX5_divide 46 = .ok (.iload 4, 2) := by decide +kernel
theorem dX5_divide_48 : decode cX5_divide 48 = .ok (.iload_n 2, 1) := by decide +kernel
theorem dX5_divide_49 : decode cX5_divide 49 = .ok (.invokestatic 24, 3) := by decide +kernel
theorem dX5_divide_52 : decode cX5_divide 52 = .ok (.iastore, 1) := by decide +kernel
theorem dX5_divide_53 : decode cX5_divide 53 = .ok (.iload_n 3, 1) := by decide +kernel
theorem dX5_divide_54 : decode cX5_divide 54 = .ok (.aload_n 0, 1) := by decide +kernel
theorem dX5_divide_55 : decode cX5_divide 55 = .ok (.getfield 9, 3) := by decide +kernel
theorem dX5_divide_58 : decode cX5_divide 58 = .ok (.aload_n 0, 1) := by decide +kernel
theorem dX5_divide_59 : decode cX5_divide 59 = .ok (.getfield 15, 3) := by decide +kernel
theorem dX5_divide_62 : decode cX5_divide 62 = .ok (.iaload, 1) := by decide +kernel
theorem dX5_divide_63 : decode cX5_divide 63 = .ok (.iconst (-1), 1) := by decide +kernel
theorem dX5_divide_64 : decode cX5_divide 64 = .ok (.ixor, 1) := by decide +kernel
theorem dX5_divide_65 : decode cX5_divide 65 = .ok (.iand, 1) := by decide +kernel
theorem dX5_divide_66 : decode cX5_divide 66 = .ok (.istore_n 3, 1) := by decide +kernel
theorem dX5_divide_67 : decode cX5_divide 67 = .ok (.aload_n 0, 1) := by decide +kernel
theorem dX5_divide_68 : decode cX5_divide 68 = .ok (.dup, 1) := by decide +kernel
theorem dX5_divide_69 : decode cX5_divide 69 = .ok (.getfield 15, 3) := by decide +kernel
theorem dX5_divide_72 : decode cX5_divide 72 = .ok (.iconst 1, 1) := by decide +kernel
theorem dX5_divide_73 : decode cX5_divide 73 = .ok (.iadd, 1) := by decide +kernel
theorem dX5_divide_74 : decode cX5_divide 74 = .ok (.putfield 15, 3) := by decide +kernel
theorem dX5_divide_77 : decode cX5_divide 77 = .ok (.iinc 4 1, 3) := by decide +kernel
theorem dX5_divide_80 : decode cX5_divide 80 = .ok (.goto (-70), 3) := by decide +kernel
theorem dX5_divide_83 : decode cX5_divide 83 = .ok (.return_, 1) := by decide +kernel
theorem dX5_spread_0 : decode cX5_spread 0 = .ok (.iconst 1, 1) := by decide +kernel
theorem dX5_spread_1 : decode cX5_spread 1 = .ok (.iload_n 1, 1) := by decide +kernel
theorem dX5_spread_2 : decode cX5_spread 2 = .ok (.ishl, 1) := by decide +kernel
theorem dX5_spread_3 : decode cX5_spread 3 = .ok (.istore_n 3, 1) := by decide +kernel
theorem dX5_spread_4 : decode cX5_spread 4 = .ok (.iconst 0, 1) := by decide +kernel
theorem dX5_spread_5 : decode cX5_spread 5 = .ok (.istore 4, 2) := by decide +kernel
theorem dX5_spread_7 : decode cX5_spread 7 = .ok (.iload 4, 2) := by decide +kernel
theorem dX5_spread_9 : decode cX5_spread 9 = .ok (.bipush 15, 2) := by decide +kernel
theorem dX5_spread_11 : decode cX5_spread 11 = .ok (.if_icmp .ge 59, 3) := by decide +kernel
theorem dX5_spread_14 : decode cX5_spread 14 = .ok (.iload_n 3, 1) := by decide +kernel
theorem dX5_spread_15 : decode cX5_spread 15 = .ok (.istore 5, 2) := by decide +kernel
theorem dX5_spread_17 : decode cX5_spread 17 = .ok (.iconst 0, 1) := by decide +kernel
theorem dX5_spread_18 : decode cX5_spread 18 = .ok (.istore 6, 2) := by decide +kernel
theorem dX5_spread_20 : decode cX5_spread 20 = .ok (.iload 6, 2) := by decide +kernel
theorem dX5_spread_22 : decode cX5_spread 22 = .ok (.aload_n 0, 1) := by decide +kernel
theorem dX5_spread_23 : decode cX5_spread 23 = .ok (.getfield 19, 3) := by decide +kernel
theorem dX5_spread_26 : decode cX5_spread 26 = .ok (.if_icmp .ge 29, 3) := by decide +kernel
theorem dX5_spread_29 : decode cX5_spread 29 = .ok (.iload_n 3, 1) := by decide +kernel
theorem dX5_spread_30 : decode cX5_spread 30 = .ok (.iload 6, 2) := by decide +kernel
theorem dX5_spread_32 : decode cX5_spread 32 = .ok (.ishr, 1) := by decide +kernel
theorem dX5_spread_33 : decode cX5_spread 33 = .ok (.iconst 1, 1) := by decide +kernel
theorem dX5_spread_34 : decode cX5_spread 34 = .ok (.iand, 1) := by decide +kernel
theorem dX5_spread_35 : decode cX5_spread 35 = .ok (.ifCond .eq 14, 3) := by decide +kernel
theorem dX5_spread_38 : decode cX5_spread 38 = .ok (.iload_n 3, 1) := by decide +kernel
theorem dX5_spread_39 : decode cX5_spread 39 = .ok (.aload_n 0, 1) := by decide +kernel
theorem dX5_spread_40 : decode cX5_spread 40 = .ok (.iload 6, 2) := by decide +kernel
theorem dX5_spread_42 : decode cX5_spread 42 = .ok (.invokevirtual 28, 3) := by decide +kernel
theorem dX5_spread_45 : decode cX5_spread 45 = .ok (.iload_n 2, 1) := by decide +kernel
theorem dX5_spread_46 : decode cX5_spread 46 = .ok (.iand, 1) := by decide +kernel
theorem dX5_spread_47 : decode cX5_spread 47 = .ok (.ior, 1) := by decide +kernel
theorem dX5_spread_48 : decode cX5_spread 48 = .ok (.istore_n 3, 1) := by decide +kernel
theorem dX5_spread_49 : decode cX5_spread 49 = .ok (.iinc 6 1, 3) := by decide +kernel
theorem dX5_spread_52 : decode cX5_spread 52 = .ok (.goto (-32), 3) := by decide +kernel
theorem dX5_spread_55 : decode cX5_spread 55 = .ok (.iload_n 3, 1) := by decide +kernel
theorem dX5_spread_56 : decode cX5_spread 56 = .ok (.iload 5, 2) := by decide +kernel
theorem dX5_spread_58 : decode cX5_spread 58 = .ok (.if_icmp .ne 6, 3) := by decide +kernel
theorem dX5_spread_61 : decode cX5_spread 61 = .ok (.goto 9, 3) := by decide +kernel
theorem dX5_spread_64 : decode cX5_spread 64 = .ok (.iinc 4 1, 3) := by decide +kernel
theorem dX5_spread_67 : decode cX5_spread 67 = .ok (.goto (-60), 3) := by decide +kernel
theorem dX5_spread_70 : decode cX5_spread 70 = .ok (.iload_n 3, 1) := by decide +kernel
theorem dX5_spread_71 : decode cX5_spread 71 = .ok (.ireturn, 1) := by decide +kernel
theorem dX6_init_0 : decode cX6_init 0 = .ok (.aload_n 0, 1) := by decide +kernel
theorem dX6_init_1 : decode cX6_init 1 = .ok (.invokespecial 3, 3) := by decide +kernel
theorem dX6_init_4 : decode cX6_init 4 = .ok (.aload_n 0, 1) := by decide +kernel
theorem dX6_init_5 : decode cX6_init 5 = .ok (.bipush 60, 2) := by decide +kernel
theorem dX6_init_7 : decode cX6_init 7 = .ok (.newarray .char, 2) := by decide +kernel
theorem dX6_init_9 : decode cX6_init 9 = .ok (.putfield 9, 3) := by decide +kernel
theorem dX6_init_12 : decode cX6_init 12 = .ok (.aload_n 0, 1) := by decide +kernel
theorem dX6_init_13 : decode cX6_init 13 = .ok (.iconst 4, 1) := by decide +kernel
theorem dX6_init_14 : decode cX6_init 14 = .ok (.newarray .int, 2) := by decide +kernel
theorem dX6_init_16 : decode cX6_init 16 = .ok (.putfield 15, 3) := by decide +kernel
theorem dX6_init_19 : decode cX6_init 19 = .ok (.return_, 1) := by decide +kernel
theorem dX6_append_0 : decode cX6_append 0 = .ok (.aload_n 0, 1) := by decide +kernel
theorem dX6_append_1 : decode cX6_append 1 = .ok (.getfield 19, 3) := by decide +kernel
theorem dX6_append_4 : decode cX6_append 4 = .ok (.bipush 60, 2) := by decide +kernel
theorem dX6_append_6 : decode cX6_append 6 = .ok (.if_icmp .lt 5, 3) := by decide +kernel
theorem dX6_append_9 : decode cX6_append 9 = .ok (.iconst 0, 1) := by decide +kernel
theorem dX6_append_10 : decode cX6_append 10 = .ok (.ireturn, 1) := by decide +kernel
theorem dX6_append_11 : decode cX6_append 11 = .ok (.aload_n 0, 1) := by decide +kernel
theorem dX6_append_12 : decode cX6_append 12 = .ok (.getfield 9, 3) := by decide +kernel
theorem dX6_append_15 : decode cX6_append 15 = .ok (.aload_n 0, 1) := by decide +kernel
theorem dX6_append_16 : decode cX6_append 16 = .ok (.getfield 19, 3) := by decide +kernel
theorem dX6_append_19 : decode cX6_append 19 = .ok (.iload_n 1, 1) := by decide +kernel
theorem dX6_append_20 : decode cX6_append 20 = .ok (.castore, 1) := by decide +kernel
theorem dX6_append_21 : decode cX6_append 21 = .ok (.aload_n 0, 1) := by decide +kernel
theorem dX6_append_22 : decode cX6_append 22 = .ok (.dup, 1) := by decide +kernel
theorem dX6_append_23 : decode cX6_append 23 = .ok (.getfield 19, 3) := by decide +kernel
theorem dX6_append_26 : decode cX6_append 26 = .ok (.iconst 1, 1) := by decide +kernel
theorem dX6_append_27 : decode cX6_append 27 = .ok (.iadd, 1) := by decide +kernel
theorem dX6_append_28 : decode cX6_append 28 = .ok (.putfield 19, 3) := by decide +kernel
theorem dX6_append_31 : decode cX6_append 31 = .ok (.iconst 1, 1) := by decide +kernel
theorem dX6_append_32 : decode cX6_append 32 = .ok (.ireturn, 1) := by decide +kernel
theorem dX6_findFault_0 : decode cX6_findFault 0 = .ok (.iconst 0, 1) := by decide +kernel
theorem dX6_findFault_1 : decode cX6_findFault 1 = .ok (.istore_n 1, 1) := by decide +kernel
theorem dX6_findFault_2 : decode cX6_findFault 2 = .ok (.iconst 0, 1) := by decide +kernel
theorem dX6_findFault_3 : decode cX6_findFault 3 = .ok (.istore_n 2, 1) := by decide +kernel
theorem dX6_findFault_4 : decode cX6_findFault 4 = .ok (.iload_n 2, 1) := by decide +kernel
theorem dX6_findFault_5 : decode cX6_findFault 5 = .ok (.bipush 60, 2) := by decide +kernel
theorem dX6_findFault_7 : decode cX6_findFault 7 = .ok (.if_icmp .ge 32, 3) := by decide +kernel
theorem dX6_findFault_10 : decode cX6_findFault 10 = .ok (.iload_n 1, 1) := by decide +kernel
theorem dX6_findFault_11 : decode cX6_findFault 11 = .ok (.aload_n 0, 1) := by decide +kernel
theorem dX6_findFault_12 : decode cX6_findFault 12 = .ok (.getfield 19, 3) := by decide +kernel
theorem dX6_findFault_15 : decode cX6_findFault 15 = .ok (.if_icmp .ge 24, 3) := by decide +kernel
theorem dX6_findFault_18 : decode cX6_findFault 18 = .ok (.aload_n 0, 1) := by decide +kernel
theorem dX6_findFault_19 : decode cX6_findFault 19 = .ok (.iload_n 1, 1) := by decide +kernel
theorem dX6_findFault_20 : decode cX6_findFault 20 = .ok (.invokevirtual 23, 3) := by decide +kernel
theorem dX6_findFault_23 : decode cX6_findFault 23 = .ok (.istore_n 3, 1) := by decide +kernel
theorem dX6_findFault_24 : decode cX6_findFault 24 = .ok (.iload_n 3, 1) := by decide +kernel
theorem dX6_findFault_25 : decode cX6_findFault 25 = .ok (.iconst (-1), 1) := by decide +kernel
theorem dX6_findFault_26 : decode cX6_findFault 26 = .ok (.if_icmp .ne 5, 3) := by decide +kernel
theorem dX6_findFault_29 : decode cX6_findFault 29 = .ok (.iload_n 1, 1) := by decide +kernel
theorem dX6_findFault_30 : decode cX6_findFault 30 = .ok (.ireturn, 1) := by decide +kernel
theorem dX6_findFault_31 : decode cX6_findFault 31 = .ok (.iload_n 3, 1) := by decide +kernel
theorem dX6_findFault_32 : decode cX6_findFault 32 = .ok (.istore_n 1, 1) := by decide +kernel
theorem dX6_findFault_33 : decode cX6_findFault 33 = .ok (.iinc 2 1, 3) := by decide +kernel
theorem dX6_findFault_36 : decode cX6_findFault 36 = .ok (.goto (-32), 3) := by decide +kernel
theorem dX6_findFault_39 : decode cX6_findFault 39 = .ok (.iconst (-1), 1) := by decide +kernel
theorem dX6_findFault_40 : decode cX6_findFault 40 = .ok (.ireturn, 1) := by decide +kernel
theorem dX6_readCommand_0 : decode cX6_readCommand 0 = .ok (.aload_n 0, 1) := by decide +kernel
theorem dX6_readCommand_1 : decode cX6_readCommand 1 = .ok (.aload_n 0, 1) := by decide +kernel
theorem dX6_readCommand_2 : decode cX6_readCommand 2 = .ok (.iload_n 1, 1) := by decide +kernel
theorem dX6_readCommand_3 : decode cX6_readCommand 3 = .ok (.invokevirtual 27, 3) := by decide +kernel
theorem dX6_readCommand_6 : decode cX6_readCommand 6 = .ok (.putfield 30, 3) := by decide +kernel
theorem dX6_readCommand_9 : decode cX6_readCommand 9 = .ok (.aload_n 0, 1) := by decide +kernel
theorem dX6_readCommand_10 : decode cX6_readCommand 10 = .ok (.getfield 30, 3) := by decide +kernel
theorem dX6_readCommand_13 : decode cX6_readCommand 13 = .ok (.iconst (-1), 1) := by decide +kernel
theorem dX6_readCommand_14 : decode cX6_readCommand 14 = .ok (.if_icmp .ne 5, 3) := by decide +kernel
theorem dX6_readCommand_17 : decode cX6_readCommand 17 = .ok (.iconst (-1), 1) := by decide +kernel
theorem dX6_readCommand_18 : decode cX6_readCommand 18 = .ok (.ireturn, 1) := by decide +kernel
theorem dX6_readCommand_19 : decode cX6_readCommand 19 = .ok (.iload_n 1, 1) := by decide +kernel
theorem dX6_readCommand_20 : decode cX6_readCommand 20 = .ok (.aload_n 0, 1) := by decide +kernel
theorem dX6_readCommand_21 : decode cX6_readCommand 21 = .ok (.getfield 30, 3) := by decide +kernel
theorem dX6_readCommand_24 : decode cX6_readCommand 24 = .ok (.invokestatic 33, 3) := by decide +kernel
theorem dX6_readCommand_27 : decode cX6_readCommand 27 = .ok (.invokevirtual 37, 3) := by decide +kernel
theorem dX6_readCommand_30 : decode cX6_readCommand 30 = .ok (.iadd, 1) := by decide +kernel
theorem dX6_readCommand_31 : decode cX6_readCommand 31 = .ok (.istore_n 2, 1) := by decide +kernel
theorem dX6_readCommand_32 : decode cX6_readCommand 32 = .ok (.iconst 0, 1) := by decide +kernel
theorem dX6_readCommand_33 : decode cX6_readCommand 33 = .ok (.istore_n 3, 1) := by decide +kernel
theorem dX6_readCommand_34 : decode cX6_readCommand 34 = .ok (.iload_n 3, 1) := by decide +kernel
theorem dX6_readCommand_35 : decode cX6_readCommand 35 = .ok (.aload_n 0, 1) := by decide +kernel
theorem dX6_readCommand_36 : decode cX6_readCommand 36 = .ok (.getfield 30, 3) := by decide +kernel
theorem dX6_readCommand_39 : decode cX6_readCommand 39 = .ok (.invokestatic 43, 3) := by decide +kernel
theorem dX6_readCommand_42 : decode cX6_readCommand 42 = .ok (.if_icmp .ge 23, 3) := by decide +kernel
theorem dX6_readCommand_45 : decode cX6_readCommand 45 = .ok (.aload_n 0, 1) := by decide +kernel
theorem dX6_readCommand_46 : decode cX6_readCommand 46 = .ok (.iload_n 2, 1) := by decide +kernel
theorem dX6_readCommand_47 : decode cX6_readCommand 47 = .ok (.iload_n 3, 1) := by decide +kernel
theorem dX6_readCommand_48 : decode cX6_readCommand 48 = .ok (.invokevirtual 46, 3) := by decide +kernel
theorem dX6_readCommand_51 : decode cX6_readCommand 51 = .ok (.istore_n 2, 1) := by decide +kernel
theorem dX6_readCommand_52 : decode cX6_readCommand 52 = .ok (.iload_n 2, 1) := by decide +kernel
theorem dX6_readCommand_53 : decode cX6_readCommand 53 = .ok (.iconst (-1), 1) := by decide +kernel
theorem dX6_readCommand_54 : decode cX6_readCommand 54 = .ok (.if_icmp .ne 5, 3) := by decide +kernel
theorem dX6_readCommand_57 : decode cX6_readCommand 57 = .ok (.iconst (-1), 1) := by decide +kernel
theorem dX6_readCommand_58 : decode cX6_readCommand 58 = .ok (.ireturn, 1) := by decide +kernel
theorem dX6_readCommand_59 : decode cX6_readCommand 59 = .ok (.iinc 3 1, 3) := by decide +kernel
theorem dX6_readCommand_62 : decode cX6_readCommand 62 = .ok (.goto (-28), 3) := by decide +kernel
theorem dX6_readCommand_65 : decode cX6_readCommand 65 = .ok (.aload_n 0, 1) := by decide +kernel
theorem dX6_readCommand_66 : decode cX6_readCommand 66 = .ok (.iload_n 2, 1) := by decide +kernel
theorem dX6_readCommand_67 : decode cX6_readCommand 67 = .ok (.bipush 59, 2) := by decide +kernel
theorem dX6_readCommand_69 : decode cX6_readCommand 69 = .ok (.invokevirtual 50, 3) := by decide +kernel
theorem dX6_readCommand_72 : decode cX6_readCommand 72 = .ok (.ifCond .eq 9, 3) := by decide +kernel
theorem dX6_readCommand_75 : decode cX6_readCommand 75 = .ok (.iload_n 2, 1) := by decide +kernel
theorem dX6_readCommand_76 : decode cX6_readCommand 76 = .ok (.iconst 1, 1) := by decide +kernel
theorem dX6_readCommand_77 : decode cX6_readCommand 77 = .ok (.iadd, 1) := by decide +kernel
theorem dX6_readCommand_78 : decode cX6_readCommand 78 = .ok (.goto 4, 3) := by decide +kernel
theorem dX6_readCommand_81 : decode cX6_readCommand 81 = .ok (.iconst (-1), 1) := by decide +kernel
theorem dX6_readCommand_82 : decode cX6_readCommand 82 = .ok (.ireturn, 1) := by decide +kernel
theorem dX6_findWord_0 : decode cX6_findWord 0 = .ok (.iconst 0, 1) := by decide +kernel
theorem dX6_findWord_1 : decode cX6_findWord 1 = .ok (.istore_n 2, 1) := by decide +kernel
theorem dX6_findWord_2 : decode cX6_findWord 2 = .ok (.iload_n 2, 1) := by decide +kernel
theorem dX6_findWord_3 : decode cX6_findWord 3 = .ok (.bipush 6, 2) := by decide +kernel
theorem dX6_findWord_5 : decode cX6_findWord 5 = .ok (.if_icmp .ge 23, 3) := by decide +kernel
theorem dX6_findWord_8 : decode cX6_findWord 8 = .ok (.aload_n 0, 1) := by decide +kernel
theorem dX6_findWord_9 : decode cX6_findWord 9 = .ok (.iload_n 1, 1) := by decide +kernel
theorem dX6_findWord_10 : decode cX6_findWord 10 = .ok (.iload_n 2, 1) := by decide +kernel
theorem dX6_findWord_11 : decode cX6_findWord 11 = .ok (.invokestatic 33, 3) := by decide +kernel
theorem dX6_findWord_14 : decode cX6_findWord 14 = .ok (.invokevirtual 54, 3) := by decide +kernel
theorem dX6_findWord_17 : decode cX6_findWord 17 = .ok (.ifCond .eq 5, 3) := by decide +kernel
theorem dX6_findWord_20 : decode cX6_findWord 20 = .ok (.iload_n 2, 1) := by decide +kernel
theorem dX6_findWord_21 : decode cX6_findWord 21 = .ok (.ireturn, 1) := by decide +kernel
theorem dX6_findWord_22 : decode cX6_findWord 22 = .ok (.iinc 2 1, 3) := by decide +kernel
theorem dX6_findWord_25 : decode cX6_findWord 25 = .ok (.goto (-23), 3) := by decide +kernel
theorem dX6_findWord_28 : decode cX6_findWord 28 = .ok (.iconst (-1), 1) := by decide +kernel
theorem dX6_findWord_29 : decode cX6_findWord 29 = .ok (.ireturn, 1) := by decide +kernel
theorem dX6_hasText_0 : decode cX6_hasText 0 = .ok (.iconst 0, 1) := by decide +kernel
theorem dX6_hasText_1 : decode cX6_hasText 1 = .ok (.istore_n 3, 1) := by decide +kernel
theorem dX6_hasText_2 : decode cX6_hasText 2 = .ok (.iload_n 3, 1) := by decide +kernel
theorem dX6_hasText_3 : decode cX6_hasText 3 = .ok (.aload_n 2, 1) := by decide +kernel
theorem dX6_hasText_4 : decode cX6_hasText 4 = .ok (.invokevirtual 37, 3) := by decide +kernel
theorem dX6_hasText_7 : decode cX6_hasText 7 = .ok (.if_icmp .ge 26, 3) := by decide +kernel
theorem dX6_hasText_10 : decode cX6_hasText 10 = .ok (.aload_n 0, 1) := by decide +kernel
theorem dX6_hasText_11 : decode cX6_hasText 11 = .ok (.iload_n 1, 1) := by decide +kernel
theorem dX6_hasText_12 : decode cX6_hasText 12 = .ok (.iload_n 3, 1) := by decide +kernel
theorem dX6_hasText_13 : decode cX6_hasText 13 = .ok (.iadd, 1) := by decide +kernel
theorem dX6_hasText_14 : decode cX6_hasText 14 = .ok (.aload_n 2, 1) := by decide +kernel
theorem dX6_hasText_15 : decode cX6_hasText 15 = .ok (.iload_n 3, 1) := by decide +kernel
theorem dX6_hasText_16 : decode cX6_hasText 16 = .ok (.invokevirtual 58, 3) := by decide +kernel
theorem dX6_hasText_19 : decode cX6_hasText 19 = .ok (.invokevirtual 50, 3) := by decide +kernel
theorem dX6_hasText_22 : decode cX6_hasText 22 = .ok (.ifCond .ne 5, 3) := by decide +kernel
theorem dX6_hasText_25 : decode cX6_hasText 25 = .ok (.iconst 0, 1) := by decide +kernel
theorem dX6_hasText_26 : decode cX6_hasText 26 = .ok (.ireturn, 1) := by decide +kernel
theorem dX6_hasText_27 : decode cX6_hasText 27 = .ok (.iinc 3 1, 3) := by decide +kernel
theorem dX6_hasText_30 : decode cX6_hasText 30 = .ok (.goto (-28), 3) := by decide +kernel
theorem dX6_hasText_33 : decode cX6_hasText 33 = .ok (.iconst 1, 1) := by decide +kernel
theorem dX6_hasText_34 : decode cX6_hasText 34 = .ok (.ireturn, 1) := by decide +kernel
theorem dX6_hasSign_0 : decode cX6_hasSign 0 = .ok (.iload_n 1, 1) := by decide +kernel
theorem dX6_hasSign_1 : decode cX6_hasSign 1 = .ok (.ifCond .lt 25, 3) := by decide +kernel
theorem dX6_hasSign_4 : decode cX6_hasSign 4 = .ok (.iload_n 1, 1) := by decide +kernel
theorem dX6_hasSign_5 : decode cX6_hasSign 5 = .ok (.aload_n 0, 1) := by decide +kernel
theorem dX6_hasSign_6 : decode cX6_hasSign 6 = .ok (.getfield 19, 3) := by decide +kernel
theorem dX6_hasSign_9 : decode cX6_hasSign 9 = .ok (.if_icmp .ge 17, 3) := by decide +kernel
theorem dX6_hasSign_12 : decode cX6_hasSign 12 = .ok (.aload_n 0, 1) := by decide +kernel
theorem dX6_hasSign_13 : decode cX6_hasSign 13 = .ok (.getfield 9, 3) := by decide +kernel
theorem dX6_hasSign_16 : decode cX6_hasSign 16 = .ok (.iload_n 1, 1) := by decide +kernel
theorem dX6_hasSign_17 : decode cX6_hasSign 17 = .ok (.caload, 1) := by decide +kernel
theorem dX6_hasSign_18 : decode cX6_hasSign 18 = .ok (.iload_n 2, 1) := by decide +kernel
theorem dX6_hasSign_19 : decode cX6_hasSign 19 = .ok (.if_icmp .ne 7, 3) := by decide +kernel
theorem dX6_hasSign_22 : decode cX6_hasSign 22 = .ok (.iconst 1, 1) := by decide +kernel
theorem dX6_hasSign_23 : decode cX6_hasSign 23 = .ok (.goto 4, 3) := by decide +kernel
theorem dX6_hasSign_26 : decode cX6_hasSign 26 = .ok (.iconst 0, 1) := by decide +kernel
theorem dX6_hasSign_27 : decode cX6_hasSign 27 = .ok (.ireturn, 1) := by decide +kernel
theorem dX6_readNumber_0 : decode cX6_readNumber 0 = .ok (.aload_n 0, 1) := by decide +kernel
theorem dX6_readNumber_1 : decode cX6_readNumber 1 = .ok (.iload_n 1, 1) := by decide +kernel
theorem dX6_readNumber_2 : decode cX6_readNumber 2 = .ok (.bipush 32, 2) := by decide +kernel
theorem dX6_readNumber_4 : decode cX6_readNumber 4 = .ok (.invokevirtual 50, 3) := by decide +kernel
theorem dX6_readNumber_7 : decode cX6_readNumber 7 = .ok (.ifCond .eq 13, 3) := by decide +kernel
theorem dX6_readNumber_10 : decode cX6_readNumber 10 = .ok (.aload_n 0, 1) := by decide +kernel
theorem dX6_readNumber_11 : decode cX6_readNumber 11 = .ok (.iload_n 1, 1) := by decide +kernel
theorem dX6_readNumber_12 : decode cX6_readNumber 12 = .ok (.iconst 1, 1) := by decide +kernel
theorem dX6_readNumber_13 : decode cX6_readNumber 13 = .ok (.iadd, 1) := by decide +kernel
theorem dX6_readNumber_14 : decode cX6_readNumber 14 = .ok (.invokevirtual 62, 3) := by decide +kernel
theorem dX6_readNumber_17 : decode cX6_readNumber 17 = .ok (.ifCond .ne 5, 3) := by decide +kernel
theorem dX6_readNumber_20 : decode cX6_readNumber 20 = .ok (.iconst (-1), 1) := by decide +kernel
theorem dX6_readNumber_21 : decode cX6_readNumber 21 = .ok (.ireturn, 1) := by decide +kernel
theorem dX6_readNumber_22 : decode cX6_readNumber 22 = .ok (.aload_n 0, 1) := by decide +kernel
theorem dX6_readNumber_23 : decode cX6_readNumber 23 = .ok (.getfield 9, 3) := by decide +kernel
theorem dX6_readNumber_26 : decode cX6_readNumber 26 = .ok (.iload_n 1, 1) := by decide +kernel
theorem dX6_readNumber_27 : decode cX6_readNumber 27 = .ok (.iconst 1, 1) := by decide +kernel
theorem dX6_readNumber_28 : decode cX6_readNumber 28 = .ok (.iadd, 1) := by decide +kernel
theorem dX6_readNumber_29 : decode cX6_readNumber 29 = .ok (.caload, 1) := by decide +kernel
theorem dX6_readNumber_30 : decode cX6_readNumber 30 = .ok (.bipush 48, 2) := by decide +kernel
theorem dX6_readNumber_32 : decode cX6_readNumber 32 = .ok (.isub, 1) := by decide +kernel
theorem dX6_readNumber_33 : decode cX6_readNumber 33 = .ok (.istore_n 3, 1) := by decide +kernel
theorem dX6_readNumber_34 : decode cX6_readNumber 34 = .ok (.iload_n 1, 1) := by decide +kernel
theorem dX6_readNumber_35 : decode cX6_readNumber 35 = .ok (.iconst 2, 1) := by decide +kernel
theorem dX6_readNumber_36 : decode cX6_readNumber 36 = .ok (.iadd, 1) := by decide +kernel
theorem dX6_readNumber_37 : decode cX6_readNumber 37 = .ok (.istore 4, 2) := by decide +kernel
theorem dX6_readNumber_39 : decode cX6_readNumber 39 = .ok (.aload_n 0, 1) := by decide +kernel
theorem dX6_readNumber_40 : decode cX6_readNumber 40 = .ok (.iload 4, 2) := by decide +kernel
theorem dX6_readNumber_42 : decode cX6_readNumber 42 = .ok (.invokevirtual 62, 3) := by decide +kernel
theorem dX6_readNumber_45 : decode cX6_readNumber 45 = .ok (.ifCond .eq 22, 3) := by decide +kernel
theorem dX6_readNumber_48 : decode cX6_readNumber 48 = .ok (.bipush 10, 2) := by decide +kernel
theorem dX6_readNumber_50 : decode cX6_readNumber 50 = .ok (.iload_n 3, 1) := by decide +kernel
theorem dX6_readNumber_51 : decode cX6_readNumber 51 = .ok (.imul, 1) := by decide +kernel
theorem dX6_readNumber_52 : decode cX6_readNumber 52 = .ok (.aload_n 0, 1) := by decide +kernel
theorem dX6_readNumber_53 : decode cX6_readNumber 53 = .ok (.getfield 9, 3) := by decide +kernel
theorem dX6_readNumber_56 : decode cX6_readNumber 56 = .ok (.iload 4, 2) := by decide +kernel
theorem dX6_readNumber_58 : decode cX6_readNumber 58 = .ok (.caload, 1) := by decide +kernel
theorem dX6_readNumber_59 : decode cX6_readNumber 59 = .ok (.iadd, 1) := by decide +kernel
theorem dX6_readNumber_60 : decode cX6_readNumber 60 = .ok (.bipush 48, 2) := by decide +kernel
theorem dX6_readNumber_62 : decode cX6_readNumber 62 = .ok (.isub, 1) := by decide +kernel
theorem dX6_readNumber_63 : decode cX6_readNumber 63 = .ok (.istore_n 3, 1) := by decide +kernel
theorem dX6_readNumber_64 : decode cX6_readNumber 64 = .ok (.iinc 4 1, 3) := by decide +kernel
theorem dX6_readNumber_67 : decode cX6_readNumber 67 = .ok (.aload_n 0, 1) := by decide +kernel
theorem dX6_readNumber_68 : decode cX6_readNumber 68 = .ok (.getfield 15, 3) := by decide +kernel
theorem dX6_readNumber_71 : decode cX6_readNumber 71 = .ok (.iload_n 2, 1) := by decide +kernel
theorem dX6_readNumber_72 : decode cX6_readNumber 72 = .ok (.iload_n 3, 1) := by decide +kernel
theorem dX6_readNumber_73 : decode cX6_readNumber 73 = .ok (.iastore, 1) := by decide +kernel
theorem dX6_readNumber_74 : decode cX6_readNumber 74 = .ok (.iload 4, 2) := by decide +kernel
theorem dX6_readNumber_76 : decode cX6_readNumber 76 = .ok (.ireturn, 1) := by decide +kernel
theorem dX6_hasDigit_0 : decode cX6_hasDigit 0 = .ok (.iload_n 1, 1) := by decide +kernel
theorem dX6_hasDigit_1 : decode cX6_hasDigit 1 = .ok (.ifCond .lt 37, 3) := by decide +kernel
theorem dX6_hasDigit_4 : decode cX6_hasDigit 4 = .ok (.iload_n 1, 1) := by decide +kernel
theorem dX6_hasDigit_5 : decode cX6_hasDigit 5 = .ok (.aload_n 0, 1) := by decide +kernel
theorem dX6_hasDigit_6 : decode cX6_hasDigit 6 = .ok (.getfield 19, 3) := by decide +kernel
theorem dX6_hasDigit_9 : decode cX6_hasDigit 9 = .ok (.if_icmp .ge 29, 3) := by decide +kernel
theorem dX6_hasDigit_12 : decode cX6_hasDigit 12 = .ok (.aload_n 0, 1) := by decide +kernel
theorem dX6_hasDigit_13 : decode cX6_hasDigit 13 = .ok (.getfield 9, 3) := by decide +kernel
theorem dX6_hasDigit_16 : decode cX6_hasDigit 16 = .ok (.iload_n 1, 1) := by decide +kernel
theorem dX6_hasDigit_17 : decode cX6_hasDigit 17 = .ok (.caload, 1) := by decide +kernel
theorem dX6_hasDigit_18 : decode cX6_hasDigit 18 = .ok (.bipush 48, 2) := by decide +kernel
theorem dX6_hasDigit_20 : decode cX6_hasDigit 20 = .ok (.if_icmp .lt 18, 3) := by decide +kernel
theorem dX6_hasDigit_23 : decode cX6_hasDigit 23 = .ok (.aload_n 0, 1) := by decide +kernel
theorem dX6_hasDigit_24 : decode cX6_hasDigit 24 = .ok (.getfield 9, 3) := by decide +kernel
theorem dX6_hasDigit_27 : decode cX6_hasDigit 27 = .ok (.iload_n 1, 1) := by decide +kernel
theorem dX6_hasDigit_28 : decode cX6_hasDigit 28 = .ok (.caload, 1) := by decide +kernel
theorem dX6_hasDigit_29 : decode cX6_hasDigit 29 = .ok (.bipush 57, 2) := by decide +kernel
theorem dX6_hasDigit_31 : decode cX6_hasDigit 31 = .ok (.if_icmp .gt 7, 3) := by decide +kernel
theorem dX6_hasDigit_34 : decode cX6_hasDigit 34 = .ok (.iconst 1, 1) := by decide +kernel
theorem dX6_hasDigit_35 : decode cX6_hasDigit 35 = .ok (.goto 4, 3) := by decide +kernel
theorem dX6_hasDigit_38 : decode cX6_hasDigit 38 = .ok (.iconst 0, 1) := by decide +kernel
theorem dX6_hasDigit_39 : decode cX6_hasDigit 39 = .ok (.ireturn, 1) := by decide +kernel
theorem dX6_textOf_0 : decode cX6_textOf 0 = .ok (.iload_n 0, 1) := by decide +kernel
theorem dX6_textOf_1 : decode cX6_textOf 1 = .ok (.tableswitch 50 0 4 #[35, 38, 41, 44, 47], 35) := by decide +kernel
theorem dX6_textOf_36 : decode cX6_textOf 36 = .ok (.ldc 66, 2) := by decide +kernel
theorem dX6_textOf_38 : decode cX6_textOf 38 = .ok (.areturn, 1) := by decide +kernel
theorem dX6_textOf_39 : decode cX6_textOf 39 = .ok (.ldc 68, 2) := by decide +kernel
theorem dX6_textOf_41 : decode cX6_textOf 41 = .ok (.areturn, 1) := by decide +kernel
theorem dX6_textOf_42 : decode cX6_textOf 42 = .ok (.ldc 70, 2) := by decide +kernel
theorem dX6_textOf_44 : decode cX6_textOf 44 = .ok (.areturn, 1) := by decide +kernel
theorem dX6_textOf_45 : decode cX6_textOf 45 = .ok (.ldc 72, 2) := by decide +kernel
theorem dX6_textOf_47 : decode cX6_textOf 47 = .ok (.areturn, 1) := by decide +kernel
theorem dX6_textOf_48 : decode cX6_textOf 48 = .ok (.ldc 74, 2) := by decide +kernel
theorem dX6_textOf_50 : decode cX6_textOf 50 = .ok (.areturn, 1) := by decide +kernel
theorem dX6_textOf_51 : decode cX6_textOf 51 = .ok (.ldc 76, 2) := by decide +kernel
theorem dX6_textOf_53 : decode cX6_textOf 53 = .ok (.areturn, 1) := by decide +kernel
theorem dX6_numbersOf_0 : decode cX6_numbersOf 0 = .ok (.iload_n 0, 1) := by decide +kernel
theorem dX6_numbersOf_1 : decode cX6_numbersOf 1 = .ok (.iconst 4, 1) := by decide +kernel
theorem dX6_numbersOf_2 : decode cX6_numbersOf 2 = .ok (.if_icmp .ne 5, 3) := by decide +kernel
theorem dX6_numbersOf_5 : decode cX6_numbersOf 5 = .ok (.iconst 4, 1) := by decide +kernel
theorem dX6_numbersOf_6 : decode cX6_numbersOf 6 = .ok (.ireturn, 1) := by decide +kernel
theorem dX6_numbersOf_7 : decode cX6_numbersOf 7 = .ok (.iload_n 0, 1) := by decide +kernel
theorem dX6_numbersOf_8 : decode cX6_numbersOf 8 = .ok (.iconst 5, 1) := by decide +kernel
theorem dX6_numbersOf_9 : decode cX6_numbersOf 9 = .ok (.if_icmp .ne 7, 3) := by decide +kernel
theorem dX6_numbersOf_12 : decode cX6_numbersOf 12 = .ok (.iconst 0, 1) := by decide +kernel
theorem dX6_numbersOf_13 : decode cX6_numbersOf 13 = .ok (.goto 4, 3) := by decide +kernel
theorem dX6_numbersOf_16 : decode cX6_numbersOf 16 = .ok (.iconst 1, 1) := by decide +kernel
theorem dX6_numbersOf_17 : decode cX6_numbersOf 17 = .ok (.ireturn, 1) := by decide +kernel
theorem dX7_init_0 : decode cX7_init 0 = .ok (.aload_n 0, 1) := by decide +kernel
theorem dX7_init_1 : decode cX7_init 1 = .ok (.invokespecial 3, 3) := by decide +kernel
theorem dX7_init_4 : decode cX7_init 4 = .ok (.aload_n 0, 1) := by decide +kernel
theorem dX7_init_5 : decode cX7_init 5 = .ok (.bipush 40, 2) := by decide +kernel
theorem dX7_init_7 : decode cX7_init 7 = .ok (.newarray .long, 2) := by decide +kernel
theorem dX7_init_9 : decode cX7_init 9 = .ok (.putfield 9, 3) := by decide +kernel
theorem dX7_init_12 : decode cX7_init 12 = .ok (.aload_n 0, 1) := by decide +kernel
theorem dX7_init_13 : decode cX7_init 13 = .ok (.bipush 40, 2) := by decide +kernel
theorem dX7_init_15 : decode cX7_init 15 = .ok (.newarray .int, 2) := by decide +kernel
theorem dX7_init_17 : decode cX7_init 17 = .ok (.putfield 15, 3) := by decide +kernel
theorem dX7_init_20 : decode cX7_init 20 = .ok (.return_, 1) := by decide +kernel
theorem dX7_empty_0 : decode cX7_empty 0 = .ok (.aload_n 0, 1) := by decide +kernel
theorem dX7_empty_1 : decode cX7_empty 1 = .ok (.iconst 0, 1) := by decide +kernel
theorem dX7_empty_2 : decode cX7_empty 2 = .ok (.putfield 19, 3) := by decide +kernel
theorem dX7_empty_5 : decode cX7_empty 5 = .ok (.return_, 1) := by decide +kernel
theorem dX7_find_0 : decode cX7_find 0 = .ok (.iconst 0, 1) := by decide +kernel
theorem dX7_find_1 : decode cX7_find 1 = .ok (.istore_n 3, 1) := by decide +kernel
theorem dX7_find_2 : decode cX7_find 2 = .ok (.iload_n 3, 1) := by decide +kernel
theorem dX7_find_3 : decode cX7_find 3 = .ok (.aload_n 0, 1) := by decide +kernel
theorem dX7_find_4 : decode cX7_find 4 = .ok (.getfield 19, 3) := by decide +kernel
theorem dX7_find_7 : decode cX7_find 7 = .ok (.if_icmp .ge 22, 3) := by decide +kernel
theorem dX7_find_10 : decode cX7_find 10 = .ok (.aload_n 0, 1) := by decide +kernel
theorem dX7_find_11 : decode cX7_find 11 = .ok (.getfield 9, 3) := by decide +kernel
theorem dX7_find_14 : decode cX7_find 14 = .ok (.iload_n 3, 1) := by decide +kernel
theorem dX7_find_15 : decode cX7_find 15 = .ok (.laload, 1) := by decide +kernel
theorem dX7_find_16 : decode cX7_find 16 = .ok (.lload_n 1, 1) := by decide +kernel
theorem dX7_find_17 : decode cX7_find 17 = .ok (.lcmp, 1) := by decide +kernel
theorem dX7_find_18 : decode cX7_find 18 = .ok (.ifCond .ne 5, 3) := by decide +kernel
theorem dX7_find_21 : decode cX7_find 21 = .ok (.iload_n 3, 1) := by decide +kernel
theorem dX7_find_22 : decode cX7_find 22 = .ok (.ireturn, 1) := by decide +kernel
theorem dX7_find_23 : decode cX7_find 23 = .ok (.iinc 3 1, 3) := by decide +kernel
theorem dX7_find_26 : decode cX7_find 26 = .ok (.goto (-24), 3) := by decide +kernel
theorem dX7_find_29 : decode cX7_find 29 = .ok (.iconst (-1), 1) := by decide +kernel
theorem dX7_find_30 : decode cX7_find 30 = .ok (.ireturn, 1) := by decide +kernel
theorem dX7_put_0 : decode cX7_put 0 = .ok (.aload_n 0, 1) := by decide +kernel
theorem dX7_put_1 : decode cX7_put 1 = .ok (.getfield 19, 3) := by decide +kernel
theorem dX7_put_4 : decode cX7_put 4 = .ok (.bipush 40, 2) := by decide +kernel
theorem dX7_put_6 : decode cX7_put 6 = .ok (.if_icmp .lt 7, 3) := by decide +kernel
theorem dX7_put_9 : decode cX7_put 9 = .ok (.aload_n 0, 1) := by decide +kernel
theorem dX7_put_10 : decode cX7_put 10 = .ok (.invokevirtual 23, 3) := by decide +kernel
theorem dX7_put_13 : decode cX7_put 13 = .ok (.aload_n 0, 1) := by decide +kernel
theorem dX7_put_14 : decode cX7_put 14 = .ok (.getfield 9, 3) := by decide +kernel
theorem dX7_put_17 : decode cX7_put 17 = .ok (.aload_n 0, 1) := by decide +kernel
theorem dX7_put_18 : decode cX7_put 18 = .ok (.getfield 19, 3) := by decide +kernel
theorem dX7_put_21 : decode cX7_put 21 = .ok (.lload_n 1, 1) := by decide +kernel
theorem dX7_put_22 : decode cX7_put 22 = .ok (.lastore, 1) := by decide +kernel
theorem dX7_put_23 : decode cX7_put 23 = .ok (.aload_n 0, 1) := by decide +kernel
theorem dX7_put_24 : decode cX7_put 24 = .ok (.getfield 15, 3) := by decide +kernel
theorem dX7_put_27 : decode cX7_put 27 = .ok (.aload_n 0, 1) := by decide +kernel
theorem dX7_put_28 : decode cX7_put 28 = .ok (.getfield 19, 3) := by decide +kernel
theorem dX7_put_31 : decode cX7_put 31 = .ok (.iload_n 3, 1) := by decide +kernel
theorem dX7_put_32 : decode cX7_put 32 = .ok (.iastore, 1) := by decide +kernel
theorem dX7_put_33 : decode cX7_put 33 = .ok (.aload_n 0, 1) := by decide +kernel
theorem dX7_put_34 : decode cX7_put 34 = .ok (.dup, 1) := by decide +kernel
theorem dX7_put_35 : decode cX7_put 35 = .ok (.getfield 19, 3) := by decide +kernel
theorem dX7_put_38 : decode cX7_put 38 = .ok (.iconst 1, 1) := by decide +kernel
theorem dX7_put_39 : decode cX7_put 39 = .ok (.iadd, 1) := by decide +kernel
theorem dX7_put_40 : decode cX7_put 40 = .ok (.putfield 19, 3) := by decide +kernel
theorem dX7_put_43 : decode cX7_put 43 = .ok (.return_, 1) := by decide +kernel
theorem dX8_init_0 : decode cX8_init 0 = .ok (.aload_n 0, 1) := by decide +kernel
theorem dX8_init_1 : decode cX8_init 1 = .ok (.invokespecial 3, 3) := by decide +kernel
theorem dX8_init_4 : decode cX8_init 4 = .ok (.aload_n 0, 1) := by decide +kernel
theorem dX8_init_5 : decode cX8_init 5 = .ok (.new 9, 3) := by decide +kernel
theorem dX8_init_8 : decode cX8_init 8 = .ok (.dup, 1) := by decide +kernel
theorem dX8_init_9 : decode cX8_init 9 = .ok (.invokespecial 11, 3) := by decide +kernel
theorem dX8_init_12 : decode cX8_init 12 = .ok (.putfield 12, 3) := by decide +kernel
theorem dX8_init_15 : decode cX8_init 15 = .ok (.aload_n 0, 1) := by decide +kernel
theorem dX8_init_16 : decode cX8_init 16 = .ok (.new 16, 3) := by decide +kernel
theorem dX8_init_19 : decode cX8_init 19 = .ok (.dup, 1) := by decide +kernel
theorem dX8_init_20 : decode cX8_init 20 = .ok (.aload_n 0, 1) := by decide +kernel
theorem dX8_init_21 : decode cX8_init 21 = .ok (.getfield 12, 3) := by decide +kernel
theorem dX8_init_24 : decode cX8_init 24 = .ok (.invokespecial 18, 3) := by decide +kernel
theorem dX8_init_27 : decode cX8_init 27 = .ok (.putfield 21, 3) := by decide +kernel
theorem dX8_init_30 : decode cX8_init 30 = .ok (.aload_n 0, 1) := by decide +kernel
theorem dX8_init_31 : decode cX8_init 31 = .ok (.new 25, 3) := by decide +kernel
theorem dX8_init_34 : decode cX8_init 34 = .ok (.dup, 1) := by decide +kernel
theorem dX8_init_35 : decode cX8_init 35 = .ok (.aload_n 0, 1) := by decide +kernel
theorem dX8_init_36 : decode cX8_init 36 = .ok (.getfield 21, 3) := by decide +kernel
theorem dX8_init_39 : decode cX8_init 39 = .ok (.invokespecial 27, 3) := by decide +kernel
theorem dX8_init_42 : decode cX8_init 42 = .ok (.putfield 30, 3) := by decide +kernel
theorem dX8_init_45 : decode cX8_init 45 = .ok (.aload_n 0, 1) := by decide +kernel
theorem dX8_init_46 : decode cX8_init 46 = .ok (.new 25, 3) := by decide +kernel
theorem dX8_init_49 : decode cX8_init 49 = .ok (.dup, 1) := by decide +kernel
theorem dX8_init_50 : decode cX8_init 50 = .ok (.aload_n 0, 1) := by decide +kernel
theorem dX8_init_51 : decode cX8_init 51 = .ok (.getfield 21, 3) := by decide +kernel
theorem dX8_init_54 : decode cX8_init 54 = .ok (.invokespecial 27, 3) := by decide +kernel
theorem dX8_init_57 : decode cX8_init 57 = .ok (.putfield 34, 3) := by decide +kernel
theorem dX8_init_60 : decode cX8_init 60 = .ok (.aload_n 0, 1) := by decide +kernel
theorem dX8_init_61 : decode cX8_init 61 = .ok (.new 37, 3) := by decide +kernel
theorem dX8_init_64 : decode cX8_init 64 = .ok (.dup, 1) := by decide +kernel
theorem dX8_init_65 : decode cX8_init 65 = .ok (.invokespecial 39, 3) := by decide +kernel
theorem dX8_init_68 : decode cX8_init 68 = .ok (.putfield 40, 3) := by decide +kernel
theorem dX8_init_71 : decode cX8_init 71 = .ok (.aload_n 0, 1) := by decide +kernel
theorem dX8_init_72 : decode cX8_init 72 = .ok (.new 44, 3) := by decide +kernel
theorem dX8_init_75 : decode cX8_init 75 = .ok (.dup, 1) := by decide +kernel
theorem dX8_init_76 : decode cX8_init 76 = .ok (.invokespecial 46, 3) := by decide +kernel
theorem dX8_init_79 : decode cX8_init 79 = .ok (.putfield 47, 3) := by decide +kernel
theorem dX8_init_82 : decode cX8_init 82 = .ok (.aload_n 0, 1) := by decide +kernel
theorem dX8_init_83 : decode cX8_init 83 = .ok (.new 51, 3) := by decide +kernel
theorem dX8_init_86 : decode cX8_init 86 = .ok (.dup, 1) := by decide +kernel
theorem dX8_init_87 : decode cX8_init 87 = .ok (.invokespecial 53, 3) := by decide +kernel
theorem dX8_init_90 : decode cX8_init 90 = .ok (.putfield 54, 3) := by decide +kernel
theorem dX8_init_93 : decode cX8_init 93 = .ok (.aload_n 0, 1) := by decide +kernel
theorem dX8_init_94 : decode cX8_init 94 = .ok (.new 58, 3) := by decide +kernel
theorem dX8_init_97 : decode cX8_init 97 = .ok (.dup, 1) := by decide +kernel
theorem dX8_init_98 : decode cX8_init 98 = .ok (.invokespecial 60, 3) := by decide +kernel
theorem dX8_init_101 : decode cX8_init 101 = .ok (.putfield 61, 3) := by decide +kernel
theorem dX8_init_104 : decode cX8_init 104 = .ok (.aload_n 0, 1) := by decide +kernel
theorem dX8_init_105 : decode cX8_init 105 = .ok (.getfield 12, 3) := by decide +kernel
theorem dX8_init_108 : decode cX8_init 108 = .ok (.iconst 3, 1) := by decide +kernel
theorem dX8_init_109 : decode cX8_init 109 = .ok (.iconst 3, 1) := by decide +kernel
theorem dX8_init_110 : decode cX8_init 110 = .ok (.invokevirtual 65, 3) := by decide +kernel
theorem dX8_init_113 : decode cX8_init 113 = .ok (.aload_n 0, 1) := by decide +kernel
theorem dX8_init_114 : decode cX8_init 114 = .ok (.lconst 0, 1) := by decide +kernel
theorem dX8_init_115 : decode cX8_init 115 = .ok (.putfield 69, 3) := by decide +kernel
theorem dX8_init_118 : decode cX8_init 118 = .ok (.return_, 1) := by decide +kernel
theorem dX8_reset_0 : decode cX8_reset 0 = .ok (.iload_n 1, 1) := by decide +kernel
theorem dX8_reset_1 : decode cX8_reset 1 = .ok (.iload_n 2, 1) := by decide +kernel
theorem dX8_reset_2 : decode cX8_reset 2 = .ok (.invokestatic 73, 3) := by decide +kernel
theorem dX8_reset_5 : decode cX8_reset 5 = .ok (.ifCond .ne 7, 3) := by decide +kernel
theorem dX8_reset_8 : decode cX8_reset 8 = .ok (.sipush (-1001), 3) := by decide +kernel
theorem dX8_reset_11 : decode cX8_reset 11 = .ok (.ireturn, 1) := by decide +kernel
theorem dX8_reset_12 : decode cX8_reset 12 = .ok (.bipush 10, 2) := by decide +kernel
theorem dX8_reset_14 : decode cX8_reset 14 = .ok (.aload_n 0, 1) := by decide +kernel
theorem dX8_reset_15 : decode cX8_reset 15 = .ok (.getfield 12, 3) := by decide +kernel
theorem dX8_reset_18 : decode cX8_reset 18 = .ok (.getfield 77, 3) := by decide +kernel
theorem dX8_reset_21 : decode cX8_reset 21 = .ok (.imul, 1) := by decide +kernel
theorem dX8_reset_22 : decode cX8_reset 22 = .ok (.aload_n 0, 1) := by decide +kernel
theorem dX8_reset_23 : decode cX8_reset 23 = .ok (.getfield 12, 3) := by decide +kernel
theorem dX8_reset_26 : decode cX8_reset 26 = .ok (.getfield 81, 3) := by decide +kernel
theorem dX8_reset_29 : decode cX8_reset 29 = .ok (.iadd, 1) := by decide +kernel
theorem dX8_reset_30 : decode cX8_reset 30 = .ok (.istore_n 3, 1) := by decide +kernel
theorem dX8_reset_31 : decode cX8_reset 31 = .ok (.aload_n 0, 1) := by decide +kernel
theorem dX8_reset_32 : decode cX8_reset 32 = .ok (.getfield 54, 3) := by decide +kernel
theorem dX8_reset_35 : decode cX8_reset 35 = .ok (.aload_n 0, 1) := by decide +kernel
theorem dX8_reset_36 : decode cX8_reset 36 = .ok (.getfield 12, 3) := by decide +kernel
theorem dX8_reset_39 : decode cX8_reset 39 = .ok (.aload_n 0, 1) := by decide +kernel
theorem dX8_reset_40 : decode cX8_reset 40 = .ok (.getfield 69, 3) := by decide +kernel
theorem dX8_reset_43 : decode cX8_reset 43 = .ok (.invokevirtual 84, 3) := by decide +kernel
theorem dX8_reset_46 : decode cX8_reset 46 = .ok (.aload_n 0, 1) := by decide +kernel
theorem dX8_reset_47 : decode cX8_reset 47 = .ok (.getfield 12, 3) := by decide +kernel
theorem dX8_reset_50 : decode cX8_reset 50 = .ok (.iload_n 1, 1) := by decide +kernel
theorem dX8_reset_51 : decode cX8_reset 51 = .ok (.iload_n 2, 1) := by decide +kernel
theorem dX8_reset_52 : decode cX8_reset 52 = .ok (.invokevirtual 65, 3) := by decide +kernel
theorem dX8_reset_55 : decode cX8_reset 55 = .ok (.aload_n 0, 1) := by decide +kernel
theorem dX8_reset_56 : decode cX8_reset 56 = .ok (.lconst 0, 1) := by decide +kernel
theorem dX8_reset_57 : decode cX8_reset 57 = .ok (.putfield 69, 3) := by decide +kernel
theorem dX8_reset_60 : decode cX8_reset 60 = .ok (.aload_n 0, 1) := by decide +kernel
theorem dX8_reset_61 : decode cX8_reset 61 = .ok (.getfield 47, 3) := by decide +kernel
theorem dX8_reset_64 : decode cX8_reset 64 = .ok (.invokevirtual 88, 3) := by decide +kernel
theorem dX8_reset_67 : decode cX8_reset 67 = .ok (.iload_n 3, 1) := by decide +kernel
theorem dX8_reset_68 : decode cX8_reset 68 = .ok (.ireturn, 1) := by decide +kernel
theorem dX8_setField_0 : decode cX8_setField 0 = .ok (.aload_n 0, 1) := by decide +kernel
theorem dX8_setField_1 : decode cX8_setField 1 = .ok (.getfield 69, 3) := by decide +kernel
theorem dX8_setField_4 : decode cX8_setField 4 = .ok (.lstore_n 3, 1) := by decide +kernel
theorem dX8_setField_5 : decode cX8_setField 5 = .ok (.aload_n 0, 1) := by decide +kernel
theorem dX8_setField_6 : decode cX8_setField 6 = .ok (.iload_n 1, 1) := by decide +kernel
theorem dX8_setField_7 : decode cX8_setField 7 = .ok (.iload_n 2, 1) := by decide +kernel
theorem dX8_setField_8 : decode cX8_setField 8 = .ok (.invokevirtual 91, 3) := by decide +kernel
theorem dX8_setField_11 : decode cX8_setField 11 = .ok (.istore 5, 2) := by decide +kernel
theorem dX8_setField_13 : decode cX8_setField 13 = .ok (.iload 5, 2) := by decide +kernel
theorem dX8_setField_15 : decode cX8_setField 15 = .ok (.ifCond .lt 15, 3) := by decide +kernel
theorem dX8_setField_18 : decode cX8_setField 18 = .ok (.aload_n 0, 1) := by decide +kernel
theorem dX8_setField_19 : decode cX8_setField 19 = .ok (.getfield 54, 3) := by decide +kernel
theorem dX8_setField_22 : decode cX8_setField 22 = .ok (.aload_n 0, 1) := by decide +kernel
theorem dX8_setField_23 : decode cX8_setField 23 = .ok (.getfield 12, 3) := by decide +kernel
theorem dX8_setField_26 : decode cX8_setField 26 = .ok (.lload_n 3, 1) := by decide +kernel
theorem dX8_setField_27 : decode cX8_setField 27 = .ok (.invokevirtual 84, 3) := by decide +kernel
theorem dX8_setField_30 : decode cX8_setField 30 = .ok (.iload 5, 2) := by decide +kernel
theorem dX8_setField_32 : decode cX8_setField 32 = .ok (.ireturn, 1) := by decide +kernel
theorem dX8_field_0 : decode cX8_field 0 = .ok (.aload_n 0, 1) := by decide +kernel
theorem dX8_field_1 : decode cX8_field 1 = .ok (.getfield 12, 3) := by decide +kernel
theorem dX8_field_4 : decode cX8_field 4 = .ok (.iload_n 1, 1) := by decide +kernel
theorem dX8_field_5 : decode cX8_field 5 = .ok (.invokevirtual 95, 3) := by decide +kernel
theorem dX8_field_8 : decode cX8_field 8 = .ok (.ifCond .ne 7, 3) := by decide +kernel
theorem dX8_field_11 : decode cX8_field 11 = .ok (.sipush (-1001), 3) := by decide +kernel
theorem dX8_field_14 : decode cX8_field 14 = .ok (.ireturn, 1) := by decide +kernel
theorem dX8_field_15 : decode cX8_field 15 = .ok (.aload_n 0, 1) := by decide +kernel
theorem dX8_field_16 : decode cX8_field 16 = .ok (.getfield 69, 3) := by decide +kernel
theorem dX8_field_19 : decode cX8_field 19 = .ok (.iload_n 1, 1) := by decide +kernel
theorem dX8_field_20 : decode cX8_field 20 = .ok (.invokestatic 99, 3) := by decide +kernel
theorem dX8_field_23 : decode cX8_field 23 = .ok (.ireturn, 1) := by decide +kernel
theorem dX8_count_0 : decode cX8_count 0 = .ok (.iload_n 1, 1) := by decide +kernel
theorem dX8_count_1 : decode cX8_count 1 = .ok (.invokestatic 105, 3) := by decide +kernel
theorem dX8_count_4 : decode cX8_count 4 = .ok (.ifCond .ne 7, 3) := by decide +kernel
theorem dX8_count_7 : decode cX8_count 7 = .ok (.sipush (-1001), 3) := by decide +kernel
theorem dX8_count_10 : decode cX8_count 10 = .ok (.ireturn, 1) := by decide +kernel
theorem dX8_count_11 : decode cX8_count 11 = .ok (.aload_n 0, 1) := by decide +kernel
theorem dX8_count_12 : decode cX8_count 12 = .ok (.iload_n 1, 1) := by decide +kernel
theorem dX8_count_13 : decode cX8_count 13 = .ok (.invokevirtual 108, 3) := by decide +kernel
theorem dX8_count_16 : decode cX8_count 16 = .ok (.invokestatic 112, 3) := by decide +kernel
theorem dX8_count_19 : decode cX8_count 19 = .ok (.ireturn, 1) := by decide +kernel
theorem dX8_isSeen_0 : decode cX8_isSeen 0 = .ok (.aload_n 0, 1) := by decide +kernel
theorem dX8_isSeen_1 : decode cX8_isSeen 1 = .ok (.getfield 12, 3) := by decide +kernel
theorem dX8_isSeen_4 : decode cX8_isSeen 4 = .ok (.iload_n 1, 1) := by decide +kernel
theorem dX8_isSeen_5 : decode cX8_isSeen 5 = .ok (.invokevirtual 95, 3) := by decide +kernel
theorem dX8_isSeen_8 : decode cX8_isSeen 8 = .ok (.ifCond .eq 14, 3) := by decide +kernel
theorem dX8_isSeen_11 : decode cX8_isSeen 11 = .ok (.aload_n 0, 1) := by decide +kernel
theorem dX8_isSeen_12 : decode cX8_isSeen 12 = .ok (.getfield 12, 3) := by decide +kernel
theorem dX8_isSeen_15 : decode cX8_isSeen 15 = .ok (.iload_n 2, 1) := by decide +kernel
theorem dX8_isSeen_16 : decode cX8_isSeen 16 = .ok (.invokevirtual 95, 3) := by decide +kernel
theorem dX8_isSeen_19 : decode cX8_isSeen 19 = .ok (.ifCond .ne 7, 3) := by decide +kernel
theorem dX8_isSeen_22 : decode cX8_isSeen 22 = .ok (.sipush (-1001), 3) := by decide +kernel
theorem dX8_isSeen_25 : decode cX8_isSeen 25 = .ok (.ireturn, 1) := by decide +kernel
theorem dX8_isSeen_26 : decode cX8_isSeen 26 = .ok (.aload_n 0, 1) := by decide +kernel
theorem dX8_isSeen_27 : decode cX8_isSeen 27 = .ok (.getfield 12, 3) := by decide +kernel
theorem dX8_isSeen_30 : decode cX8_isSeen 30 = .ok (.iload_n 1, 1) := by decide +kernel
theorem dX8_isSeen_31 : decode cX8_isSeen 31 = .ok (.aload_n 0, 1) := by decide +kernel
theorem dX8_isSeen_32 : decode cX8_isSeen 32 = .ok (.iconst 0, 1) := by decide +kernel
theorem dX8_isSeen_33 : decode cX8_isSeen 33 = .ok (.invokevirtual 108, 3) := by decide +kernel
theorem dX8_isSeen_36 : decode cX8_isSeen 36 = .ok (.invokevirtual 117, 3) := by decide +kernel
theorem dX8_isSeen_39 : decode cX8_isSeen 39 = .ok (.iload_n 2, 1) := by decide +kernel
theorem dX8_isSeen_40 : decode cX8_isSeen 40 = .ok (.ishr, 1) := by decide +kernel
theorem dX8_isSeen_41 : decode cX8_isSeen 41 = .ok (.iconst 1, 1) := by decide +kernel
theorem dX8_isSeen_42 : decode cX8_isSeen 42 = .ok (.iand, 1) := by decide +kernel
theorem dX8_isSeen_43 : decode cX8_isSeen 43 = .ok (.ireturn, 1) := by decide +kernel
theorem dX8_undo_0 : decode cX8_undo 0 = .ok (.aload_n 0, 1) := by decide +kernel
theorem dX8_undo_1 : decode cX8_undo 1 = .ok (.getfield 54, 3) := by decide +kernel
theorem dX8_undo_4 : decode cX8_undo 4 = .ok (.getfield 120, 3) := by decide +kernel
theorem dX8_undo_7 : decode cX8_undo 7 = .ok (.iconst 1, 1) := by decide +kernel
theorem dX8_undo_8 : decode cX8_undo 8 = .ok (.isub, 1) := by decide +kernel
theorem dX8_undo_9 : decode cX8_undo 9 = .ok (.istore_n 1, 1) := by decide +kernel
theorem dX8_undo_10 : decode cX8_undo 10 = .ok (.iload_n 1, 1) := by decide +kernel
theorem dX8_undo_11 : decode cX8_undo 11 = .ok (.ifCond .ge 7, 3) := by decide +kernel
theorem dX8_undo_14 : decode cX8_undo 14 = .ok (.sipush (-1002), 3) := by decide +kernel
theorem dX8_undo_17 : decode cX8_undo 17 = .ok (.ireturn, 1) := by decide +kernel
theorem dX8_undo_18 : decode cX8_undo 18 = .ok (.aload_n 0, 1) := by decide +kernel
theorem dX8_undo_19 : decode cX8_undo 19 = .ok (.getfield 54, 3) := by decide +kernel
theorem dX8_undo_22 : decode cX8_undo 22 = .ok (.getfield 123, 3) := by decide +kernel
theorem dX8_undo_25 : decode cX8_undo 25 = .ok (.iload_n 1, 1) := by decide +kernel
theorem dX8_undo_26 : decode cX8_undo 26 = .ok (.iaload, 1) := by decide +kernel
theorem dX8_undo_27 : decode cX8_undo 27 = .ok (.istore_n 2, 1) := by decide +kernel
theorem dX8_undo_28 : decode cX8_undo 28 = .ok (.aload_n 0, 1) := by decide +kernel
theorem dX8_undo_29 : decode cX8_undo 29 = .ok (.getfield 54, 3) := by decide +kernel
theorem dX8_undo_32 : decode cX8_undo 32 = .ok (.getfield 127, 3) := by decide +kernel
theorem dX8_undo_35 : decode cX8_undo 35 = .ok (.iload_n 1, 1) := by decide +kernel
theorem dX8_undo_36 : decode cX8_undo 36 = .ok (.iaload, 1) := by decide +kernel
theorem dX8_undo_37 : decode cX8_undo 37 = .ok (.istore_n 3, 1) := by decide +kernel
theorem dX8_undo_38 : decode cX8_undo 38 = .ok (.iload_n 2, 1) := by decide +kernel
theorem dX8_undo_39 : decode cX8_undo 39 = .ok (.aload_n 0, 1) := by decide +kernel
theorem dX8_undo_40 : decode cX8_undo 40 = .ok (.getfield 12, 3) := by decide +kernel
theorem dX8_undo_43 : decode cX8_undo 43 = .ok (.getfield 77, 3) := by decide +kernel
theorem dX8_undo_46 : decode cX8_undo 46 = .ok (.if_icmp .ne 14, 3) := by decide +kernel
theorem dX8_undo_49 : decode cX8_undo 49 = .ok (.iload_n 3, 1) := by decide +kernel
theorem dX8_undo_50 : decode cX8_undo 50 = .ok (.aload_n 0, 1) := by decide +kernel
theorem dX8_undo_51 : decode cX8_undo 51 = .ok (.getfield 12, 3) := by decide +kernel
theorem dX8_undo_54 : decode cX8_undo 54 = .ok (.getfield 81, 3) := by decide +kernel
theorem dX8_undo_57 : decode cX8_undo 57 = .ok (.if_icmp .eq 19, 3) := by decide +kernel
theorem dX8_undo_60 : decode cX8_undo 60 = .ok (.aload_n 0, 1) := by decide +kernel
theorem dX8_undo_61 : decode cX8_undo 61 = .ok (.getfield 47, 3) := by decide +kernel
theorem dX8_undo_64 : decode cX8_undo 64 = .ok (.invokevirtual 88, 3) := by decide +kernel
theorem dX8_undo_67 : decode cX8_undo 67 = .ok (.aload_n 0, 1) := by decide +kernel
theorem dX8_undo_68 : decode cX8_undo 68 = .ok (.getfield 12, 3) := by decide +kernel
theorem dX8_undo_71 : decode cX8_undo 71 = .ok (.iload_n 2, 1) := by decide +kernel
theorem dX8_undo_72 : decode cX8_undo 72 = .ok (.iload_n 3, 1) := by decide +kernel
theorem dX8_undo_73 : decode cX8_undo 73 = .ok (.invokevirtual 65, 3) := by decide +kernel
theorem dX8_undo_76 : decode cX8_undo 76 = .ok (.aload_n 0, 1) := by decide +kernel
theorem dX8_undo_77 : decode cX8_undo 77 = .ok (.aload_n 0, 1) := by decide +kernel
theorem dX8_undo_78 : decode cX8_undo 78 = .ok (.getfield 54, 3) := by decide +kernel
theorem dX8_undo_81 : decode cX8_undo 81 = .ok (.getfield 130, 3) := by decide +kernel
theorem dX8_undo_84 : decode cX8_undo 84 = .ok (.iload_n 1, 1) := by decide +kernel
theorem dX8_undo_85 : decode cX8_undo 85 = .ok (.laload, 1) := by decide +kernel
theorem dX8_undo_86 : decode cX8_undo 86 = .ok (.putfield 69, 3) := by decide +kernel
theorem dX8_undo_89 : decode cX8_undo 89 = .ok (.aload_n 0, 1) := by decide +kernel
theorem dX8_undo_90 : decode cX8_undo 90 = .ok (.getfield 54, 3) := by decide +kernel
theorem dX8_undo_93 : decode cX8_undo 93 = .ok (.iload_n 1, 1) := by decide +kernel
theorem dX8_undo_94 : decode cX8_undo 94 = .ok (.putfield 120, 3) := by decide +kernel
theorem dX8_undo_97 : decode cX8_undo 97 = .ok (.iload_n 1, 1) := by decide +kernel
theorem dX8_undo_98 : decode cX8_undo 98 = .ok (.ireturn, 1) := by decide +kernel
theorem dX8_move_0 : decode cX8_move 0 = .ok (.aload_n 0, 1) := by decide +kernel
theorem dX8_move_1 : decode cX8_move 1 = .ok (.getfield 69, 3) := by decide +kernel
theorem dX8_move_4 : decode cX8_move 4 = .ok (.lstore 5, 2) := by decide +kernel
theorem dX8_move_6 : decode cX8_move 6 = .ok (.aload_n 0, 1) := by decide +kernel
theorem dX8_move_7 : decode cX8_move 7 = .ok (.iload_n 1, 1) := by decide +kernel
theorem dX8_move_8 : decode cX8_move 8 = .ok (.iload_n 2, 1) := by decide +kernel
theorem dX8_move_9 : decode cX8_move 9 = .ok (.iload_n 3, 1) := by decide +kernel
theorem dX8_move_10 : decode cX8_move 10 = .ok (.iload 4, 2) := by decide +kernel
theorem dX8_move_12 : decode cX8_move 12 = .ok (.invokevirtual 134, 3) := by decide +kernel
theorem dX8_move_15 : decode cX8_move 15 = .ok (.istore 7, 2) := by decide +kernel
theorem dX8_move_17 : decode cX8_move 17 = .ok (.iload 7, 2) := by decide +kernel
theorem dX8_move_19 : decode cX8_move 19 = .ok (.ifCond .lt 16, 3) := by decide +kernel
theorem dX8_move_22 : decode cX8_move 22 = .ok (.aload_n 0, 1) := by decide +kernel
theorem dX8_move_23 : decode cX8_move 23 = .ok (.getfield 54, 3) := by decide +kernel
theorem dX8_move_26 : decode cX8_move 26 = .ok (.aload_n 0, 1) := by decide +kernel
theorem dX8_move_27 : decode cX8_move 27 = .ok (.getfield 12, 3) := by decide +kernel
theorem dX8_move_30 : decode cX8_move 30 = .ok (.lload 5, 2) := by decide +kernel
theorem dX8_move_32 : decode cX8_move 32 = .ok (.invokevirtual 84, 3) := by decide +kernel
theorem dX8_move_35 : decode cX8_move 35 = .ok (.iload 7, 2) := by decide +kernel
theorem dX8_move_37 : decode cX8_move 37 = .ok (.ireturn, 1) := by decide +kernel
theorem dX8_moves_0 : decode cX8_moves 0 = .ok (.iload_n 1, 1) := by decide +kernel
theorem dX8_moves_1 : decode cX8_moves 1 = .ok (.invokestatic 138, 3) := by decide +kernel
theorem dX8_moves_4 : decode cX8_moves 4 = .ok (.ifCond .ne 7, 3) := by decide +kernel
theorem dX8_moves_7 : decode cX8_moves 7 = .ok (.sipush (-1001), 3) := by decide +kernel
theorem dX8_moves_10 : decode cX8_moves 10 = .ok (.ireturn, 1) := by decide +kernel
theorem dX8_moves_11 : decode cX8_moves 11 = .ok (.aload_n 0, 1) := by decide +kernel
theorem dX8_moves_12 : decode cX8_moves 12 = .ok (.getfield 21, 3) := by decide +kernel
theorem dX8_moves_15 : decode cX8_moves 15 = .ok (.aload_n 0, 1) := by decide +kernel
theorem dX8_moves_16 : decode cX8_moves 16 = .ok (.getfield 69, 3) := by decide +kernel
theorem dX8_moves_19 : decode cX8_moves 19 = .ok (.iload_n 1, 1) := by decide +kernel
theorem dX8_moves_20 : decode cX8_moves 20 = .ok (.invokevirtual 141, 3) := by decide +kernel
theorem dX8_moves_23 : decode cX8_moves 23 = .ok (.aload_n 0, 1) := by decide +kernel
theorem dX8_moves_24 : decode cX8_moves 24 = .ok (.getfield 21, 3) := by decide +kernel
theorem dX8_moves_27 : decode cX8_moves 27 = .ok (.getfield 145, 3) := by decide +kernel
theorem dX8_moves_30 : decode cX8_moves 30 = .ok (.ireturn, 1) := by decide +kernel
theorem dX8_moveAt_0 : decode cX8_moveAt 0 = .ok (.iload_n 1, 1) := by decide +kernel
theorem dX8_moveAt_1 : decode cX8_moveAt 1 = .ok (.invokestatic 138, 3) := by decide +kernel
theorem dX8_moveAt_4 : decode cX8_moveAt 4 = .ok (.ifCond .eq 16, 3) := by decide +kernel
theorem dX8_moveAt_7 : decode cX8_moveAt 7 = .ok (.iload_n 2, 1) := by decide +kernel
theorem dX8_moveAt_8 : decode cX8_moveAt 8 = .ok (.ifCond .lt 12, 3) := by decide +kernel
theorem dX8_moveAt_11 : decode cX8_moveAt 11 = .ok (.iload_n 3, 1) := by decide +kernel
theorem dX8_moveAt_12 : decode cX8_moveAt 12 = .ok (.ifCond .lt 8, 3) := by decide +kernel
theorem dX8_moveAt_15 : decode cX8_moveAt 15 = .ok (.iload_n 3, 1) := by decide +kernel
theorem dX8_moveAt_16 : decode cX8_moveAt 16 = .ok (.iconst 2, 1) := by decide +kernel
theorem dX8_moveAt_17 : decode cX8_moveAt 17 = .ok (.if_icmp .le 7, 3) := by decide +kernel
theorem dX8_moveAt_20 : decode cX8_moveAt 20 = .ok (.sipush (-1001), 3) := by decide +kernel
theorem dX8_moveAt_23 : decode cX8_moveAt 23 = .ok (.ireturn, 1) := by decide +kernel
theorem dX8_moveAt_24 : decode cX8_moveAt 24 = .ok (.aload_n 0, 1) := by decide +kernel
theorem dX8_moveAt_25 : decode cX8_moveAt 25 = .ok (.getfield 21, 3) := by decide +kernel
theorem dX8_moveAt_28 : decode cX8_moveAt 28 = .ok (.aload_n 0, 1) := by decide +kernel
theorem dX8_moveAt_29 : decode cX8_moveAt 29 = .ok (.getfield 69, 3) := by decide +kernel
theorem dX8_moveAt_32 : decode cX8_moveAt 32 = .ok (.iload_n 1, 1) := by decide +kernel
theorem dX8_moveAt_33 : decode cX8_moveAt 33 = .ok (.invokevirtual 141, 3) := by decide +kernel
theorem dX8_moveAt_36 : decode cX8_moveAt 36 = .ok (.iload_n 2, 1) := by decide +kernel
theorem dX8_moveAt_37 : decode cX8_moveAt 37 = .ok (.aload_n 0, 1) := by decide +kernel
theorem dX8_moveAt_38 : decode cX8_moveAt 38 = .ok (.getfield 21, 3) := by decide +kernel
theorem dX8_moveAt_41 : decode cX8_moveAt 41 = .ok (.getfield 145, 3) := by decide +kernel
theorem dX8_moveAt_44 : decode cX8_moveAt 44 = .ok (.if_icmp .lt 7, 3) := by decide +kernel
theorem dX8_moveAt_47 : decode cX8_moveAt 47 = .ok (.sipush (-1005), 3) := by decide +kernel
theorem dX8_moveAt_50 : decode cX8_moveAt 50 = .ok (.ireturn, 1) := by decide +kernel
theorem dX8_moveAt_51 : decode cX8_moveAt 51 = .ok (.iload_n 3, 1) := by decide +kernel
theorem dX8_moveAt_52 : decode cX8_moveAt 52 = .ok (.ifCond .ne 12, 3) := by decide +kernel
theorem dX8_moveAt_55 : decode cX8_moveAt 55 = .ok (.aload_n 0, 1) := by decide +kernel
theorem dX8_moveAt_56 : decode cX8_moveAt 56 = .ok (.getfield 21, 3) := by decide +kernel
theorem dX8_moveAt_59 : decode cX8_moveAt 59 = .ok (.iload_n 2, 1) := by decide +kernel
theorem dX8_moveAt_60 : decode cX8_moveAt 60 = .ok (.invokevirtual 146, 3) := by decide +kernel
theorem dX8_moveAt_63 : decode cX8_moveAt 63 = .ok (.ireturn, 1) := by decide +kernel
theorem dX8_moveAt_64 : decode cX8_moveAt 64 = .ok (.iload_n 3, 1) := by decide +kernel
theorem dX8_moveAt_65 : decode cX8_moveAt 65 = .ok (.iconst 1, 1) := by decide +kernel
theorem dX8_moveAt_66 : decode cX8_moveAt 66 = .ok (.if_icmp .ne 14, 3) := by decide +kernel
theorem dX8_moveAt_69 : decode cX8_moveAt 69 = .ok (.aload_n 0, 1) := by decide +kernel
theorem dX8_moveAt_70 : decode cX8_moveAt 70 = .ok (.getfield 21, 3) := by decide +kernel
theorem dX8_moveAt_73 : decode cX8_moveAt 73 = .ok (.iload_n 2, 1) := by decide +kernel
theorem dX8_moveAt_74 : decode cX8_moveAt 74 = .ok (.invokevirtual 149, 3) := by decide +kernel
theorem dX8_moveAt_77 : decode cX8_moveAt 77 = .ok (.goto 11, 3) := by decide +kernel
theorem dX8_moveAt_80 : decode cX8_moveAt 80 = .ok (.aload_n 0, 1) := by decide +kernel
theorem dX8_moveAt_81 : decode cX8_moveAt 81 = .ok (.getfield 21, 3) := by decide +kernel
theorem dX8_moveAt_84 : decode cX8_moveAt 84 = .ok (.iload_n 2, 1) := by decide +kernel
theorem dX8_moveAt_85 : decode cX8_moveAt 85 = .ok (.invokevirtual 152, 3) := by decide +kernel
theorem dX8_moveAt_88 : decode cX8_moveAt 88 = .ok (.ireturn, 1) := by decide +kernel
theorem dX8_regions_0 : decode cX8_regions 0 = .ok (.aload_n 0, 1) := by decide +kernel
theorem dX8_regions_1 : decode cX8_regions 1 = .ok (.invokevirtual 155, 3) := by decide +kernel
theorem dX8_regions_4 : decode cX8_regions 4 = .ok (.aload_n 0, 1) := by decide +kernel
theorem dX8_regions_5 : decode cX8_regions 5 = .ok (.getfield 40, 3) := by decide +kernel
theorem dX8_regions_8 : decode cX8_regions 8 = .ok (.getfield 158, 3) := by decide +kernel
theorem dX8_regions_11 : decode cX8_regions 11 = .ok (.ireturn, 1) := by decide +kernel
theorem dX8_regionOf_0 : decode cX8_regionOf 0 = .ok (.aload_n 0, 1) := by decide +kernel
theorem dX8_regionOf_1 : decode cX8_regionOf 1 = .ok (.getfield 12, 3) := by decide +kernel
theorem dX8_regionOf_4 : decode cX8_regionOf 4 = .ok (.iload_n 1, 1) := by decide +kernel
theorem dX8_regionOf_5 : decode cX8_regionOf 5 = .ok (.invokevirtual 95, 3) := by decide +kernel
theorem dX8_regionOf_8 : decode cX8_regionOf 8 = .ok (.ifCond .ne 7, 3) := by decide +kernel
theorem dX8_regionOf_11 : decode cX8_regionOf 11 = .ok (.sipush (-1001), 3) := by decide +kernel
theorem dX8_regionOf_14 : decode cX8_regionOf 14 = .ok (.ireturn, 1) := by decide +kernel
theorem dX8_regionOf_15 : decode cX8_regionOf 15 = .ok (.aload_n 0, 1) := by decide +kernel
theorem dX8_regionOf_16 : decode cX8_regionOf 16 = .ok (.invokevirtual 155, 3) := by decide +kernel
theorem dX8_regionOf_19 : decode cX8_regionOf 19 = .ok (.iconst 0, 1) := by decide +kernel
theorem dX8_regionOf_20 : decode cX8_regionOf 20 = .ok (.istore_n 2, 1) := by decide +kernel
theorem dX8_regionOf_21 : decode cX8_regionOf 21 = .ok (.iload_n 2, 1) := by decide +kernel
theorem dX8_regionOf_22 : decode cX8_regionOf 22 = .ok (.aload_n 0, 1) := by decide +kernel
theorem dX8_regionOf_23 : decode cX8_regionOf 23 = .ok (.getfield 40, 3) := by decide +kernel
theorem dX8_regionOf_26 : decode cX8_regionOf 26 = .ok (.getfield 158, 3) := by decide +kernel
theorem dX8_regionOf_29 : decode cX8_regionOf 29 = .ok (.if_icmp .ge 27, 3) := by decide +kernel
theorem dX8_regionOf_32 : decode cX8_regionOf 32 = .ok (.aload_n 0, 1) := by decide +kernel
theorem dX8_regionOf_33 : decode cX8_regionOf 33 = .ok (.getfield 40, 3) := by decide +kernel
theorem dX8_regionOf_36 : decode cX8_regionOf 36 = .ok (.getfield 159, 3) := by decide +kernel
theorem dX8_regionOf_39 : decode cX8_regionOf 39 = .ok (.iload_n 2, 1) := by decide +kernel
theorem dX8_regionOf_40 : decode cX8_regionOf 40 = .ok (.iaload, 1) := by decide +kernel
theorem dX8_regionOf_41 : decode cX8_regionOf 41 = .ok (.iload_n 1, 1) := by decide +kernel
theorem dX8_regionOf_42 : decode cX8_regionOf 42 = .ok (.ishr, 1) := by decide +kernel
theorem dX8_regionOf_43 : decode cX8_regionOf 43 = .ok (.iconst 1, 1) := by decide +kernel
theorem dX8_regionOf_44 : decode cX8_regionOf 44 = .ok (.iand, 1) := by decide +kernel
theorem dX8_regionOf_45 : decode cX8_regionOf 45 = .ok (.ifCond .eq 5, 3) := by decide +kernel
theorem dX8_regionOf_48 : decode cX8_regionOf 48 = .ok (.iload_n 2, 1) := by decide +kernel
theorem dX8_regionOf_49 : decode cX8_regionOf 49 = .ok (.ireturn, 1) := by decide +kernel
theorem dX8_regionOf_50 : decode cX8_regionOf 50 = .ok (.iinc 2 1, 3) := by decide +kernel
theorem dX8_regionOf_53 : decode cX8_regionOf 53 = .ok (.goto (-32), 3) := by decide +kernel
theorem dX8_regionOf_56 : decode cX8_regionOf 56 = .ok (.sipush (-1005), 3) := by decide +kernel
theorem dX8_regionOf_59 : decode cX8_regionOf 59 = .ok (.ireturn, 1) := by decide +kernel
theorem dX8_regionInfo_0 : decode cX8_regionInfo 0 = .ok (.aload_n 0, 1) := by decide +kernel
theorem dX8_regionInfo_1 : decode cX8_regionInfo 1 = .ok (.invokevirtual 155, 3) := by decide +kernel
theorem dX8_regionInfo_4 : decode cX8_regionInfo 4 = .ok (.aload_n 0, 1) := by decide +kernel
theorem dX8_regionInfo_5 : decode cX8_regionInfo 5 = .ok (.getfield 40, 3) := by decide +kernel
theorem dX8_regionInfo_8 : decode cX8_regionInfo 8 = .ok (.iload_n 1, 1) := by decide +kernel
theorem dX8_regionInfo_9 : decode cX8_regionInfo 9 = .ok (.invokevirtual 162, 3) := by decide +kernel
theorem dX8_regionInfo_12 : decode cX8_regionInfo 12 = .ok (.ifCond .eq 12, 3) := by decide +kernel
theorem dX8_regionInfo_15 : decode cX8_regionInfo 15 = .ok (.iload_n 2, 1) := by decide +kernel
theorem dX8_regionInfo_16 : decode cX8_regionInfo 16 = .ok (.ifCond .lt 8, 3) := by decide +kernel
theorem dX8_regionInfo_19 : decode cX8_regionInfo 19 = .ok (.iload_n 2, 1) := by decide +kernel
theorem dX8_regionInfo_20 : decode cX8_regionInfo 20 = .ok (.iconst 5, 1) := by decide +kernel
theorem dX8_regionInfo_21 : decode cX8_regionInfo 21 = .ok (.if_icmp .le 7, 3) := by decide +kernel
theorem dX8_regionInfo_24 : decode cX8_regionInfo 24 = .ok (.sipush (-1001), 3) := by decide +kernel
theorem dX8_regionInfo_27 : decode cX8_regionInfo 27 = .ok (.ireturn, 1) := by decide +kernel
theorem dX8_regionInfo_28 : decode cX8_regionInfo 28 = .ok (.aload_n 0, 1) := by decide +kernel
theorem dX8_regionInfo_29 : decode cX8_regionInfo 29 = .ok (.getfield 40, 3) := by decide +kernel
theorem dX8_regionInfo_32 : decode cX8_regionInfo 32 = .ok (.getfield 159, 3) := by decide +kernel
theorem dX8_regionInfo_35 : decode cX8_regionInfo 35 = .ok (.iload_n 1, 1) := by decide +kernel
theorem dX8_regionInfo_36 : decode cX8_regionInfo 36 = .ok (.iaload, 1) := by decide +kernel
theorem dX8_regionInfo_37 : decode cX8_regionInfo 37 = .ok (.istore_n 3, 1) := by decide +kernel
theorem dX8_regionInfo_38 : decode cX8_regionInfo 38 = .ok (.iload_n 2, 1) := by decide +kernel
theorem dX8_regionInfo_39 : decode cX8_regionInfo 39 = .ok (.tableswitch 77 0 4 #[33, 39, 44, 55, 66], 33) := by decide +kernel
theorem dX8_regionInfo_72 : decode cX8_regionInfo 72 = .ok (.aload_n 0, 1) := by decide +kernel
theorem dX8_regionInfo_73 : decode cX8_regionInfo 73 = .ok (.iload_n 3, 1) := by decide +kernel
theorem dX8_regionInfo_74 : decode cX8_regionInfo 74 = .ok (.invokevirtual 163, 3) := by decide +kernel
theorem dX8_regionInfo_77 : decode cX8_regionInfo 77 = .ok (.ireturn, 1) := by decide +kernel
theorem dX8_regionInfo_78 : decode cX8_regionInfo 78 = .ok (.iload_n 3, 1) := by decide +kernel
theorem dX8_regionInfo_79 : decode cX8_regionInfo 79 = .ok (.invokestatic 112, 3) := by decide +kernel
theorem dX8_regionInfo_82 : decode cX8_regionInfo 82 = .ok (.ireturn, 1) := by decide +kernel
theorem dX8_regionInfo_83 : decode cX8_regionInfo 83 = .ok (.iload_n 3, 1) := by decide +kernel
theorem dX8_regionInfo_84 : decode cX8_regionInfo 84 = .ok (.aload_n 0, 1) := by decide +kernel
theorem dX8_regionInfo_85 : decode cX8_regionInfo 85 = .ok (.iconst 0, 1) := by decide +kernel
theorem dX8_regionInfo_86 : decode cX8_regionInfo 86 = .ok (.invokevirtual 108, 3) := by decide +kernel
theorem dX8_regionInfo_89 : decode cX8_regionInfo 89 = .ok (.iand, 1) := by decide +kernel
theorem dX8_regionInfo_90 : decode cX8_regionInfo 90 = .ok (.invokestatic 112, 3) := by decide +kernel
theorem dX8_regionInfo_93 : decode cX8_regionInfo 93 = .ok (.ireturn, 1) := by decide +kernel
theorem dX8_regionInfo_94 : decode cX8_regionInfo 94 = .ok (.iload_n 3, 1) := by decide +kernel
theorem dX8_regionInfo_95 : decode cX8_regionInfo 95 = .ok (.aload_n 0, 1) := by decide +kernel
theorem dX8_regionInfo_96 : decode cX8_regionInfo 96 = .ok (.iconst 1, 1) := by decide +kernel
theorem dX8_regionInfo_97 : decode cX8_regionInfo 97 = .ok (.invokevirtual 108, 3) := by decide +kernel
theorem dX8_regionInfo_100 : decode cX8_regionInfo 100 = .ok (.iand, 1) := by decide +kernel
theorem dX8_regionInfo_101 : decode cX8_regionInfo 101 = .ok (.invokestatic 112, 3) := by decide +kernel
theorem dX8_regionInfo_104 : decode cX8_regionInfo 104 = .ok (.ireturn, 1) := by decide +kernel
theorem dX8_regionInfo_105 : decode cX8_regionInfo 105 = .ok (.iload_n 3, 1) := by decide +kernel
theorem dX8_regionInfo_106 : decode cX8_regionInfo 106 = .ok (.aload_n 0, 1) := by decide +kernel
theorem dX8_regionInfo_107 : decode cX8_regionInfo 107 = .ok (.iconst 2, 1) := by decide +kernel
theorem dX8_regionInfo_108 : decode cX8_regionInfo 108 = .ok (.invokevirtual 108, 3) := by decide +kernel
theorem dX8_regionInfo_111 : decode cX8_regionInfo 111 = .ok (.iand, 1) := by decide +kernel
theorem dX8_regionInfo_112 : decode cX8_regionInfo 112 = .ok (.invokestatic 112, 3) := by decide +kernel
theorem dX8_regionInfo_115 : decode cX8_regionInfo 115 = .ok (.ireturn, 1) := by decide +kernel
theorem dX8_regionInfo_116 : decode cX8_regionInfo 116 = .ok (.iload_n 3, 1) := by decide +kernel
theorem dX8_regionInfo_117 : decode cX8_regionInfo 117 = .ok (.iload_n 3, 1) := by decide +kernel
theorem dX8_regionInfo_118 : decode cX8_regionInfo 118 = .ok (.ineg, 1) := by decide +kernel
theorem dX8_regionInfo_119 : decode cX8_regionInfo 119 = .ok (.iand, 1) := by decide +kernel
theorem dX8_regionInfo_120 : decode cX8_regionInfo 120 = .ok (.iconst 1, 1) := by decide +kernel
theorem dX8_regionInfo_121 : decode cX8_regionInfo 121 = .ok (.isub, 1) := by decide +kernel
theorem dX8_regionInfo_122 : decode cX8_regionInfo 122 = .ok (.invokestatic 112, 3) := by decide +kernel
theorem dX8_regionInfo_125 : decode cX8_regionInfo 125 = .ok (.ireturn, 1) := by decide +kernel
theorem dX8_value_0 : decode cX8_value 0 = .ok (.aload_n 0, 1) := by decide +kernel
theorem dX8_value_1 : decode cX8_value 1 = .ok (.invokevirtual 155, 3) := by decide +kernel
theorem dX8_value_4 : decode cX8_value 4 = .ok (.aload_n 0, 1) := by decide +kernel
theorem dX8_value_5 : decode cX8_value 5 = .ok (.getfield 40, 3) := by decide +kernel
theorem dX8_value_8 : decode cX8_value 8 = .ok (.iload_n 1, 1) := by decide +kernel
theorem dX8_value_9 : decode cX8_value 9 = .ok (.invokevirtual 162, 3) := by decide +kernel
theorem dX8_value_12 : decode cX8_value 12 = .ok (.ifCond .ne 7, 3) := by decide +kernel
theorem dX8_value_15 : decode cX8_value 15 = .ok (.sipush (-1001), 3) := by decide +kernel
theorem dX8_value_18 : decode cX8_value 18 = .ok (.ireturn, 1) := by decide +kernel
theorem dX8_value_19 : decode cX8_value 19 = .ok (.aload_n 0, 1) := by decide +kernel
theorem dX8_value_20 : decode cX8_value 20 = .ok (.getfield 40, 3) := by decide +kernel
theorem dX8_value_23 : decode cX8_value 23 = .ok (.getfield 159, 3) := by decide +kernel
theorem dX8_value_26 : decode cX8_value 26 = .ok (.iload_n 1, 1) := by decide +kernel
theorem dX8_value_27 : decode cX8_value 27 = .ok (.iaload, 1) := by decide +kernel
theorem dX8_value_28 : decode cX8_value 28 = .ok (.istore_n 2, 1) := by decide +kernel
theorem dX8_value_29 : decode cX8_value 29 = .ok (.aload_n 0, 1) := by decide +kernel
theorem dX8_value_30 : decode cX8_value 30 = .ok (.iload_n 2, 1) := by decide +kernel
theorem dX8_value_31 : decode cX8_value 31 = .ok (.invokevirtual 166, 3) := by decide +kernel
theorem dX8_value_34 : decode cX8_value 34 = .ok (.ifCond .eq 7, 3) := by decide +kernel
theorem dX8_value_37 : decode cX8_value 37 = .ok (.sipush (-1002), 3) := by decide +kernel
theorem dX8_value_40 : decode cX8_value 40 = .ok (.ireturn, 1) := by decide +kernel
theorem dX8_value_41 : decode cX8_value 41 = .ok (.aload_n 0, 1) := by decide +kernel
theorem dX8_value_42 : decode cX8_value 42 = .ok (.iload_n 2, 1) := by decide +kernel
theorem dX8_value_43 : decode cX8_value 43 = .ok (.invokevirtual 169, 3) := by decide +kernel
theorem dX8_value_46 : decode cX8_value 46 = .ok (.ireturn, 1) := by decide +kernel
theorem dX8_lead_0 : decode cX8_lead 0 = .ok (.aload_n 0, 1) := by decide +kernel
theorem dX8_lead_1 : decode cX8_lead 1 = .ok (.invokevirtual 155, 3) := by decide +kernel
theorem dX8_lead_4 : decode cX8_lead 4 = .ok (.iconst 0, 1) := by decide +kernel
theorem dX8_lead_5 : decode cX8_lead 5 = .ok (.istore_n 1, 1) := by decide +kernel
theorem dX8_lead_6 : decode cX8_lead 6 = .ok (.iload_n 1, 1) := by decide +kernel
theorem dX8_lead_7 : decode cX8_lead 7 = .ok (.aload_n 0, 1) := by decide +kernel
theorem dX8_lead_8 : decode cX8_lead 8 = .ok (.getfield 40, 3) := by decide +kernel
theorem dX8_lead_11 : decode cX8_lead 11 = .ok (.getfield 158, 3) := by decide +kernel
theorem dX8_lead_14 : decode cX8_lead 14 = .ok (.if_icmp .ge 29, 3) := by decide +kernel
theorem dX8_lead_17 : decode cX8_lead 17 = .ok (.aload_n 0, 1) := by decide +kernel
theorem dX8_lead_18 : decode cX8_lead 18 = .ok (.aload_n 0, 1) := by decide +kernel
theorem dX8_lead_19 : decode cX8_lead 19 = .ok (.getfield 40, 3) := by decide +kernel
theorem dX8_lead_22 : decode cX8_lead 22 = .ok (.getfield 159, 3) := by decide +kernel
theorem dX8_lead_25 : decode cX8_lead 25 = .ok (.iload_n 1, 1) := by decide +kernel
theorem dX8_lead_26 : decode cX8_lead 26 = .ok (.iaload, 1) := by decide +kernel
theorem dX8_lead_27 : decode cX8_lead 27 = .ok (.invokevirtual 166, 3) := by decide +kernel
theorem dX8_lead_30 : decode cX8_lead 30 = .ok (.ifCond .eq 7, 3) := by decide +kernel
theorem dX8_lead_33 : decode cX8_lead 33 = .ok (.sipush (-1002), 3) := by decide +kernel
theorem dX8_lead_36 : decode cX8_lead 36 = .ok (.ireturn, 1) := by decide +kernel
theorem dX8_lead_37 : decode cX8_lead 37 = .ok (.iinc 1 1, 3) := by decide +kernel
theorem dX8_lead_40 : decode cX8_lead 40 = .ok (.goto (-34), 3) := by decide +kernel
theorem dX8_lead_43 : decode cX8_lead 43 = .ok (.iconst 0, 1) := by decide +kernel
theorem dX8_lead_44 : decode cX8_lead 44 = .ok (.istore_n 1, 1) := by decide +kernel
theorem dX8_lead_45 : decode cX8_lead 45 = .ok (.iconst 0, 1) := by decide +kernel
theorem dX8_lead_46 : decode cX8_lead 46 = .ok (.istore_n 2, 1) := by decide +kernel
theorem dX8_lead_47 : decode cX8_lead 47 = .ok (.iload_n 2, 1) := by decide +kernel
theorem dX8_lead_48 : decode cX8_lead 48 = .ok (.aload_n 0, 1) := by decide +kernel
theorem dX8_lead_49 : decode cX8_lead 49 = .ok (.getfield 40, 3) := by decide +kernel
theorem dX8_lead_52 : decode cX8_lead 52 = .ok (.getfield 158, 3) := by decide +kernel
theorem dX8_lead_55 : decode cX8_lead 55 = .ok (.if_icmp .ge 54, 3) := by decide +kernel
theorem dX8_lead_58 : decode cX8_lead 58 = .ok (.aload_n 0, 1) := by decide +kernel
theorem dX8_lead_59 : decode cX8_lead 59 = .ok (.getfield 40, 3) := by decide +kernel
theorem dX8_lead_62 : decode cX8_lead 62 = .ok (.getfield 159, 3) := by decide +kernel
theorem dX8_lead_65 : decode cX8_lead 65 = .ok (.iload_n 2, 1) := by decide +kernel
theorem dX8_lead_66 : decode cX8_lead 66 = .ok (.iaload, 1) := by decide +kernel
theorem dX8_lead_67 : decode cX8_lead 67 = .ok (.istore_n 3, 1) := by decide +kernel
theorem dX8_lead_68 : decode cX8_lead 68 = .ok (.aload_n 0, 1) := by decide +kernel
theorem dX8_lead_69 : decode cX8_lead 69 = .ok (.iload_n 3, 1) := by decide +kernel
theorem dX8_lead_70 : decode cX8_lead 70 = .ok (.invokevirtual 169, 3) := by decide +kernel
theorem dX8_lead_73 : decode cX8_lead 73 = .ok (.istore 4, 2) := by decide +kernel
theorem dX8_lead_75 : decode cX8_lead 75 = .ok (.iload 4, 2) := by decide +kernel
theorem dX8_lead_77 : decode cX8_lead 77 = .ok (.ifCond .ge 6, 3) := by decide +kernel
theorem dX8_lead_80 : decode cX8_lead 80 = .ok (.iload 4, 2) := by decide +kernel
theorem dX8_lead_82 : decode cX8_lead 82 = .ok (.ireturn, 1) := by decide +kernel
theorem dX8_lead_83 : decode cX8_lead 83 = .ok (.iload_n 1, 1) := by decide +kernel
theorem dX8_lead_84 : decode cX8_lead 84 = .ok (.aload_n 0, 1) := by decide +kernel
theorem dX8_lead_85 : decode cX8_lead 85 = .ok (.iload_n 3, 1) := by decide +kernel
theorem dX8_lead_86 : decode cX8_lead 86 = .ok (.invokevirtual 163, 3) := by decide +kernel
theorem dX8_lead_89 : decode cX8_lead 89 = .ok (.iconst 1, 1) := by decide +kernel
theorem dX8_lead_90 : decode cX8_lead 90 = .ok (.if_icmp .ne 8, 3) := by decide +kernel
theorem dX8_lead_93 : decode cX8_lead 93 = .ok (.iload 4, 2) := by decide +kernel
theorem dX8_lead_95 : decode cX8_lead 95 = .ok (.goto 6, 3) := by decide +kernel
theorem dX8_lead_98 : decode cX8_lead 98 = .ok (.iload 4, 2) := by decide +kernel
theorem dX8_lead_100 : decode cX8_lead 100 = .ok (.ineg, 1) := by decide +kernel
theorem dX8_lead_101 : decode cX8_lead 101 = .ok (.iadd, 1) := by decide +kernel
theorem dX8_lead_102 : decode cX8_lead 102 = .ok (.istore_n 1, 1) := by decide +kernel
theorem dX8_lead_103 : decode cX8_lead 103 = .ok (.iinc 2 1, 3) := by decide +kernel
theorem dX8_lead_106 : decode cX8_lead 106 = .ok (.goto (-59), 3) := by decide +kernel
theorem dX8_lead_109 : decode cX8_lead 109 = .ok (.iload_n 1, 1) := by decide +kernel
theorem dX8_lead_110 : decode cX8_lead 110 = .ok (.ireturn, 1) := by decide +kernel
theorem dX8_kept_0 : decode cX8_kept 0 = .ok (.iload_n 1, 1) := by decide +kernel
theorem dX8_kept_1 : decode cX8_kept 1 = .ok (.ifCond .lt 8, 3) := by decide +kernel
theorem dX8_kept_4 : decode cX8_kept 4 = .ok (.iload_n 1, 1) := by decide +kernel
theorem dX8_kept_5 : decode cX8_kept 5 = .ok (.iconst 1, 1) := by decide +kernel
theorem dX8_kept_6 : decode cX8_kept 6 = .ok (.if_icmp .le 7, 3) := by decide +kernel
theorem dX8_kept_9 : decode cX8_kept 9 = .ok (.sipush (-1001), 3) := by decide +kernel
theorem dX8_kept_12 : decode cX8_kept 12 = .ok (.ireturn, 1) := by decide +kernel
theorem dX8_kept_13 : decode cX8_kept 13 = .ok (.iload_n 1, 1) := by decide +kernel
theorem dX8_kept_14 : decode cX8_kept 14 = .ok (.ifCond .ne 13, 3) := by decide +kernel
theorem dX8_kept_17 : decode cX8_kept 17 = .ok (.aload_n 0, 1) := by decide +kernel
theorem dX8_kept_18 : decode cX8_kept 18 = .ok (.getfield 47, 3) := by decide +kernel
theorem dX8_kept_21 : decode cX8_kept 21 = .ok (.getfield 172, 3) := by decide +kernel
theorem dX8_kept_24 : decode cX8_kept 24 = .ok (.goto 10, 3) := by decide +kernel
theorem dX8_kept_27 : decode cX8_kept 27 = .ok (.aload_n 0, 1) := by decide +kernel
theorem dX8_kept_28 : decode cX8_kept 28 = .ok (.getfield 47, 3) := by decide +kernel
theorem dX8_kept_31 : decode cX8_kept 31 = .ok (.getfield 173, 3) := by decide +kernel
theorem dX8_kept_34 : decode cX8_kept 34 = .ok (.ireturn, 1) := by decide +kernel
theorem dX8_positions_0 : decode cX8_positions 0 = .ok (.iload_n 1, 1) := by decide +kernel
theorem dX8_positions_1 : decode cX8_positions 1 = .ok (.invokestatic 138, 3) := by decide +kernel
theorem dX8_positions_4 : decode cX8_positions 4 = .ok (.ifCond .ne 7, 3) := by decide +kernel
theorem dX8_positions_7 : decode cX8_positions 7 = .ok (.sipush (-1001), 3) := by decide +kernel
theorem dX8_positions_10 : decode cX8_positions 10 = .ok (.ireturn, 1) := by decide +kernel
theorem dX8_positions_11 : decode cX8_positions 11 = .ok (.aload_n 0, 1) := by decide +kernel
theorem dX8_positions_12 : decode cX8_positions 12 = .ok (.getfield 30, 3) := by decide +kernel
theorem dX8_positions_15 : decode cX8_positions 15 = .ok (.aload_n 0, 1) := by decide +kernel
theorem dX8_positions_16 : decode cX8_positions 16 = .ok (.getfield 69, 3) := by decide +kernel
theorem dX8_positions_19 : decode cX8_positions 19 = .ok (.iload_n 1, 1) := by decide +kernel
theorem dX8_positions_20 : decode cX8_positions 20 = .ok (.iload_n 1, 1) := by decide +kernel
theorem dX8_positions_21 : decode cX8_positions 21 = .ok (.invokestatic 176, 3) := by decide +kernel
theorem dX8_positions_24 : decode cX8_positions 24 = .ok (.invokevirtual 179, 3) := by decide +kernel
theorem dX8_positions_27 : decode cX8_positions 27 = .ok (.ifCond .eq 13, 3) := by decide +kernel
theorem dX8_positions_30 : decode cX8_positions 30 = .ok (.aload_n 0, 1) := by decide +kernel
theorem dX8_positions_31 : decode cX8_positions 31 = .ok (.getfield 30, 3) := by decide +kernel
theorem dX8_positions_34 : decode cX8_positions 34 = .ok (.getfield 183, 3) := by decide +kernel
theorem dX8_positions_37 : decode cX8_positions 37 = .ok (.goto 6, 3) := by decide +kernel
theorem dX8_positions_40 : decode cX8_positions 40 = .ok (.sipush (-1004), 3) := by decide +kernel
theorem dX8_positions_43 : decode cX8_positions 43 = .ok (.ireturn, 1) := by decide +kernel
theorem dX8_wins_0 : decode cX8_wins 0 = .ok (.iload_n 1, 1) := by decide +kernel
theorem dX8_wins_1 : decode cX8_wins 1 = .ok (.invokestatic 138, 3) := by decide +kernel
theorem dX8_wins_4 : decode cX8_wins 4 = .ok (.ifCond .ne 7, 3) := by decide +kernel
theorem dX8_wins_7 : decode cX8_wins 7 = .ok (.sipush (-1001), 3) := by decide +kernel
theorem dX8_wins_10 : decode cX8_wins 10 = .ok (.ireturn, 1) := by decide +kernel
theorem dX8_wins_11 : decode cX8_wins 11 = .ok (.aload_n 0, 1) := by decide +kernel
theorem dX8_wins_12 : decode cX8_wins 12 = .ok (.getfield 30, 3) := by decide +kernel
theorem dX8_wins_15 : decode cX8_wins 15 = .ok (.aload_n 0, 1) := by decide +kernel
theorem dX8_wins_16 : decode cX8_wins 16 = .ok (.getfield 69, 3) := by decide +kernel
theorem dX8_wins_19 : decode cX8_wins 19 = .ok (.iload_n 1, 1) := by decide +kernel
theorem dX8_wins_20 : decode cX8_wins 20 = .ok (.invokestatic 184, 3) := by decide +kernel
theorem dX8_wins_23 : decode cX8_wins 23 = .ok (.ifCond .ne 7, 3) := by decide +kernel
theorem dX8_wins_26 : decode cX8_wins 26 = .ok (.sipush (-1004), 3) := by decide +kernel
theorem dX8_wins_29 : decode cX8_wins 29 = .ok (.ireturn, 1) := by decide +kernel
theorem dX8_wins_30 : decode cX8_wins 30 = .ok (.aload_n 0, 1) := by decide +kernel
theorem dX8_wins_31 : decode cX8_wins 31 = .ok (.getfield 30, 3) := by decide +kernel
theorem dX8_wins_34 : decode cX8_wins 34 = .ok (.iconst 0, 1) := by decide +kernel
theorem dX8_wins_35 : decode cX8_wins 35 = .ok (.invokevirtual 188, 3) := by decide +kernel
theorem dX8_wins_38 : decode cX8_wins 38 = .ok (.ifCond .eq 7, 3) := by decide +kernel
theorem dX8_wins_41 : decode cX8_wins 41 = .ok (.iconst 1, 1) := by decide +kernel
theorem dX8_wins_42 : decode cX8_wins 42 = .ok (.goto 4, 3) := by decide +kernel
theorem dX8_wins_45 : decode cX8_wins 45 = .ok (.iconst 0, 1) := by decide +kernel
theorem dX8_wins_46 : decode cX8_wins 46 = .ok (.ireturn, 1) := by decide +kernel
theorem dX8_outcome_0 : decode cX8_outcome 0 = .ok (.aload_n 0, 1) := by decide +kernel
theorem dX8_outcome_1 : decode cX8_outcome 1 = .ok (.aload_n 0, 1) := by decide +kernel
theorem dX8_outcome_2 : decode cX8_outcome 2 = .ok (.getfield 69, 3) := by decide +kernel
theorem dX8_outcome_5 : decode cX8_outcome 5 = .ok (.invokevirtual 191, 3) := by decide +kernel
theorem dX8_outcome_8 : decode cX8_outcome 8 = .ok (.ireturn, 1) := by decide +kernel
theorem dX8_outcomeOf_0 : decode cX8_outcomeOf 0 = .ok (.aload_n 0, 1) := by decide +kernel
theorem dX8_outcomeOf_1 : decode cX8_outcomeOf 1 = .ok (.invokevirtual 155, 3) := by decide +kernel
theorem dX8_outcomeOf_4 : decode cX8_outcomeOf 4 = .ok (.aload_n 0, 1) := by decide +kernel
theorem dX8_outcomeOf_5 : decode cX8_outcomeOf 5 = .ok (.getfield 40, 3) := by decide +kernel
theorem dX8_outcomeOf_8 : decode cX8_outcomeOf 8 = .ok (.iload_n 1, 1) := by decide +kernel
theorem dX8_outcomeOf_9 : decode cX8_outcomeOf 9 = .ok (.invokevirtual 162, 3) := by decide +kernel
theorem dX8_outcomeOf_12 : decode cX8_outcomeOf 12 = .ok (.ifCond .ne 7, 3) := by decide +kernel
theorem dX8_outcomeOf_15 : decode cX8_outcomeOf 15 = .ok (.sipush (-1001), 3) := by decide +kernel
theorem dX8_outcomeOf_18 : decode cX8_outcomeOf 18 = .ok (.ireturn, 1) := by decide +kernel
theorem dX8_outcomeOf_19 : decode cX8_outcomeOf 19 = .ok (.aload_n 0, 1) := by decide +kernel
theorem dX8_outcomeOf_20 : decode cX8_outcomeOf 20 = .ok (.aload_n 0, 1) := by decide +kernel
theorem dX8_outcomeOf_21 : decode cX8_outcomeOf 21 = .ok (.aload_n 0, 1) := by decide +kernel
theorem dX8_outcomeOf_22 : decode cX8_outcomeOf 22 = .ok (.getfield 40, 3) := by decide +kernel
theorem dX8_outcomeOf_25 : decode cX8_outcomeOf 25 = .ok (.getfield 159, 3) := by decide +kernel
theorem dX8_outcomeOf_28 : decode cX8_outcomeOf 28 = .ok (.iload_n 1, 1) := by decide +kernel
theorem dX8_outcomeOf_29 : decode cX8_outcomeOf 29 = .ok (.iaload, 1) := by decide +kernel
theorem dX8_outcomeOf_30 : decode cX8_outcomeOf 30 = .ok (.invokevirtual 195, 3) := by decide +kernel
theorem dX8_outcomeOf_33 : decode cX8_outcomeOf 33 = .ok (.invokevirtual 191, 3) := by decide +kernel
theorem dX8_outcomeOf_36 : decode cX8_outcomeOf 36 = .ok (.ireturn, 1) := by decide +kernel
theorem dX8_bestMove_0 : decode cX8_bestMove 0 = .ok (.iload_n 1, 1) := by decide +kernel
theorem dX8_bestMove_1 : decode cX8_bestMove 1 = .ok (.invokestatic 138, 3) := by decide +kernel
theorem dX8_bestMove_4 : decode cX8_bestMove 4 = .ok (.ifCond .ne 7, 3) := by decide +kernel
theorem dX8_bestMove_7 : decode cX8_bestMove 7 = .ok (.sipush (-1001), 3) := by decide +kernel
theorem dX8_bestMove_10 : decode cX8_bestMove 10 = .ok (.ireturn, 1) := by decide +kernel
theorem dX8_bestMove_11 : decode cX8_bestMove 11 = .ok (.aload_n 0, 1) := by decide +kernel
theorem dX8_bestMove_12 : decode cX8_bestMove 12 = .ok (.getfield 30, 3) := by decide +kernel
theorem dX8_bestMove_15 : decode cX8_bestMove 15 = .ok (.aload_n 0, 1) := by decide +kernel
theorem dX8_bestMove_16 : decode cX8_bestMove 16 = .ok (.getfield 69, 3) := by decide +kernel
theorem dX8_bestMove_19 : decode cX8_bestMove 19 = .ok (.iload_n 1, 1) := by decide +kernel
theorem dX8_bestMove_20 : decode cX8_bestMove 20 = .ok (.invokestatic 184, 3) := by decide +kernel
theorem dX8_bestMove_23 : decode cX8_bestMove 23 = .ok (.ifCond .ne 7, 3) := by decide +kernel
theorem dX8_bestMove_26 : decode cX8_bestMove 26 = .ok (.sipush (-1004), 3) := by decide +kernel
theorem dX8_bestMove_29 : decode cX8_bestMove 29 = .ok (.ireturn, 1) := by decide +kernel
theorem dX8_bestMove_30 : decode cX8_bestMove 30 = .ok (.aload_n 0, 1) := by decide +kernel
theorem dX8_bestMove_31 : decode cX8_bestMove 31 = .ok (.getfield 21, 3) := by decide +kernel
theorem dX8_bestMove_34 : decode cX8_bestMove 34 = .ok (.aload_n 0, 1) := by decide +kernel
theorem dX8_bestMove_35 : decode cX8_bestMove 35 = .ok (.getfield 69, 3) := by decide +kernel
theorem dX8_bestMove_38 : decode cX8_bestMove 38 = .ok (.iload_n 1, 1) := by decide +kernel
theorem dX8_bestMove_39 : decode cX8_bestMove 39 = .ok (.invokevirtual 141, 3) := by decide +kernel
theorem dX8_bestMove_42 : decode cX8_bestMove 42 = .ok (.iconst 0, 1) := by decide +kernel
theorem dX8_bestMove_43 : decode cX8_bestMove 43 = .ok (.istore_n 2, 1) := by decide +kernel
theorem dX8_bestMove_44 : decode cX8_bestMove 44 = .ok (.iload_n 2, 1) := by decide +kernel
theorem dX8_bestMove_45 : decode cX8_bestMove 45 = .ok (.aload_n 0, 1) := by decide +kernel
theorem dX8_bestMove_46 : decode cX8_bestMove 46 = .ok (.getfield 21, 3) := by decide +kernel
theorem dX8_bestMove_49 : decode cX8_bestMove 49 = .ok (.getfield 145, 3) := by decide +kernel
theorem dX8_bestMove_52 : decode cX8_bestMove 52 = .ok (.if_icmp .ge 48, 3) := by decide +kernel
theorem dX8_bestMove_55 : decode cX8_bestMove 55 = .ok (.aload_n 0, 1) := by decide +kernel
theorem dX8_bestMove_56 : decode cX8_bestMove 56 = .ok (.getfield 30, 3) := by decide +kernel
theorem dX8_bestMove_59 : decode cX8_bestMove 59 = .ok (.aload_n 0, 1) := by decide +kernel
theorem dX8_bestMove_60 : decode cX8_bestMove 60 = .ok (.getfield 21, 3) := by decide +kernel
theorem dX8_bestMove_63 : decode cX8_bestMove 63 = .ok (.aload_n 0, 1) := by decide +kernel
theorem dX8_bestMove_64 : decode cX8_bestMove 64 = .ok (.getfield 69, 3) := by decide +kernel
theorem dX8_bestMove_67 : decode cX8_bestMove 67 = .ok (.iload_n 1, 1) := by decide +kernel
theorem dX8_bestMove_68 : decode cX8_bestMove 68 = .ok (.iload_n 2, 1) := by decide +kernel
theorem dX8_bestMove_69 : decode cX8_bestMove 69 = .ok (.invokevirtual 199, 3) := by decide +kernel
theorem dX8_bestMove_72 : decode cX8_bestMove 72 = .ok (.invokevirtual 203, 3) := by decide +kernel
theorem dX8_bestMove_75 : decode cX8_bestMove 75 = .ok (.istore_n 3, 1) := by decide +kernel
theorem dX8_bestMove_76 : decode cX8_bestMove 76 = .ok (.iload_n 3, 1) := by decide +kernel
theorem dX8_bestMove_77 : decode cX8_bestMove 77 = .ok (.iconst (-1), 1) := by decide +kernel
theorem dX8_bestMove_78 : decode cX8_bestMove 78 = .ok (.if_icmp .eq 16, 3) := by decide +kernel
theorem dX8_bestMove_81 : decode cX8_bestMove 81 = .ok (.aload_n 0, 1) := by decide +kernel
theorem dX8_bestMove_82 : decode cX8_bestMove 82 = .ok (.getfield 30, 3) := by decide +kernel
theorem dX8_bestMove_85 : decode cX8_bestMove 85 = .ok (.iload_n 3, 1) := by decide +kernel
theorem dX8_bestMove_86 : decode cX8_bestMove 86 = .ok (.invokevirtual 188, 3) := by decide +kernel
theorem dX8_bestMove_89 : decode cX8_bestMove 89 = .ok (.ifCond .ne 5, 3) := by decide +kernel
theorem dX8_bestMove_92 : decode cX8_bestMove 92 = .ok (.iload_n 2, 1) := by decide +kernel
theorem dX8_bestMove_93 : decode cX8_bestMove 93 = .ok (.ireturn, 1) := by decide +kernel
theorem dX8_bestMove_94 : decode cX8_bestMove 94 = .ok (.iinc 2 1, 3) := by decide +kernel
theorem dX8_bestMove_97 : decode cX8_bestMove 97 = .ok (.goto (-53), 3) := by decide +kernel
theorem dX8_bestMove_100 : decode cX8_bestMove 100 = .ok (.sipush (-1005), 3) := by decide +kernel
theorem dX8_bestMove_103 : decode cX8_bestMove 103 = .ok (.ireturn, 1) := by decide +kernel
theorem dX8_length_0 : decode cX8_length 0 = .ok (.iload_n 1, 1) := by decide +kernel
theorem dX8_length_1 : decode cX8_length 1 = .ok (.invokestatic 138, 3) := by decide +kernel
theorem dX8_length_4 : decode cX8_length 4 = .ok (.ifCond .ne 7, 3) := by decide +kernel
theorem dX8_length_7 : decode cX8_length 7 = .ok (.sipush (-1001), 3) := by decide +kernel
theorem dX8_length_10 : decode cX8_length 10 = .ok (.ireturn, 1) := by decide +kernel
theorem dX8_length_11 : decode cX8_length 11 = .ok (.aload_n 0, 1) := by decide +kernel
theorem dX8_length_12 : decode cX8_length 12 = .ok (.getfield 30, 3) := by decide +kernel
theorem dX8_length_15 : decode cX8_length 15 = .ok (.aload_n 0, 1) := by decide +kernel
theorem dX8_length_16 : decode cX8_length 16 = .ok (.getfield 69, 3) := by decide +kernel
theorem dX8_length_19 : decode cX8_length 19 = .ok (.iload_n 1, 1) := by decide +kernel
theorem dX8_length_20 : decode cX8_length 20 = .ok (.invokestatic 184, 3) := by decide +kernel
theorem dX8_length_23 : decode cX8_length 23 = .ok (.ifCond .ne 7, 3) := by decide +kernel
theorem dX8_length_26 : decode cX8_length 26 = .ok (.sipush (-1004), 3) := by decide +kernel
theorem dX8_length_29 : decode cX8_length 29 = .ok (.ireturn, 1) := by decide +kernel
theorem dX8_length_30 : decode cX8_length 30 = .ok (.aload_n 0, 1) := by decide +kernel
theorem dX8_length_31 : decode cX8_length 31 = .ok (.getfield 30, 3) := by decide +kernel
theorem dX8_length_34 : decode cX8_length 34 = .ok (.iconst 0, 1) := by decide +kernel
theorem dX8_length_35 : decode cX8_length 35 = .ok (.invokevirtual 206, 3) := by decide +kernel
theorem dX8_length_38 : decode cX8_length 38 = .ok (.ireturn, 1) := by decide +kernel
theorem dX8_zugzwangs_0 : decode cX8_zugzwangs 0 = .ok (.aload_n 0, 1) := by decide +kernel
theorem dX8_zugzwangs_1 : decode cX8_zugzwangs 1 = .ok (.getfield 30, 3) := by decide +kernel
theorem dX8_zugzwangs_4 : decode cX8_zugzwangs 4 = .ok (.aload_n 0, 1) := by decide +kernel
theorem dX8_zugzwangs_5 : decode cX8_zugzwangs 5 = .ok (.getfield 69, 3) := by decide +kernel
theorem dX8_zugzwangs_8 : decode cX8_zugzwangs 8 = .ok (.iconst 1, 1) := by decide +kernel
theorem dX8_zugzwangs_9 : decode cX8_zugzwangs 9 = .ok (.invokestatic 184, 3) := by decide +kernel
theorem dX8_zugzwangs_12 : decode cX8_zugzwangs 12 = .ok (.ifCond .eq 18, 3) := by decide +kernel
theorem dX8_zugzwangs_15 : decode cX8_zugzwangs 15 = .ok (.aload_n 0, 1) := by decide +kernel
theorem dX8_zugzwangs_16 : decode cX8_zugzwangs 16 = .ok (.getfield 34, 3) := by decide +kernel
theorem dX8_zugzwangs_19 : decode cX8_zugzwangs 19 = .ok (.aload_n 0, 1) := by decide +kernel
theorem dX8_zugzwangs_20 : decode cX8_zugzwangs 20 = .ok (.getfield 69, 3) := by decide +kernel
theorem dX8_zugzwangs_23 : decode cX8_zugzwangs 23 = .ok (.iconst 2, 1) := by decide +kernel
theorem dX8_zugzwangs_24 : decode cX8_zugzwangs 24 = .ok (.invokestatic 184, 3) := by decide +kernel
theorem dX8_zugzwangs_27 : decode cX8_zugzwangs 27 = .ok (.ifCond .ne 7, 3) := by decide +kernel
theorem dX8_zugzwangs_30 : decode cX8_zugzwangs 30 = .ok (.sipush (-1004), 3) := by decide +kernel
theorem dX8_zugzwangs_33 : decode cX8_zugzwangs 33 = .ok (.ireturn, 1) := by decide +kernel
theorem dX8_zugzwangs_34 : decode cX8_zugzwangs 34 = .ok (.iconst 0, 1) := by decide +kernel
theorem dX8_zugzwangs_35 : decode cX8_zugzwangs 35 = .ok (.istore_n 1, 1) := by decide +kernel
theorem dX8_zugzwangs_36 : decode cX8_zugzwangs 36 = .ok (.iconst 0, 1) := by decide +kernel
theorem dX8_zugzwangs_37 : decode cX8_zugzwangs 37 = .ok (.istore_n 2, 1) := by decide +kernel
theorem dX8_zugzwangs_38 : decode cX8_zugzwangs 38 = .ok (.iload_n 2, 1) := by decide +kernel
theorem dX8_zugzwangs_39 : decode cX8_zugzwangs 39 = .ok (.aload_n 0, 1) := by decide +kernel
theorem dX8_zugzwangs_40 : decode cX8_zugzwangs 40 = .ok (.getfield 30, 3) := by decide +kernel
theorem dX8_zugzwangs_43 : decode cX8_zugzwangs 43 = .ok (.getfield 183, 3) := by decide +kernel
theorem dX8_zugzwangs_46 : decode cX8_zugzwangs 46 = .ok (.if_icmp .ge 55, 3) := by decide +kernel
theorem dX8_zugzwangs_49 : decode cX8_zugzwangs 49 = .ok (.aload_n 0, 1) := by decide +kernel
theorem dX8_zugzwangs_50 : decode cX8_zugzwangs 50 = .ok (.getfield 34, 3) := by decide +kernel
theorem dX8_zugzwangs_53 : decode cX8_zugzwangs 53 = .ok (.aload_n 0, 1) := by decide +kernel
theorem dX8_zugzwangs_54 : decode cX8_zugzwangs 54 = .ok (.getfield 30, 3) := by decide +kernel
theorem dX8_zugzwangs_57 : decode cX8_zugzwangs 57 = .ok (.iload_n 2, 1) := by decide +kernel
theorem dX8_zugzwangs_58 : decode cX8_zugzwangs 58 = .ok (.invokevirtual 209, 3) := by decide +kernel
theorem dX8_zugzwangs_61 : decode cX8_zugzwangs 61 = .ok (.invokevirtual 203, 3) := by decide +kernel
theorem dX8_zugzwangs_64 : decode cX8_zugzwangs 64 = .ok (.istore_n 3, 1) := by decide +kernel
theorem dX8_zugzwangs_65 : decode cX8_zugzwangs 65 = .ok (.iload_n 3, 1) := by decide +kernel
theorem dX8_zugzwangs_66 : decode cX8_zugzwangs 66 = .ok (.iconst (-1), 1) := by decide +kernel
theorem dX8_zugzwangs_67 : decode cX8_zugzwangs 67 = .ok (.if_icmp .eq 28, 3) := by decide +kernel
theorem dX8_zugzwangs_70 : decode cX8_zugzwangs 70 = .ok (.aload_n 0, 1) := by decide +kernel
theorem dX8_zugzwangs_71 : decode cX8_zugzwangs 71 = .ok (.getfield 30, 3) := by decide +kernel
theorem dX8_zugzwangs_74 : decode cX8_zugzwangs 74 = .ok (.iload_n 2, 1) := by decide +kernel
theorem dX8_zugzwangs_75 : decode cX8_zugzwangs 75 = .ok (.invokevirtual 188, 3) := by decide +kernel
theorem dX8_zugzwangs_78 : decode cX8_zugzwangs 78 = .ok (.ifCond .ne 17, 3) := by decide +kernel
theorem dX8_zugzwangs_81 : decode cX8_zugzwangs 81 = .ok (.aload_n 0, 1) := by decide +kernel
theorem dX8_zugzwangs_82 : decode cX8_zugzwangs 82 = .ok (.getfield 34, 3) := by decide +kernel
theorem dX8_zugzwangs_85 : decode cX8_zugzwangs 85 = .ok (.iload_n 3, 1) := by decide +kernel
theorem dX8_zugzwangs_86 : decode cX8_zugzwangs 86 = .ok (.invokevirtual 188, 3) := by decide +kernel
theorem dX8_zugzwangs_89 : decode cX8_zugzwangs 89 = .ok (.ifCond .ne 6, 3) := by decide +kernel
theorem dX8_zugzwangs_92 : decode cX8_zugzwangs 92 = .ok (.iinc 1 1, 3) := by decide +kernel
theorem dX8_zugzwangs_95 : decode cX8_zugzwangs 95 = .ok (.iinc 2 1, 3) := by decide +kernel
theorem dX8_zugzwangs_98 : decode cX8_zugzwangs 98 = .ok (.goto (-60), 3) := by decide +kernel
theorem dX8_zugzwangs_101 : decode cX8_zugzwangs 101 = .ok (.iload_n 1, 1) := by decide +kernel
theorem dX8_zugzwangs_102 : decode cX8_zugzwangs 102 = .ok (.ireturn, 1) := by decide +kernel
theorem dX8_type_0 : decode cX8_type 0 = .ok (.iload_n 1, 1) := by decide +kernel
theorem dX8_type_1 : decode cX8_type 1 = .ok (.bipush 32, 2) := by decide +kernel
theorem dX8_type_3 : decode cX8_type 3 = .ok (.if_icmp .lt 9, 3) := by decide +kernel
theorem dX8_type_6 : decode cX8_type 6 = .ok (.iload_n 1, 1) := by decide +kernel
theorem dX8_type_7 : decode cX8_type 7 = .ok (.bipush 126, 2) := by decide +kernel
theorem dX8_type_9 : decode cX8_type 9 = .ok (.if_icmp .le 7, 3) := by decide +kernel
theorem dX8_type_12 : decode cX8_type 12 = .ok (.sipush (-1001), 3) := by decide +kernel
theorem dX8_type_15 : decode cX8_type 15 = .ok (.ireturn, 1) := by decide +kernel
theorem dX8_type_16 : decode cX8_type 16 = .ok (.aload_n 0, 1) := by decide +kernel
theorem dX8_type_17 : decode cX8_type 17 = .ok (.getfield 61, 3) := by decide +kernel
theorem dX8_type_20 : decode cX8_type 20 = .ok (.iload_n 1, 1) := by decide +kernel
theorem dX8_type_21 : decode cX8_type 21 = .ok (.i2c, 1) := by decide +kernel
theorem dX8_type_22 : decode cX8_type 22 = .ok (.invokevirtual 212, 3) := by decide +kernel
theorem dX8_type_25 : decode cX8_type 25 = .ok (.ifCond .eq 13, 3) := by decide +kernel
theorem dX8_type_28 : decode cX8_type 28 = .ok (.aload_n 0, 1) := by decide +kernel
theorem dX8_type_29 : decode cX8_type 29 = .ok (.getfield 61, 3) := by decide +kernel
theorem dX8_type_32 : decode cX8_type 32 = .ok (.getfield 216, 3) := by decide +kernel
theorem dX8_type_35 : decode cX8_type 35 = .ok (.goto 6, 3) := by decide +kernel
theorem dX8_type_38 : decode cX8_type 38 = .ok (.sipush (-1003), 3) := by decide +kernel
theorem dX8_type_41 : decode cX8_type 41 = .ok (.ireturn, 1) := by decide +kernel
theorem dX8_clearText_0 : decode cX8_clearText 0 = .ok (.aload_n 0, 1) := by decide +kernel
theorem dX8_clearText_1 : decode cX8_clearText 1 = .ok (.getfield 61, 3) := by decide +kernel
theorem dX8_clearText_4 : decode cX8_clearText 4 = .ok (.getfield 216, 3) := by decide +kernel
theorem dX8_clearText_7 : decode cX8_clearText 7 = .ok (.istore_n 1, 1) := by decide +kernel
theorem dX8_clearText_8 : decode cX8_clearText 8 = .ok (.aload_n 0, 1) := by decide +kernel
theorem dX8_clearText_9 : decode cX8_clearText 9 = .ok (.getfield 61, 3) := by decide +kernel
theorem dX8_clearText_12 : decode cX8_clearText 12 = .ok (.iconst 0, 1) := by decide +kernel
theorem dX8_clearText_13 : decode cX8_clearText 13 = .ok (.putfield 216, 3) := by decide +kernel
theorem dX8_clearText_16 : decode cX8_clearText 16 = .ok (.iload_n 1, 1) := by decide +kernel
theorem dX8_clearText_17 : decode cX8_clearText 17 = .ok (.ireturn, 1) := by decide +kernel
theorem dX8_fault_0 : decode cX8_fault 0 = .ok (.aload_n 0, 1) := by decide +kernel
theorem dX8_fault_1 : decode cX8_fault 1 = .ok (.getfield 61, 3) := by decide +kernel
theorem dX8_fault_4 : decode cX8_fault 4 = .ok (.invokevirtual 217, 3) := by decide +kernel
theorem dX8_fault_7 : decode cX8_fault 7 = .ok (.istore_n 1, 1) := by decide +kernel
theorem dX8_fault_8 : decode cX8_fault 8 = .ok (.iload_n 1, 1) := by decide +kernel
theorem dX8_fault_9 : decode cX8_fault 9 = .ok (.iconst (-1), 1) := by decide +kernel
theorem dX8_fault_10 : decode cX8_fault 10 = .ok (.if_icmp .ne 9, 3) := by decide +kernel
theorem dX8_fault_13 : decode cX8_fault 13 = .ok (.sipush (-1005), 3) := by decide +kernel
theorem dX8_fault_16 : decode cX8_fault 16 = .ok (.goto 4, 3) := by decide +kernel
theorem dX8_fault_19 : decode cX8_fault 19 = .ok (.iload_n 1, 1) := by decide +kernel
theorem dX8_fault_20 : decode cX8_fault 20 = .ok (.ireturn, 1) := by decide +kernel
theorem dX8_run_0 : decode cX8_run 0 = .ok (.aload_n 0, 1) := by decide +kernel
theorem dX8_run_1 : decode cX8_run 1 = .ok (.getfield 61, 3) := by decide +kernel
theorem dX8_run_4 : decode cX8_run 4 = .ok (.invokevirtual 217, 3) := by decide +kernel
theorem dX8_run_7 : decode cX8_run 7 = .ok (.iconst (-1), 1) := by decide +kernel
theorem dX8_run_8 : decode cX8_run 8 = .ok (.if_icmp .eq 7, 3) := by decide +kernel
theorem dX8_run_11 : decode cX8_run 11 = .ok (.sipush (-1002), 3) := by decide +kernel
theorem dX8_run_14 : decode cX8_run 14 = .ok (.ireturn, 1) := by decide +kernel
theorem dX8_run_15 : decode cX8_run 15 = .ok (.aload_n 0, 1) := by decide +kernel
theorem dX8_run_16 : decode cX8_run 16 = .ok (.getfield 54, 3) := by decide +kernel
theorem dX8_run_19 : decode cX8_run 19 = .ok (.aload_n 0, 1) := by decide +kernel
theorem dX8_run_20 : decode cX8_run 20 = .ok (.getfield 12, 3) := by decide +kernel
theorem dX8_run_23 : decode cX8_run 23 = .ok (.aload_n 0, 1) := by decide +kernel
theorem dX8_run_24 : decode cX8_run 24 = .ok (.getfield 69, 3) := by decide +kernel
theorem dX8_run_27 : decode cX8_run 27 = .ok (.invokevirtual 84, 3) := by decide +kernel
theorem dX8_run_30 : decode cX8_run 30 = .ok (.iconst 0, 1) := by decide +kernel
theorem dX8_run_31 : decode cX8_run 31 = .ok (.istore_n 1, 1) := by decide +kernel
theorem dX8_run_32 : decode cX8_run 32 = .ok (.iconst 0, 1) := by decide +kernel
theorem dX8_run_33 : decode cX8_run 33 = .ok (.istore_n 2, 1) := by decide +kernel
theorem dX8_run_34 : decode cX8_run 34 = .ok (.iconst 0, 1) := by decide +kernel
theorem dX8_run_35 : decode cX8_run 35 = .ok (.istore_n 3, 1) := by decide +kernel
theorem dX8_run_36 : decode cX8_run 36 = .ok (.iload_n 3, 1) := by decide +kernel
theorem dX8_run_37 : decode cX8_run 37 = .ok (.bipush 60, 2) := by decide +kernel
theorem dX8_run_39 : decode cX8_run 39 = .ok (.if_icmp .ge 46, 3) := by decide +kernel
theorem dX8_run_42 : decode cX8_run 42 = .ok (.iload_n 2, 1) := by decide +kernel
theorem dX8_run_43 : decode cX8_run 43 = .ok (.aload_n 0, 1) := by decide +kernel
theorem dX8_run_44 : decode cX8_run 44 = .ok (.getfield 61, 3) := by decide +kernel
theorem dX8_run_47 : decode cX8_run 47 = .ok (.getfield 216, 3) := by decide +kernel
theorem dX8_run_50 : decode cX8_run 50 = .ok (.if_icmp .ge 35, 3) := by decide +kernel
theorem dX8_run_53 : decode cX8_run 53 = .ok (.aload_n 0, 1) := by decide +kernel
theorem dX8_run_54 : decode cX8_run 54 = .ok (.getfield 61, 3) := by decide +kernel
theorem dX8_run_57 : decode cX8_run 57 = .ok (.iload_n 2, 1) := by decide +kernel
theorem dX8_run_58 : decode cX8_run 58 = .ok (.invokevirtual 221, 3) := by decide +kernel
theorem dX8_run_61 : decode cX8_run 61 = .ok (.istore_n 2, 1) := by decide +kernel
theorem dX8_run_62 : decode cX8_run 62 = .ok (.iload_n 2, 1) := by decide +kernel
theorem dX8_run_63 : decode cX8_run 63 = .ok (.iconst (-1), 1) := by decide +kernel
theorem dX8_run_64 : decode cX8_run 64 = .ok (.if_icmp .eq 10, 3) := by decide +kernel
theorem dX8_run_67 : decode cX8_run 67 = .ok (.aload_n 0, 1) := by decide +kernel
theorem dX8_run_68 : decode cX8_run 68 = .ok (.invokevirtual 224, 3) := by decide +kernel
theorem dX8_run_71 : decode cX8_run 71 = .ok (.ifCond .ge 5, 3) := by decide +kernel
theorem dX8_run_74 : decode cX8_run 74 = .ok (.iload_n 1, 1) := by decide +kernel
theorem dX8_run_75 : decode cX8_run 75 = .ok (.ireturn, 1) := by decide +kernel
theorem dX8_run_76 : decode cX8_run 76 = .ok (.iinc 1 1, 3) := by decide +kernel
theorem dX8_run_79 : decode cX8_run 79 = .ok (.iinc 3 1, 3) := by decide +kernel
theorem dX8_run_82 : decode cX8_run 82 = .ok (.goto (-46), 3) := by decide +kernel
theorem dX8_run_85 : decode cX8_run 85 = .ok (.iload_n 1, 1) := by decide +kernel
theorem dX8_run_86 : decode cX8_run 86 = .ok (.ireturn, 1) := by decide +kernel
theorem dX8_isBoardSize_0 : decode cX8_isBoardSize 0 = .ok (.iload_n 0, 1) := by decide +kernel
theorem dX8_isBoardSize_1 : decode cX8_isBoardSize 1 = .ok (.iconst 1, 1) := by decide +kernel
theorem dX8_isBoardSize_2 : decode cX8_isBoardSize 2 = .ok (.if_icmp .lt 30, 3) := by decide +kernel
theorem dX8_isBoardSize_5 : decode cX8_isBoardSize 5 = .ok (.iload_n 0, 1) := by decide +kernel
theorem dX8_isBoardSize_6 : decode cX8_isBoardSize 6 = .ok (.iconst 5, 1) := by decide +kernel
theorem dX8_isBoardSize_7 : decode cX8_isBoardSize 7 = .ok (.if_icmp .gt 25, 3) := by decide +kernel
theorem dX8_isBoardSize_10 : decode cX8_isBoardSize 10 = .ok (.iload_n 1, 1) := by decide +kernel
theorem dX8_isBoardSize_11 : decode cX8_isBoardSize 11 = .ok (.iconst 1, 1) := by decide +kernel
theorem dX8_isBoardSize_12 : decode cX8_isBoardSize 12 = .ok (.if_icmp .lt 20, 3) := by decide +kernel
theorem dX8_isBoardSize_15 : decode cX8_isBoardSize 15 = .ok (.iload_n 1, 1) := by decide +kernel
theorem dX8_isBoardSize_16 : decode cX8_isBoardSize 16 = .ok (.iconst 5, 1) := by decide +kernel
theorem dX8_isBoardSize_17 : decode cX8_isBoardSize 17 = .ok (.if_icmp .gt 15, 3) := by decide +kernel
theorem dX8_isBoardSize_20 : decode cX8_isBoardSize 20 = .ok (.iload_n 0, 1) := by decide +kernel
theorem dX8_isBoardSize_21 : decode cX8_isBoardSize 21 = .ok (.iload_n 1, 1) := by decide +kernel
theorem dX8_isBoardSize_22 : decode cX8_isBoardSize 22 = .ok (.imul, 1) := by decide +kernel
theorem dX8_isBoardSize_23 : decode cX8_isBoardSize 23 = .ok (.bipush 15, 2) := by decide +kernel
theorem dX8_isBoardSize_25 : decode cX8_isBoardSize 25 = .ok (.if_icmp .gt 7, 3) := by decide +kernel
theorem dX8_isBoardSize_28 : decode cX8_isBoardSize 28 = .ok (.iconst 1, 1) := by decide +kernel
theorem dX8_isBoardSize_29 : decode cX8_isBoardSize 29 = .ok (.goto 4, 3) := by decide +kernel
theorem dX8_isBoardSize_32 : decode cX8_isBoardSize 32 = .ok (.iconst 0, 1) := by decide +kernel
theorem dX8_isBoardSize_33 : decode cX8_isBoardSize 33 = .ok (.ireturn, 1) := by decide +kernel
theorem dX8_isContents_0 : decode cX8_isContents 0 = .ok (.iload_n 0, 1) := by decide +kernel
theorem dX8_isContents_1 : decode cX8_isContents 1 = .ok (.ifCond .lt 12, 3) := by decide +kernel
theorem dX8_isContents_4 : decode cX8_isContents 4 = .ok (.iload_n 0, 1) := by decide +kernel
theorem dX8_isContents_5 : decode cX8_isContents 5 = .ok (.iconst 3, 1) := by decide +kernel
theorem dX8_isContents_6 : decode cX8_isContents 6 = .ok (.if_icmp .gt 7, 3) := by decide +kernel
theorem dX8_isContents_9 : decode cX8_isContents 9 = .ok (.iconst 1, 1) := by decide +kernel
theorem dX8_isContents_10 : decode cX8_isContents 10 = .ok (.goto 4, 3) := by decide +kernel
theorem dX8_isContents_13 : decode cX8_isContents 13 = .ok (.iconst 0, 1) := by decide +kernel
theorem dX8_isContents_14 : decode cX8_isContents 14 = .ok (.ireturn, 1) := by decide +kernel
theorem dX8_isSide_0 : decode cX8_isSide 0 = .ok (.iload_n 0, 1) := by decide +kernel
theorem dX8_isSide_1 : decode cX8_isSide 1 = .ok (.iconst 1, 1) := by decide +kernel
theorem dX8_isSide_2 : decode cX8_isSide 2 = .ok (.if_icmp .eq 8, 3) := by decide +kernel
theorem dX8_isSide_5 : decode cX8_isSide 5 = .ok (.iload_n 0, 1) := by decide +kernel
theorem dX8_isSide_6 : decode cX8_isSide 6 = .ok (.iconst 2, 1) := by decide +kernel
theorem dX8_isSide_7 : decode cX8_isSide 7 = .ok (.if_icmp .ne 7, 3) := by decide +kernel
theorem dX8_isSide_10 : decode cX8_isSide 10 = .ok (.iconst 1, 1) := by decide +kernel
theorem dX8_isSide_11 : decode cX8_isSide 11 = .ok (.goto 4, 3) := by decide +kernel
theorem dX8_isSide_14 : decode cX8_isSide 14 = .ok (.iconst 0, 1) := by decide +kernel
theorem dX8_isSide_15 : decode cX8_isSide 15 = .ok (.ireturn, 1) := by decide +kernel
theorem dX8_otherSide_0 : decode cX8_otherSide 0 = .ok (.iconst 3, 1) := by decide +kernel
theorem dX8_otherSide_1 : decode cX8_otherSide 1 = .ok (.iload_n 0, 1) := by decide +kernel
theorem dX8_otherSide_2 : decode cX8_otherSide 2 = .ok (.isub, 1) := by decide +kernel
theorem dX8_otherSide_3 : decode cX8_otherSide 3 = .ok (.ireturn, 1) := by decide +kernel
theorem dX8_maskOf_0 : decode cX8_maskOf 0 = .ok (.iload_n 1, 1) := by decide +kernel
theorem dX8_maskOf_1 : decode cX8_maskOf 1 = .ok (.ifCond .ne 20, 3) := by decide +kernel
theorem dX8_maskOf_4 : decode cX8_maskOf 4 = .ok (.aload_n 0, 1) := by decide +kernel
theorem dX8_maskOf_5 : decode cX8_maskOf 5 = .ok (.getfield 69, 3) := by decide +kernel
theorem dX8_maskOf_8 : decode cX8_maskOf 8 = .ok (.aload_n 0, 1) := by decide +kernel
theorem dX8_maskOf_9 : decode cX8_maskOf 9 = .ok (.getfield 12, 3) := by decide +kernel
theorem dX8_maskOf_12 : decode cX8_maskOf 12 = .ok (.getfield 227, 3) := by decide +kernel
theorem dX8_maskOf_15 : decode cX8_maskOf 15 = .ok (.invokestatic 230, 3) := by decide +kernel
theorem dX8_maskOf_18 : decode cX8_maskOf 18 = .ok (.goto 11, 3) := by decide +kernel
theorem dX8_maskOf_21 : decode cX8_maskOf 21 = .ok (.aload_n 0, 1) := by decide +kernel
theorem dX8_maskOf_22 : decode cX8_maskOf 22 = .ok (.getfield 69, 3) := by decide +kernel
theorem dX8_maskOf_25 : decode cX8_maskOf 25 = .ok (.iload_n 1, 1) := by decide +kernel
theorem dX8_maskOf_26 : decode cX8_maskOf 26 = .ok (.invokestatic 233, 3) := by decide +kernel
theorem dX8_maskOf_29 : decode cX8_maskOf 29 = .ok (.ireturn, 1) := by decide +kernel
theorem dX8_putContents_0 : decode cX8_putContents 0 = .ok (.aload_n 0, 1) := by decide +kernel
theorem dX8_putContents_1 : decode cX8_putContents 1 = .ok (.getfield 12, 3) := by decide +kernel
theorem dX8_putContents_4 : decode cX8_putContents 4 = .ok (.iload_n 1, 1) := by decide +kernel
theorem dX8_putContents_5 : decode cX8_putContents 5 = .ok (.invokevirtual 95, 3) := by decide +kernel
theorem dX8_putContents_8 : decode cX8_putContents 8 = .ok (.ifCond .eq 10, 3) := by decide +kernel
theorem dX8_putContents_11 : decode cX8_putContents 11 = .ok (.iload_n 2, 1) := by decide +kernel
theorem dX8_putContents_12 : decode cX8_putContents 12 = .ok (.invokestatic 105, 3) := by decide +kernel
theorem dX8_putContents_15 : decode cX8_putContents 15 = .ok (.ifCond .ne 7, 3) := by decide +kernel
theorem dX8_putContents_18 : decode cX8_putContents 18 = .ok (.sipush (-1001), 3) := by decide +kernel
theorem dX8_putContents_21 : decode cX8_putContents 21 = .ok (.ireturn, 1) := by decide +kernel
theorem dX8_putContents_22 : decode cX8_putContents 22 = .ok (.aload_n 0, 1) := by decide +kernel
theorem dX8_putContents_23 : decode cX8_putContents 23 = .ok (.getfield 69, 3) := by decide +kernel
theorem dX8_putContents_26 : decode cX8_putContents 26 = .ok (.iload_n 1, 1) := by decide +kernel
theorem dX8_putContents_27 : decode cX8_putContents 27 = .ok (.invokestatic 99, 3) := by decide +kernel
theorem dX8_putContents_30 : decode cX8_putContents 30 = .ok (.istore_n 3, 1) := by decide +kernel
theorem dX8_putContents_31 : decode cX8_putContents 31 = .ok (.iload_n 2, 1) := by decide +kernel
theorem dX8_putContents_32 : decode cX8_putContents 32 = .ok (.invokestatic 138, 3) := by decide +kernel
theorem dX8_putContents_35 : decode cX8_putContents 35 = .ok (.ifCond .eq 12, 3) := by decide +kernel
theorem dX8_putContents_38 : decode cX8_putContents 38 = .ok (.iload_n 2, 1) := by decide +kernel
theorem dX8_putContents_39 : decode cX8_putContents 39 = .ok (.iload_n 3, 1) := by decide +kernel
theorem dX8_putContents_40 : decode cX8_putContents 40 = .ok (.if_icmp .eq 7, 3) := by decide +kernel
theorem dX8_putContents_43 : decode cX8_putContents 43 = .ok (.iconst 1, 1) := by decide +kernel
theorem dX8_putContents_44 : decode cX8_putContents 44 = .ok (.goto 4, 3) := by decide +kernel
theorem dX8_putContents_47 : decode cX8_putContents 47 = .ok (.iconst 0, 1) := by decide +kernel
theorem dX8_putContents_48 : decode cX8_putContents 48 = .ok (.istore 4, 2) := by decide +kernel
theorem dX8_putContents_50 : decode cX8_putContents 50 = .ok (.iload 4, 2) := by decide +kernel
theorem dX8_putContents_52 : decode cX8_putContents 52 = .ok (.ifCond .eq 19, 3) := by decide +kernel
theorem dX8_putContents_55 : decode cX8_putContents 55 = .ok (.aload_n 0, 1) := by decide +kernel
theorem dX8_putContents_56 : decode cX8_putContents 56 = .ok (.iload_n 2, 1) := by decide +kernel
theorem dX8_putContents_57 : decode cX8_putContents 57 = .ok (.invokevirtual 108, 3) := by decide +kernel
theorem dX8_putContents_60 : decode cX8_putContents 60 = .ok (.invokestatic 112, 3) := by decide +kernel
theorem dX8_putContents_63 : decode cX8_putContents 63 = .ok (.iconst 3, 1) := by decide +kernel
theorem dX8_putContents_64 : decode cX8_putContents 64 = .ok (.if_icmp .lt 7, 3) := by decide +kernel
theorem dX8_putContents_67 : decode cX8_putContents 67 = .ok (.sipush (-1003), 3) := by decide +kernel
theorem dX8_putContents_70 : decode cX8_putContents 70 = .ok (.ireturn, 1) := by decide +kernel
theorem dX8_putContents_71 : decode cX8_putContents 71 = .ok (.aload_n 0, 1) := by decide +kernel
theorem dX8_putContents_72 : decode cX8_putContents 72 = .ok (.aload_n 0, 1) := by decide +kernel
theorem dX8_putContents_73 : decode cX8_putContents 73 = .ok (.getfield 69, 3) := by decide +kernel
theorem dX8_putContents_76 : decode cX8_putContents 76 = .ok (.iload_n 1, 1) := by decide +kernel
theorem dX8_putContents_77 : decode cX8_putContents 77 = .ok (.iload_n 2, 1) := by decide +kernel
theorem dX8_putContents_78 : decode cX8_putContents 78 = .ok (.invokestatic 236, 3) := by decide +kernel
theorem dX8_putContents_81 : decode cX8_putContents 81 = .ok (.putfield 69, 3) := by decide +kernel
theorem dX8_putContents_84 : decode cX8_putContents 84 = .ok (.iload_n 3, 1) := by decide +kernel
theorem dX8_putContents_85 : decode cX8_putContents 85 = .ok (.ireturn, 1) := by decide +kernel
theorem dX8_makeMove_0 : decode cX8_makeMove 0 = .ok (.iload_n 1, 1) := by decide +kernel
theorem dX8_makeMove_1 : decode cX8_makeMove 1 = .ok (.invokestatic 138, 3) := by decide +kernel
theorem dX8_makeMove_4 : decode cX8_makeMove 4 = .ok (.ifCond .eq 37, 3) := by decide +kernel
theorem dX8_makeMove_7 : decode cX8_makeMove 7 = .ok (.aload_n 0, 1) := by decide +kernel
theorem dX8_makeMove_8 : decode cX8_makeMove 8 = .ok (.getfield 12, 3) := by decide +kernel
theorem dX8_makeMove_11 : decode cX8_makeMove 11 = .ok (.iload_n 2, 1) := by decide +kernel
theorem dX8_makeMove_12 : decode cX8_makeMove 12 = .ok (.invokevirtual 95, 3) := by decide +kernel
theorem dX8_makeMove_15 : decode cX8_makeMove 15 = .ok (.ifCond .eq 26, 3) := by decide +kernel
theorem dX8_makeMove_18 : decode cX8_makeMove 18 = .ok (.aload_n 0, 1) := by decide +kernel
theorem dX8_makeMove_19 : decode cX8_makeMove 19 = .ok (.getfield 12, 3) := by decide +kernel
theorem dX8_makeMove_22 : decode cX8_makeMove 22 = .ok (.iload_n 3, 1) := by decide +kernel
theorem dX8_makeMove_23 : decode cX8_makeMove 23 = .ok (.invokevirtual 95, 3) := by decide +kernel
theorem dX8_makeMove_26 : decode cX8_makeMove 26 = .ok (.ifCond .eq 15, 3) := by decide +kernel
theorem dX8_makeMove_29 : decode cX8_makeMove 29 = .ok (.aload_n 0, 1) := by decide +kernel
theorem dX8_makeMove_30 : decode cX8_makeMove 30 = .ok (.getfield 12, 3) := by decide +kernel
theorem dX8_makeMove_33 : decode cX8_makeMove 33 = .ok (.iload 4, 2) := by decide +kernel
theorem dX8_makeMove_35 : decode cX8_makeMove 35 = .ok (.invokevirtual 95, 3) := by decide +kernel
theorem dX8_makeMove_38 : decode cX8_makeMove 38 = .ok (.ifCond .ne 7, 3) := by decide +kernel
theorem dX8_makeMove_41 : decode cX8_makeMove 41 = .ok (.sipush (-1001), 3) := by decide +kernel
theorem dX8_makeMove_44 : decode cX8_makeMove 44 = .ok (.ireturn, 1) := by decide +kernel
theorem dX8_makeMove_45 : decode cX8_makeMove 45 = .ok (.aload_n 0, 1) := by decide +kernel
theorem dX8_makeMove_46 : decode cX8_makeMove 46 = .ok (.getfield 21, 3) := by decide +kernel
theorem dX8_makeMove_49 : decode cX8_makeMove 49 = .ok (.aload_n 0, 1) := by decide +kernel
theorem dX8_makeMove_50 : decode cX8_makeMove 50 = .ok (.getfield 69, 3) := by decide +kernel
theorem dX8_makeMove_53 : decode cX8_makeMove 53 = .ok (.iload_n 1, 1) := by decide +kernel
theorem dX8_makeMove_54 : decode cX8_makeMove 54 = .ok (.invokevirtual 141, 3) := by decide +kernel
theorem dX8_makeMove_57 : decode cX8_makeMove 57 = .ok (.aload_n 0, 1) := by decide +kernel
theorem dX8_makeMove_58 : decode cX8_makeMove 58 = .ok (.getfield 21, 3) := by decide +kernel
theorem dX8_makeMove_61 : decode cX8_makeMove 61 = .ok (.iload_n 2, 1) := by decide +kernel
theorem dX8_makeMove_62 : decode cX8_makeMove 62 = .ok (.iload_n 3, 1) := by decide +kernel
theorem dX8_makeMove_63 : decode cX8_makeMove 63 = .ok (.iload 4, 2) := by decide +kernel
theorem dX8_makeMove_65 : decode cX8_makeMove 65 = .ok (.invokevirtual 239, 3) := by decide +kernel
theorem dX8_makeMove_68 : decode cX8_makeMove 68 = .ok (.istore 5, 2) := by decide +kernel
theorem dX8_makeMove_70 : decode cX8_makeMove 70 = .ok (.iload 5, 2) := by decide +kernel
theorem dX8_makeMove_72 : decode cX8_makeMove 72 = .ok (.iconst (-1), 1) := by decide +kernel
theorem dX8_makeMove_73 : decode cX8_makeMove 73 = .ok (.if_icmp .ne 7, 3) := by decide +kernel
theorem dX8_makeMove_76 : decode cX8_makeMove 76 = .ok (.sipush (-1002), 3) := by decide +kernel
theorem dX8_makeMove_79 : decode cX8_makeMove 79 = .ok (.ireturn, 1) := by decide +kernel
theorem dX8_makeMove_80 : decode cX8_makeMove 80 = .ok (.aload_n 0, 1) := by decide +kernel
theorem dX8_makeMove_81 : decode cX8_makeMove 81 = .ok (.aload_n 0, 1) := by decide +kernel
theorem dX8_makeMove_82 : decode cX8_makeMove 82 = .ok (.getfield 21, 3) := by decide +kernel
theorem dX8_makeMove_85 : decode cX8_makeMove 85 = .ok (.aload_n 0, 1) := by decide +kernel
theorem dX8_makeMove_86 : decode cX8_makeMove 86 = .ok (.getfield 69, 3) := by decide +kernel
theorem dX8_makeMove_89 : decode cX8_makeMove 89 = .ok (.iload_n 1, 1) := by decide +kernel
theorem dX8_makeMove_90 : decode cX8_makeMove 90 = .ok (.iload 5, 2) := by decide +kernel
theorem dX8_makeMove_92 : decode cX8_makeMove 92 = .ok (.invokevirtual 199, 3) := by decide +kernel
theorem dX8_makeMove_95 : decode cX8_makeMove 95 = .ok (.putfield 69, 3) := by decide +kernel
theorem dX8_makeMove_98 : decode cX8_makeMove 98 = .ok (.aload_n 0, 1) := by decide +kernel
theorem dX8_makeMove_99 : decode cX8_makeMove 99 = .ok (.getfield 21, 3) := by decide +kernel
theorem dX8_makeMove_102 : decode cX8_makeMove 102 = .ok (.aload_n 0, 1) := by decide +kernel
theorem dX8_makeMove_103 : decode cX8_makeMove 103 = .ok (.getfield 69, 3) := by decide +kernel
theorem dX8_makeMove_106 : decode cX8_makeMove 106 = .ok (.iload_n 1, 1) := by decide +kernel
theorem dX8_makeMove_107 : decode cX8_makeMove 107 = .ok (.invokestatic 176, 3) := by decide +kernel
theorem dX8_makeMove_110 : decode cX8_makeMove 110 = .ok (.invokevirtual 141, 3) := by decide +kernel
theorem dX8_makeMove_113 : decode cX8_makeMove 113 = .ok (.aload_n 0, 1) := by decide +kernel
theorem dX8_makeMove_114 : decode cX8_makeMove 114 = .ok (.getfield 21, 3) := by decide +kernel
theorem dX8_makeMove_117 : decode cX8_makeMove 117 = .ok (.getfield 145, 3) := by decide +kernel
theorem dX8_makeMove_120 : decode cX8_makeMove 120 = .ok (.ireturn, 1) := by decide +kernel
theorem dX8_executeCommand_0 : decode cX8_executeCommand 0 = .ok (.aload_n 0, 1) := by decide +kernel
theorem dX8_executeCommand_1 : decode cX8_executeCommand 1 = .ok (.getfield 61, 3) := by decide +kernel
theorem dX8_executeCommand_4 : decode cX8_executeCommand 4 = .ok (.getfield 242, 3) := by decide +kernel
theorem dX8_executeCommand_7 : decode cX8_executeCommand 7 = .ok (.astore_n 1, 1) := by decide +kernel
theorem dX8_executeCommand_8 : decode cX8_executeCommand 8 = .ok (.aload_n 0, 1) := by decide +kernel
theorem dX8_executeCommand_9 : decode cX8_executeCommand 9 = .ok (.getfield 61, 3) := by decide +kernel
theorem dX8_executeCommand_12 : decode cX8_executeCommand 12 = .ok (.getfield 245, 3) := by decide +kernel
theorem dX8_executeCommand_15 : decode cX8_executeCommand 15 = .ok (.iconst 5, 1) := by decide +kernel
theorem dX8_executeCommand_16 : decode cX8_executeCommand 16 = .ok (.if_icmp .ne 5, 3) := by decide +kernel
theorem dX8_executeCommand_19 : decode cX8_executeCommand 19 = .ok (.iconst 0, 1) := by decide +kernel
theorem dX8_executeCommand_20 : decode cX8_executeCommand 20 = .ok (.ireturn, 1) := by decide +kernel
theorem dX8_executeCommand_21 : decode cX8_executeCommand 21 = .ok (.aload_n 0, 1) := by decide +kernel
theorem dX8_executeCommand_22 : decode cX8_executeCommand 22 = .ok (.getfield 61, 3) := by decide +kernel
theorem dX8_executeCommand_25 : decode cX8_executeCommand 25 = .ok (.getfield 245, 3) := by decide +kernel
theorem dX8_executeCommand_28 : decode cX8_executeCommand 28 = .ok (.iconst 4, 1) := by decide +kernel
theorem dX8_executeCommand_29 : decode cX8_executeCommand 29 = .ok (.if_icmp .ne 20, 3) := by decide +kernel
theorem dX8_executeCommand_32 : decode cX8_executeCommand 32 = .ok (.aload_n 0, 1) := by decide +kernel
theorem dX8_executeCommand_33 : decode cX8_executeCommand 33 = .ok (.aload_n 1, 1) := by decide +kernel
theorem dX8_executeCommand_34 : decode cX8_executeCommand 34 = .ok (.iconst 0, 1) := by decide +kernel
theorem dX8_executeCommand_35 : decode cX8_executeCommand 35 = .ok (.iaload, 1) := by decide +kernel
theorem dX8_executeCommand_36 : decode cX8_executeCommand 36 = .ok (.aload_n 1, 1) := by decide +kernel
theorem dX8_executeCommand_37 : decode cX8_executeCommand 37 = .ok (.iconst 1, 1) := by decide +kernel
theorem dX8_executeCommand_38 : decode cX8_executeCommand 38 = .ok (.iaload, 1) := by decide +kernel
theorem dX8_executeCommand_39 : decode cX8_executeCommand 39 = .ok (.aload_n 1, 1) := by decide +kernel
theorem dX8_executeCommand_40 : decode cX8_executeCommand 40 = .ok (.iconst 2, 1) := by decide +kernel
theorem dX8_executeCommand_41 : decode cX8_executeCommand 41 = .ok (.iaload, 1) := by decide +kernel
theorem dX8_executeCommand_42 : decode cX8_executeCommand 42 = .ok (.aload_n 1, 1) := by decide +kernel
theorem dX8_executeCommand_43 : decode cX8_executeCommand 43 = .ok (.iconst 3, 1) := by decide +kernel
theorem dX8_executeCommand_44 : decode cX8_executeCommand 44 = .ok (.iaload, 1) := by decide +kernel
theorem dX8_executeCommand_45 : decode cX8_executeCommand 45 = .ok (.invokevirtual 134, 3) := by decide +kernel
theorem dX8_executeCommand_48 : decode cX8_executeCommand 48 = .ok (.ireturn, 1) := by decide +kernel
theorem dX8_executeCommand_49 : decode cX8_executeCommand 49 = .ok (.aload_n 0, 1) := by decide +kernel
theorem dX8_executeCommand_50 : decode cX8_executeCommand 50 = .ok (.aload_n 1, 1) := by decide +kernel
theorem dX8_executeCommand_51 : decode cX8_executeCommand 51 = .ok (.iconst 0, 1) := by decide +kernel
theorem dX8_executeCommand_52 : decode cX8_executeCommand 52 = .ok (.iaload, 1) := by decide +kernel
theorem dX8_executeCommand_53 : decode cX8_executeCommand 53 = .ok (.aload_n 0, 1) := by decide +kernel
theorem dX8_executeCommand_54 : decode cX8_executeCommand 54 = .ok (.getfield 61, 3) := by decide +kernel
theorem dX8_executeCommand_57 : decode cX8_executeCommand 57 = .ok (.getfield 245, 3) := by decide +kernel
theorem dX8_executeCommand_60 : decode cX8_executeCommand 60 = .ok (.invokevirtual 91, 3) := by decide +kernel
theorem dX8_executeCommand_63 : decode cX8_executeCommand 63 = .ok (.ireturn, 1) := by decide +kernel
theorem dX8_divideBoard_0 : decode cX8_divideBoard 0 = .ok (.aload_n 0, 1) := by decide +kernel
theorem dX8_divideBoard_1 : decode cX8_divideBoard 1 = .ok (.getfield 40, 3) := by decide +kernel
theorem dX8_divideBoard_4 : decode cX8_divideBoard 4 = .ok (.aload_n 0, 1) := by decide +kernel
theorem dX8_divideBoard_5 : decode cX8_divideBoard 5 = .ok (.getfield 12, 3) := by decide +kernel
theorem dX8_divideBoard_8 : decode cX8_divideBoard 8 = .ok (.aload_n 0, 1) := by decide +kernel
theorem dX8_divideBoard_9 : decode cX8_divideBoard 9 = .ok (.getfield 12, 3) := by decide +kernel
theorem dX8_divideBoard_12 : decode cX8_divideBoard 12 = .ok (.getfield 227, 3) := by decide +kernel
theorem dX8_divideBoard_15 : decode cX8_divideBoard 15 = .ok (.aload_n 0, 1) := by decide +kernel
theorem dX8_divideBoard_16 : decode cX8_divideBoard 16 = .ok (.iconst 3, 1) := by decide +kernel
theorem dX8_divideBoard_17 : decode cX8_divideBoard 17 = .ok (.invokevirtual 108, 3) := by decide +kernel
theorem dX8_divideBoard_20 : decode cX8_divideBoard 20 = .ok (.iconst (-1), 1) := by decide +kernel
theorem dX8_divideBoard_21 : decode cX8_divideBoard 21 = .ok (.ixor, 1) := by decide +kernel
theorem dX8_divideBoard_22 : decode cX8_divideBoard 22 = .ok (.iand, 1) := by decide +kernel
theorem dX8_divideBoard_23 : decode cX8_divideBoard 23 = .ok (.invokevirtual 248, 3) := by decide +kernel
theorem dX8_divideBoard_26 : decode cX8_divideBoard 26 = .ok (.return_, 1) := by decide +kernel
theorem dX8_kindOf_0 : decode cX8_kindOf 0 = .ok (.iconst 0, 1) := by decide +kernel
theorem dX8_kindOf_1 : decode cX8_kindOf 1 = .ok (.istore_n 2, 1) := by decide +kernel
theorem dX8_kindOf_2 : decode cX8_kindOf 2 = .ok (.iload_n 1, 1) := by decide +kernel
theorem dX8_kindOf_3 : decode cX8_kindOf 3 = .ok (.aload_n 0, 1) := by decide +kernel
theorem dX8_kindOf_4 : decode cX8_kindOf 4 = .ok (.iconst 1, 1) := by decide +kernel
theorem dX8_kindOf_5 : decode cX8_kindOf 5 = .ok (.invokevirtual 108, 3) := by decide +kernel
theorem dX8_kindOf_8 : decode cX8_kindOf 8 = .ok (.iand, 1) := by decide +kernel
theorem dX8_kindOf_9 : decode cX8_kindOf 9 = .ok (.ifCond .eq 6, 3) := by decide +kernel
theorem dX8_kindOf_12 : decode cX8_kindOf 12 = .ok (.iinc 2 1, 3) := by decide +kernel
theorem dX8_kindOf_15 : decode cX8_kindOf 15 = .ok (.iload_n 1, 1) := by decide +kernel
theorem dX8_kindOf_16 : decode cX8_kindOf 16 = .ok (.aload_n 0, 1) := by decide +kernel
theorem dX8_kindOf_17 : decode cX8_kindOf 17 = .ok (.iconst 2, 1) := by decide +kernel
theorem dX8_kindOf_18 : decode cX8_kindOf 18 = .ok (.invokevirtual 108, 3) := by decide +kernel
theorem dX8_kindOf_21 : decode cX8_kindOf 21 = .ok (.iand, 1) := by decide +kernel
theorem dX8_kindOf_22 : decode cX8_kindOf 22 = .ok (.ifCond .eq 6, 3) := by decide +kernel
theorem dX8_kindOf_25 : decode cX8_kindOf 25 = .ok (.iinc 2 2, 3) := by decide +kernel
theorem dX8_kindOf_28 : decode cX8_kindOf 28 = .ok (.iload_n 2, 1) := by decide +kernel
theorem dX8_kindOf_29 : decode cX8_kindOf 29 = .ok (.ireturn, 1) := by decide +kernel
theorem dX8_isShared_0 : decode cX8_isShared 0 = .ok (.aload_n 0, 1) := by decide +kernel
theorem dX8_isShared_1 : decode cX8_isShared 1 = .ok (.iload_n 1, 1) := by decide +kernel
theorem dX8_isShared_2 : decode cX8_isShared 2 = .ok (.invokevirtual 163, 3) := by decide +kernel
theorem dX8_isShared_5 : decode cX8_isShared 5 = .ok (.iconst 3, 1) := by decide +kernel
theorem dX8_isShared_6 : decode cX8_isShared 6 = .ok (.if_icmp .ne 7, 3) := by decide +kernel
theorem dX8_isShared_9 : decode cX8_isShared 9 = .ok (.iconst 1, 1) := by decide +kernel
theorem dX8_isShared_10 : decode cX8_isShared 10 = .ok (.goto 4, 3) := by decide +kernel
theorem dX8_isShared_13 : decode cX8_isShared 13 = .ok (.iconst 0, 1) := by decide +kernel
theorem dX8_isShared_14 : decode cX8_isShared 14 = .ok (.ireturn, 1) := by decide +kernel
theorem dX8_aloneOf_0 : decode cX8_aloneOf 0 = .ok (.iload_n 1, 1) := by decide +kernel
theorem dX8_aloneOf_1 : decode cX8_aloneOf 1 = .ok (.aload_n 0, 1) := by decide +kernel
theorem dX8_aloneOf_2 : decode cX8_aloneOf 2 = .ok (.iconst 1, 1) := by decide +kernel
theorem dX8_aloneOf_3 : decode cX8_aloneOf 3 = .ok (.invokevirtual 108, 3) := by decide +kernel
theorem dX8_aloneOf_6 : decode cX8_aloneOf 6 = .ok (.iand, 1) := by decide +kernel
theorem dX8_aloneOf_7 : decode cX8_aloneOf 7 = .ok (.iload_n 1, 1) := by decide +kernel
theorem dX8_aloneOf_8 : decode cX8_aloneOf 8 = .ok (.aload_n 0, 1) := by decide +kernel
theorem dX8_aloneOf_9 : decode cX8_aloneOf 9 = .ok (.iconst 2, 1) := by decide +kernel
theorem dX8_aloneOf_10 : decode cX8_aloneOf 10 = .ok (.invokevirtual 108, 3) := by decide +kernel
theorem dX8_aloneOf_13 : decode cX8_aloneOf 13 = .ok (.iand, 1) := by decide +kernel
theorem dX8_aloneOf_14 : decode cX8_aloneOf 14 = .ok (.aload_n 0, 1) := by decide +kernel
theorem dX8_aloneOf_15 : decode cX8_aloneOf 15 = .ok (.getfield 12, 3) := by decide +kernel
theorem dX8_aloneOf_18 : decode cX8_aloneOf 18 = .ok (.getfield 227, 3) := by decide +kernel
theorem dX8_aloneOf_21 : decode cX8_aloneOf 21 = .ok (.iload_n 1, 1) := by decide +kernel
theorem dX8_aloneOf_22 : decode cX8_aloneOf 22 = .ok (.iconst (-1), 1) := by decide +kernel
theorem dX8_aloneOf_23 : decode cX8_aloneOf 23 = .ok (.ixor, 1) := by decide +kernel
theorem dX8_aloneOf_24 : decode cX8_aloneOf 24 = .ok (.iand, 1) := by decide +kernel
theorem dX8_aloneOf_25 : decode cX8_aloneOf 25 = .ok (.invokestatic 252, 3) := by decide +kernel
theorem dX8_aloneOf_28 : decode cX8_aloneOf 28 = .ok (.lreturn, 1) := by decide +kernel
theorem dX8_askValue_0 : decode cX8_askValue 0 = .ok (.aload_n 0, 1) := by decide +kernel
theorem dX8_askValue_1 : decode cX8_askValue 1 = .ok (.iload_n 1, 1) := by decide +kernel
theorem dX8_askValue_2 : decode cX8_askValue 2 = .ok (.invokevirtual 163, 3) := by decide +kernel
theorem dX8_askValue_5 : decode cX8_askValue 5 = .ok (.istore_n 2, 1) := by decide +kernel
theorem dX8_askValue_6 : decode cX8_askValue 6 = .ok (.iload_n 2, 1) := by decide +kernel
theorem dX8_askValue_7 : decode cX8_askValue 7 = .ok (.invokestatic 138, 3) := by decide +kernel
theorem dX8_askValue_10 : decode cX8_askValue 10 = .ok (.ifCond .ne 5, 3) := by decide +kernel
theorem dX8_askValue_13 : decode cX8_askValue 13 = .ok (.iconst 0, 1) := by decide +kernel
theorem dX8_askValue_14 : decode cX8_askValue 14 = .ok (.ireturn, 1) := by decide +kernel
theorem dX8_askValue_15 : decode cX8_askValue 15 = .ok (.aload_n 0, 1) := by decide +kernel
theorem dX8_askValue_16 : decode cX8_askValue 16 = .ok (.iload_n 1, 1) := by decide +kernel
theorem dX8_askValue_17 : decode cX8_askValue 17 = .ok (.invokevirtual 195, 3) := by decide +kernel
theorem dX8_askValue_20 : decode cX8_askValue 20 = .ok (.lstore_n 3, 1) := by decide +kernel
theorem dX8_askValue_21 : decode cX8_askValue 21 = .ok (.aload_n 0, 1) := by decide +kernel
theorem dX8_askValue_22 : decode cX8_askValue 22 = .ok (.getfield 47, 3) := by decide +kernel
theorem dX8_askValue_25 : decode cX8_askValue 25 = .ok (.lload_n 3, 1) := by decide +kernel
theorem dX8_askValue_26 : decode cX8_askValue 26 = .ok (.invokevirtual 256, 3) := by decide +kernel
theorem dX8_askValue_29 : decode cX8_askValue 29 = .ok (.istore 5, 2) := by decide +kernel
theorem dX8_askValue_31 : decode cX8_askValue 31 = .ok (.iload 5, 2) := by decide +kernel
theorem dX8_askValue_33 : decode cX8_askValue 33 = .ok (.iconst (-1), 1) := by decide +kernel
theorem dX8_askValue_34 : decode cX8_askValue 34 = .ok (.if_icmp .eq 27, 3) := by decide +kernel
theorem dX8_askValue_37 : decode cX8_askValue 37 = .ok (.aload_n 0, 1) := by decide +kernel
theorem dX8_askValue_38 : decode cX8_askValue 38 = .ok (.getfield 47, 3) := by decide +kernel
theorem dX8_askValue_41 : decode cX8_askValue 41 = .ok (.dup, 1) := by decide +kernel
theorem dX8_askValue_42 : decode cX8_askValue 42 = .ok (.getfield 173, 3) := by decide +kernel
theorem dX8_askValue_45 : decode cX8_askValue 45 = .ok (.iconst 1, 1) := by decide +kernel
theorem dX8_askValue_46 : decode cX8_askValue 46 = .ok (.iadd, 1) := by decide +kernel
theorem dX8_askValue_47 : decode cX8_askValue 47 = .ok (.putfield 173, 3) := by decide +kernel
theorem dX8_askValue_50 : decode cX8_askValue 50 = .ok (.aload_n 0, 1) := by decide +kernel
theorem dX8_askValue_51 : decode cX8_askValue 51 = .ok (.getfield 47, 3) := by decide +kernel
theorem dX8_askValue_54 : decode cX8_askValue 54 = .ok (.getfield 257, 3) := by decide +kernel
theorem dX8_askValue_57 : decode cX8_askValue 57 = .ok (.iload 5, 2) := by decide +kernel
theorem dX8_askValue_59 : decode cX8_askValue 59 = .ok (.iaload, 1) := by decide +kernel
theorem dX8_askValue_60 : decode cX8_askValue 60 = .ok (.ireturn, 1) := by decide +kernel
theorem dX8_askValue_61 : decode cX8_askValue 61 = .ok (.aload_n 0, 1) := by decide +kernel
theorem dX8_askValue_62 : decode cX8_askValue 62 = .ok (.getfield 30, 3) := by decide +kernel
theorem dX8_askValue_65 : decode cX8_askValue 65 = .ok (.lload_n 3, 1) := by decide +kernel
theorem dX8_askValue_66 : decode cX8_askValue 66 = .ok (.iload_n 2, 1) := by decide +kernel
theorem dX8_askValue_67 : decode cX8_askValue 67 = .ok (.iload_n 2, 1) := by decide +kernel
theorem dX8_askValue_68 : decode cX8_askValue 68 = .ok (.invokevirtual 179, 3) := by decide +kernel
theorem dX8_askValue_71 : decode cX8_askValue 71 = .ok (.ifCond .ne 7, 3) := by decide +kernel
theorem dX8_askValue_74 : decode cX8_askValue 74 = .ok (.sipush (-1004), 3) := by decide +kernel
theorem dX8_askValue_77 : decode cX8_askValue 77 = .ok (.ireturn, 1) := by decide +kernel
theorem dX8_askValue_78 : decode cX8_askValue 78 = .ok (.aload_n 0, 1) := by decide +kernel
theorem dX8_askValue_79 : decode cX8_askValue 79 = .ok (.getfield 30, 3) := by decide +kernel
theorem dX8_askValue_82 : decode cX8_askValue 82 = .ok (.invokevirtual 258, 3) := by decide +kernel
theorem dX8_askValue_85 : decode cX8_askValue 85 = .ok (.istore 6, 2) := by decide +kernel
theorem dX8_askValue_87 : decode cX8_askValue 87 = .ok (.aload_n 0, 1) := by decide +kernel
theorem dX8_askValue_88 : decode cX8_askValue 88 = .ok (.getfield 47, 3) := by decide +kernel
theorem dX8_askValue_91 : decode cX8_askValue 91 = .ok (.lload_n 3, 1) := by decide +kernel
theorem dX8_askValue_92 : decode cX8_askValue 92 = .ok (.iload 6, 2) := by decide +kernel
theorem dX8_askValue_94 : decode cX8_askValue 94 = .ok (.invokevirtual 261, 3) := by decide +kernel
theorem dX8_askValue_97 : decode cX8_askValue 97 = .ok (.iload 6, 2) := by decide +kernel
theorem dX8_askValue_99 : decode cX8_askValue 99 = .ok (.ireturn, 1) := by decide +kernel
theorem dX8_exploreAndSolve_0 : decode cX8_exploreAndSolve 0 = .ok (.aload_n 0, 1) := by decide +kernel
theorem dX8_exploreAndSolve_1 : decode cX8_exploreAndSolve 1 = .ok (.lload_n 1, 1) := by decide +kernel
theorem dX8_exploreAndSolve_2 : decode cX8_exploreAndSolve 2 = .ok (.iload_n 3, 1) := by decide +kernel
theorem dX8_exploreAndSolve_3 : decode cX8_exploreAndSolve 3 = .ok (.iload_n 3, 1) := by decide +kernel
theorem dX8_exploreAndSolve_4 : decode cX8_exploreAndSolve 4 = .ok (.invokestatic 176, 3) := by decide +kernel
theorem dX8_exploreAndSolve_7 : decode cX8_exploreAndSolve 7 = .ok (.invokevirtual 179, 3) := by decide +kernel
theorem dX8_exploreAndSolve_10 : decode cX8_exploreAndSolve 10 = .ok (.ifCond .ne 5, 3) := by decide +kernel
theorem dX8_exploreAndSolve_13 : decode cX8_exploreAndSolve 13 = .ok (.iconst 0, 1) := by decide +kernel
theorem dX8_exploreAndSolve_14 : decode cX8_exploreAndSolve 14 = .ok (.ireturn, 1) := by decide +kernel
theorem dX8_exploreAndSolve_15 : decode cX8_exploreAndSolve 15 = .ok (.aload_n 0, 1) := by decide +kernel
theorem dX8_exploreAndSolve_16 : decode cX8_exploreAndSolve 16 = .ok (.invokevirtual 264, 3) := by decide +kernel
theorem dX8_exploreAndSolve_19 : decode cX8_exploreAndSolve 19 = .ok (.iconst 1, 1) := by decide +kernel
theorem dX8_exploreAndSolve_20 : decode cX8_exploreAndSolve 20 = .ok (.ireturn, 1) := by decide +kernel
theorem dX8_findOutcome_0 : decode cX8_findOutcome 0 = .ok (.aload_n 0, 1) := by decide +kernel
theorem dX8_findOutcome_1 : decode cX8_findOutcome 1 = .ok (.getfield 30, 3) := by decide +kernel
theorem dX8_findOutcome_4 : decode cX8_findOutcome 4 = .ok (.lload_n 1, 1) := by decide +kernel
theorem dX8_findOutcome_5 : decode cX8_findOutcome 5 = .ok (.iconst 1, 1) := by decide +kernel
theorem dX8_findOutcome_6 : decode cX8_findOutcome 6 = .ok (.invokestatic 184, 3) := by decide +kernel
theorem dX8_findOutcome_9 : decode cX8_findOutcome 9 = .ok (.ifCond .eq 15, 3) := by decide +kernel
theorem dX8_findOutcome_12 : decode cX8_findOutcome 12 = .ok (.aload_n 0, 1) := by decide +kernel
theorem dX8_findOutcome_13 : decode cX8_findOutcome 13 = .ok (.getfield 34, 3) := by decide +kernel
theorem dX8_findOutcome_16 : decode cX8_findOutcome 16 = .ok (.lload_n 1, 1) := by decide +kernel
theorem dX8_findOutcome_17 : decode cX8_findOutcome 17 = .ok (.iconst 2, 1) := by decide +kernel
theorem dX8_findOutcome_18 : decode cX8_findOutcome 18 = .ok (.invokestatic 184, 3) := by decide +kernel
theorem dX8_findOutcome_21 : decode cX8_findOutcome 21 = .ok (.ifCond .ne 7, 3) := by decide +kernel
theorem dX8_findOutcome_24 : decode cX8_findOutcome 24 = .ok (.sipush (-1004), 3) := by decide +kernel
theorem dX8_findOutcome_27 : decode cX8_findOutcome 27 = .ok (.ireturn, 1) := by decide +kernel
theorem dX8_findOutcome_28 : decode cX8_findOutcome 28 = .ok (.aload_n 0, 1) := by decide +kernel
theorem dX8_findOutcome_29 : decode cX8_findOutcome 29 = .ok (.getfield 30, 3) := by decide +kernel
theorem dX8_findOutcome_32 : decode cX8_findOutcome 32 = .ok (.iconst 0, 1) := by decide +kernel
theorem dX8_findOutcome_33 : decode cX8_findOutcome 33 = .ok (.invokevirtual 188, 3) := by decide +kernel
theorem dX8_findOutcome_36 : decode cX8_findOutcome 36 = .ok (.istore_n 3, 1) := by decide +kernel
theorem dX8_findOutcome_37 : decode cX8_findOutcome 37 = .ok (.aload_n 0, 1) := by decide +kernel
theorem dX8_findOutcome_38 : decode cX8_findOutcome 38 = .ok (.getfield 34, 3) := by decide +kernel
theorem dX8_findOutcome_41 : decode cX8_findOutcome 41 = .ok (.iconst 0, 1) := by decide +kernel
theorem dX8_findOutcome_42 : decode cX8_findOutcome 42 = .ok (.invokevirtual 188, 3) := by decide +kernel
theorem dX8_findOutcome_45 : decode cX8_findOutcome 45 = .ok (.istore 4, 2) := by decide +kernel
theorem dX8_findOutcome_47 : decode cX8_findOutcome 47 = .ok (.iload_n 3, 1) := by decide +kernel
theorem dX8_findOutcome_48 : decode cX8_findOutcome 48 = .ok (.ifCond .eq 14, 3) := by decide +kernel
theorem dX8_findOutcome_51 : decode cX8_findOutcome 51 = .ok (.iload 4, 2) := by decide +kernel
theorem dX8_findOutcome_53 : decode cX8_findOutcome 53 = .ok (.ifCond .eq 7, 3) := by decide +kernel
theorem dX8_findOutcome_56 : decode cX8_findOutcome 56 = .ok (.iconst 2, 1) := by decide +kernel
theorem dX8_findOutcome_57 : decode cX8_findOutcome 57 = .ok (.goto 4, 3) := by decide +kernel
theorem dX8_findOutcome_60 : decode cX8_findOutcome 60 = .ok (.iconst 0, 1) := by decide +kernel
theorem dX8_findOutcome_61 : decode cX8_findOutcome 61 = .ok (.ireturn, 1) := by decide +kernel
theorem dX8_findOutcome_62 : decode cX8_findOutcome 62 = .ok (.iload 4, 2) := by decide +kernel
theorem dX8_findOutcome_64 : decode cX8_findOutcome 64 = .ok (.ifCond .eq 7, 3) := by decide +kernel
theorem dX8_findOutcome_67 : decode cX8_findOutcome 67 = .ok (.iconst 1, 1) := by decide +kernel
theorem dX8_findOutcome_68 : decode cX8_findOutcome 68 = .ok (.goto 4, 3) := by decide +kernel
theorem dX8_findOutcome_71 : decode cX8_findOutcome 71 = .ok (.iconst 3, 1) := by decide +kernel
theorem dX8_findOutcome_72 : decode cX8_findOutcome 72 = .ok (.ireturn, 1) := by decide +kernel
theorem dX9_init_0 : decode cX9_init 0 = .ok (.aload_n 0, 1) := by decide +kernel
theorem dX9_init_1 : decode cX9_init 1 = .ok (.invokespecial 1, 3) := by decide +kernel
theorem dX9_init_4 : decode cX9_init 4 = .ok (.aload_n 0, 1) := by decide +kernel
theorem dX9_init_5 : decode cX9_init 5 = .ok (.iconst 3, 1) := by decide +kernel
theorem dX9_init_6 : decode cX9_init 6 = .ok (.putfield 7, 3) := by decide +kernel
theorem dX9_init_9 : decode cX9_init 9 = .ok (.aload_n 0, 1) := by decide +kernel
theorem dX9_init_10 : decode cX9_init 10 = .ok (.iconst 3, 1) := by decide +kernel
theorem dX9_init_11 : decode cX9_init 11 = .ok (.putfield 13, 3) := by decide +kernel
theorem dX9_init_14 : decode cX9_init 14 = .ok (.aload_n 0, 1) := by decide +kernel
theorem dX9_init_15 : decode cX9_init 15 = .ok (.bipush 15, 2) := by decide +kernel
theorem dX9_init_17 : decode cX9_init 17 = .ok (.newarray .int, 2) := by decide +kernel
theorem dX9_init_19 : decode cX9_init 19 = .ok (.putfield 16, 3) := by decide +kernel
theorem dX9_init_22 : decode cX9_init 22 = .ok (.aload_n 0, 1) := by decide +kernel
theorem dX9_init_23 : decode cX9_init 23 = .ok (.bipush 15, 2) := by decide +kernel
theorem dX9_init_25 : decode cX9_init 25 = .ok (.newarray .int, 2) := by decide +kernel
theorem dX9_init_27 : decode cX9_init 27 = .ok (.putfield 20, 3) := by decide +kernel
theorem dX9_init_30 : decode cX9_init 30 = .ok (.aload_n 0, 1) := by decide +kernel
theorem dX9_init_31 : decode cX9_init 31 = .ok (.sipush 136, 3) := by decide +kernel
theorem dX9_init_34 : decode cX9_init 34 = .ok (.newarray .int, 2) := by decide +kernel
theorem dX9_init_36 : decode cX9_init 36 = .ok (.putfield 23, 3) := by decide +kernel
theorem dX9_init_39 : decode cX9_init 39 = .ok (.aload_n 0, 1) := by decide +kernel
theorem dX9_init_40 : decode cX9_init 40 = .ok (.bipush 40, 2) := by decide +kernel
theorem dX9_init_42 : decode cX9_init 42 = .ok (.newarray .int, 2) := by decide +kernel
theorem dX9_init_44 : decode cX9_init 44 = .ok (.putfield 26, 3) := by decide +kernel
theorem dX9_init_47 : decode cX9_init 47 = .ok (.aload_n 0, 1) := by decide +kernel
theorem dX9_init_48 : decode cX9_init 48 = .ok (.bipush 40, 2) := by decide +kernel
theorem dX9_init_50 : decode cX9_init 50 = .ok (.newarray .int, 2) := by decide +kernel
theorem dX9_init_52 : decode cX9_init 52 = .ok (.putfield 29, 3) := by decide +kernel
theorem dX9_init_55 : decode cX9_init 55 = .ok (.aload_n 0, 1) := by decide +kernel
theorem dX9_init_56 : decode cX9_init 56 = .ok (.sipush 700, 3) := by decide +kernel
theorem dX9_init_59 : decode cX9_init 59 = .ok (.newarray .int, 2) := by decide +kernel
theorem dX9_init_61 : decode cX9_init 61 = .ok (.putfield 32, 3) := by decide +kernel
theorem dX9_init_64 : decode cX9_init 64 = .ok (.aload_n 0, 1) := by decide +kernel
theorem dX9_init_65 : decode cX9_init 65 = .ok (.sipush 1500, 3) := by decide +kernel
theorem dX9_init_68 : decode cX9_init 68 = .ok (.newarray .int, 2) := by decide +kernel
theorem dX9_init_70 : decode cX9_init 70 = .ok (.putfield 35, 3) := by decide +kernel
theorem dX9_init_73 : decode cX9_init 73 = .ok (.aload_n 0, 1) := by decide +kernel
theorem dX9_init_74 : decode cX9_init 74 = .ok (.sipush 8192, 3) := by decide +kernel
theorem dX9_init_77 : decode cX9_init 77 = .ok (.newarray .int, 2) := by decide +kernel
theorem dX9_init_79 : decode cX9_init 79 = .ok (.putfield 38, 3) := by decide +kernel
theorem dX9_init_82 : decode cX9_init 82 = .ok (.aload_n 0, 1) := by decide +kernel
theorem dX9_init_83 : decode cX9_init 83 = .ok (.sipush 1500, 3) := by decide +kernel
theorem dX9_init_86 : decode cX9_init 86 = .ok (.newarray .boolean, 2) := by decide +kernel
theorem dX9_init_88 : decode cX9_init 88 = .ok (.putfield 41, 3) := by decide +kernel
theorem dX9_init_91 : decode cX9_init 91 = .ok (.aload_n 0, 1) := by decide +kernel
theorem dX9_init_92 : decode cX9_init 92 = .ok (.sipush 1500, 3) := by decide +kernel
theorem dX9_init_95 : decode cX9_init 95 = .ok (.newarray .int, 2) := by decide +kernel
theorem dX9_init_97 : decode cX9_init 97 = .ok (.putfield 45, 3) := by decide +kernel
theorem dX9_init_100 : decode cX9_init 100 = .ok (.aload_n 0, 1) := by decide +kernel
theorem dX9_init_101 : decode cX9_init 101 = .ok (.sipush 3000, 3) := by decide +kernel
theorem dX9_init_104 : decode cX9_init 104 = .ok (.newarray .int, 2) := by decide +kernel
theorem dX9_init_106 : decode cX9_init 106 = .ok (.putfield 48, 3) := by decide +kernel
theorem dX9_init_109 : decode cX9_init 109 = .ok (.aload_n 0, 1) := by decide +kernel
theorem dX9_init_110 : decode cX9_init 110 = .ok (.bipush 15, 2) := by decide +kernel
theorem dX9_init_112 : decode cX9_init 112 = .ok (.newarray .int, 2) := by decide +kernel
theorem dX9_init_114 : decode cX9_init 114 = .ok (.putfield 51, 3) := by decide +kernel
theorem dX9_init_117 : decode cX9_init 117 = .ok (.aload_n 0, 1) := by decide +kernel
theorem dX9_init_118 : decode cX9_init 118 = .ok (.bipush 60, 2) := by decide +kernel
theorem dX9_init_120 : decode cX9_init 120 = .ok (.newarray .int, 2) := by decide +kernel
theorem dX9_init_122 : decode cX9_init 122 = .ok (.putfield 54, 3) := by decide +kernel
theorem dX9_init_125 : decode cX9_init 125 = .ok (.aload_n 0, 1) := by decide +kernel
theorem dX9_init_126 : decode cX9_init 126 = .ok (.iconst 4, 1) := by decide +kernel
theorem dX9_init_127 : decode cX9_init 127 = .ok (.newarray .int, 2) := by decide +kernel
theorem dX9_init_129 : decode cX9_init 129 = .ok (.putfield 57, 3) := by decide +kernel
theorem dX9_init_132 : decode cX9_init 132 = .ok (.return_, 1) := by decide +kernel
theorem dX9_in_0 : decode cX9_in 0 = .ok (.iload_n 0, 1) := by decide +kernel
theorem dX9_in_1 : decode cX9_in 1 = .ok (.iload_n 1, 1) := by decide +kernel
theorem dX9_in_2 : decode cX9_in 2 = .ok (.if_icmp .lt 12, 3) := by decide +kernel
theorem dX9_in_5 : decode cX9_in 5 = .ok (.iload_n 0, 1) := by decide +kernel
theorem dX9_in_6 : decode cX9_in 6 = .ok (.iload_n 2, 1) := by decide +kernel
theorem dX9_in_7 : decode cX9_in 7 = .ok (.if_icmp .gt 7, 3) := by decide +kernel
theorem dX9_in_10 : decode cX9_in 10 = .ok (.iconst 1, 1) := by decide +kernel
theorem dX9_in_11 : decode cX9_in 11 = .ok (.goto 4, 3) := by decide +kernel
theorem dX9_in_14 : decode cX9_in 14 = .ok (.iconst 0, 1) := by decide +kernel
theorem dX9_in_15 : decode cX9_in 15 = .ok (.ireturn, 1) := by decide +kernel
theorem dX9_size_0 : decode cX9_size 0 = .ok (.aload_n 0, 1) := by decide +kernel
theorem dX9_size_1 : decode cX9_size 1 = .ok (.getfield 7, 3) := by decide +kernel
theorem dX9_size_4 : decode cX9_size 4 = .ok (.aload_n 0, 1) := by decide +kernel
theorem dX9_size_5 : decode cX9_size 5 = .ok (.getfield 13, 3) := by decide +kernel
theorem dX9_size_8 : decode cX9_size 8 = .ok (.imul, 1) := by decide +kernel
theorem dX9_size_9 : decode cX9_size 9 = .ok (.ireturn, 1) := by decide +kernel
theorem dX9_isField_0 : decode cX9_isField 0 = .ok (.iload_n 1, 1) := by decide +kernel
theorem dX9_isField_1 : decode cX9_isField 1 = .ok (.iconst 0, 1) := by decide +kernel
theorem dX9_isField_2 : decode cX9_isField 2 = .ok (.aload_n 0, 1) := by decide +kernel
theorem dX9_isField_3 : decode cX9_isField 3 = .ok (.invokevirtual 60, 3) := by decide +kernel
theorem dX9_isField_6 : decode cX9_isField 6 = .ok (.iconst 1, 1) := by decide +kernel
theorem dX9_isField_7 : decode cX9_isField 7 = .ok (.isub, 1) := by decide +kernel
theorem dX9_isField_8 : decode cX9_isField 8 = .ok (.invokestatic 64, 3) := by decide +kernel
theorem dX9_isField_11 : decode cX9_isField 11 = .ok (.ireturn, 1) := by decide +kernel
theorem dX9_isSide_0 : decode cX9_isSide 0 = .ok (.iload_n 0, 1) := by decide +kernel
theorem dX9_isSide_1 : decode cX9_isSide 1 = .ok (.iconst 1, 1) := by decide +kernel
theorem dX9_isSide_2 : decode cX9_isSide 2 = .ok (.iconst 2, 1) := by decide +kernel
theorem dX9_isSide_3 : decode cX9_isSide 3 = .ok (.invokestatic 64, 3) := by decide +kernel
theorem dX9_isSide_6 : decode cX9_isSide 6 = .ok (.ireturn, 1) := by decide +kernel
theorem dX9_keeps_0 : decode cX9_keeps 0 = .ok (.aload_n 0, 1) := by decide +kernel
theorem dX9_keeps_1 : decode cX9_keeps 1 = .ok (.getfield 68, 3) := by decide +kernel
theorem dX9_keeps_4 : decode cX9_keeps 4 = .ok (.bipush 8, 2) := by decide +kernel
theorem dX9_keeps_6 : decode cX9_keeps 6 = .ok (.if_icmp .ne 42, 3) := by decide +kernel
theorem dX9_keeps_9 : decode cX9_keeps 9 = .ok (.iconst 0, 1) := by decide +kernel
theorem dX9_keeps_10 : decode cX9_keeps 10 = .ok (.istore_n 1, 1) := by decide +kernel
theorem dX9_keeps_11 : decode cX9_keeps 11 = .ok (.iload_n 1, 1) := by decide +kernel
theorem dX9_keeps_12 : decode cX9_keeps 12 = .ok (.bipush 119, 2) := by decide +kernel
theorem dX9_keeps_14 : decode cX9_keeps 14 = .ok (.if_icmp .ge 24, 3) := by decide +kernel
theorem dX9_keeps_17 : decode cX9_keeps 17 = .ok (.aload_n 0, 1) := by decide +kernel
theorem dX9_keeps_18 : decode cX9_keeps 18 = .ok (.getfield 23, 3) := by decide +kernel
theorem dX9_keeps_21 : decode cX9_keeps 21 = .ok (.iload_n 1, 1) := by decide +kernel
theorem dX9_keeps_22 : decode cX9_keeps 22 = .ok (.aload_n 0, 1) := by decide +kernel
theorem dX9_keeps_23 : decode cX9_keeps 23 = .ok (.getfield 23, 3) := by decide +kernel
theorem dX9_keeps_26 : decode cX9_keeps 26 = .ok (.bipush 17, 2) := by decide +kernel
theorem dX9_keeps_28 : decode cX9_keeps 28 = .ok (.iload_n 1, 1) := by decide +kernel
theorem dX9_keeps_29 : decode cX9_keeps 29 = .ok (.iadd, 1) := by decide +kernel
theorem dX9_keeps_30 : decode cX9_keeps 30 = .ok (.iaload, 1) := by decide +kernel
theorem dX9_keeps_31 : decode cX9_keeps 31 = .ok (.iastore, 1) := by decide +kernel
theorem dX9_keeps_32 : decode cX9_keeps 32 = .ok (.iinc 1 1, 3) := by decide +kernel
theorem dX9_keeps_35 : decode cX9_keeps 35 = .ok (.goto (-24), 3) := by decide +kernel
theorem dX9_keeps_38 : decode cX9_keeps 38 = .ok (.aload_n 0, 1) := by decide +kernel
theorem dX9_keeps_39 : decode cX9_keeps 39 = .ok (.dup, 1) := by decide +kernel
theorem dX9_keeps_40 : decode cX9_keeps 40 = .ok (.getfield 68, 3) := by decide +kernel
theorem dX9_keeps_43 : decode cX9_keeps 43 = .ok (.iconst 1, 1) := by decide +kernel
theorem dX9_keeps_44 : decode cX9_keeps 44 = .ok (.isub, 1) := by decide +kernel
theorem dX9_keeps_45 : decode cX9_keeps 45 = .ok (.putfield 68, 3) := by decide +kernel
theorem dX9_keeps_48 : decode cX9_keeps 48 = .ok (.aload_n 0, 1) := by decide +kernel
theorem dX9_keeps_49 : decode cX9_keeps 49 = .ok (.getfield 23, 3) := by decide +kernel
theorem dX9_keeps_52 : decode cX9_keeps 52 = .ok (.bipush 17, 2) := by decide +kernel
theorem dX9_keeps_54 : decode cX9_keeps 54 = .ok (.aload_n 0, 1) := by decide +kernel
theorem dX9_keeps_55 : decode cX9_keeps 55 = .ok (.getfield 68, 3) := by decide +kernel
theorem dX9_keeps_58 : decode cX9_keeps 58 = .ok (.imul, 1) := by decide +kernel
theorem dX9_keeps_59 : decode cX9_keeps 59 = .ok (.aload_n 0, 1) := by decide +kernel
theorem dX9_keeps_60 : decode cX9_keeps 60 = .ok (.getfield 7, 3) := by decide +kernel
theorem dX9_keeps_63 : decode cX9_keeps 63 = .ok (.iastore, 1) := by decide +kernel
theorem dX9_keeps_64 : decode cX9_keeps 64 = .ok (.aload_n 0, 1) := by decide +kernel
theorem dX9_keeps_65 : decode cX9_keeps 65 = .ok (.getfield 23, 3) := by decide +kernel
theorem dX9_keeps_68 : decode cX9_keeps 68 = .ok (.bipush 17, 2) := by decide +kernel
theorem dX9_keeps_70 : decode cX9_keeps 70 = .ok (.aload_n 0, 1) := by decide +kernel
theorem dX9_keeps_71 : decode cX9_keeps 71 = .ok (.getfield 68, 3) := by decide +kernel
theorem dX9_keeps_74 : decode cX9_keeps 74 = .ok (.imul, 1) := by decide +kernel
theorem dX9_keeps_75 : decode cX9_keeps 75 = .ok (.iconst 1, 1) := by decide +kernel
theorem dX9_keeps_76 : decode cX9_keeps 76 = .ok (.iadd, 1) := by decide +kernel
theorem dX9_keeps_77 : decode cX9_keeps 77 = .ok (.aload_n 0, 1) := by decide +kernel
theorem dX9_keeps_78 : decode cX9_keeps 78 = .ok (.getfield 13, 3) := by decide +kernel
theorem dX9_keeps_81 : decode cX9_keeps 81 = .ok (.iastore, 1) := by decide +kernel
theorem dX9_keeps_82 : decode cX9_keeps 82 = .ok (.iconst 0, 1) := by decide +kernel
theorem dX9_keeps_83 : decode cX9_keeps 83 = .ok (.istore_n 1, 1) := by decide +kernel
theorem dX9_keeps_84 : decode cX9_keeps 84 = .ok (.iload_n 1, 1) := by decide +kernel
theorem dX9_keeps_85 : decode cX9_keeps 85 = .ok (.bipush 15, 2) := by decide +kernel
theorem dX9_keeps_87 : decode cX9_keeps 87 = .ok (.if_icmp .ge 31, 3) := by decide +kernel
theorem dX9_keeps_90 : decode cX9_keeps 90 = .ok (.aload_n 0, 1) := by decide +kernel
theorem dX9_keeps_91 : decode cX9_keeps 91 = .ok (.getfield 23, 3) := by decide +kernel
theorem dX9_keeps_94 : decode cX9_keeps 94 = .ok (.bipush 17, 2) := by decide +kernel
theorem dX9_keeps_96 : decode cX9_keeps 96 = .ok (.aload_n 0, 1) := by decide +kernel
theorem dX9_keeps_97 : decode cX9_keeps 97 = .ok (.getfield 68, 3) := by decide +kernel
theorem dX9_keeps_100 : decode cX9_keeps 100 = .ok (.imul, 1) := by decide +kernel
theorem dX9_keeps_101 : decode cX9_keeps 101 = .ok (.iconst 2, 1) := by decide +kernel
theorem dX9_keeps_102 : decode cX9_keeps 102 = .ok (.iadd, 1) := by decide +kernel
theorem dX9_keeps_103 : decode cX9_keeps 103 = .ok (.iload_n 1, 1) := by decide +kernel
theorem dX9_keeps_104 : decode cX9_keeps 104 = .ok (.iadd, 1) := by decide +kernel
theorem dX9_keeps_105 : decode cX9_keeps 105 = .ok (.aload_n 0, 1) := by decide +kernel
theorem dX9_keeps_106 : decode cX9_keeps 106 = .ok (.getfield 16, 3) := by decide +kernel
theorem dX9_keeps_109 : decode cX9_keeps 109 = .ok (.iload_n 1, 1) := by decide +kernel
theorem dX9_keeps_110 : decode cX9_keeps 110 = .ok (.iaload, 1) := by decide +kernel
theorem dX9_keeps_111 : decode cX9_keeps 111 = .ok (.iastore, 1) := by decide +kernel
theorem dX9_keeps_112 : decode cX9_keeps 112 = .ok (.iinc 1 1, 3) := by decide +kernel
theorem dX9_keeps_115 : decode cX9_keeps 115 = .ok (.goto (-31), 3) := by decide +kernel
theorem dX9_keeps_118 : decode cX9_keeps 118 = .ok (.aload_n 0, 1) := by decide +kernel
theorem dX9_keeps_119 : decode cX9_keeps 119 = .ok (.dup, 1) := by decide +kernel
theorem dX9_keeps_120 : decode cX9_keeps 120 = .ok (.getfield 68, 3) := by decide +kernel
theorem dX9_keeps_123 : decode cX9_keeps 123 = .ok (.iconst 1, 1) := by decide +kernel
theorem dX9_keeps_124 : decode cX9_keeps 124 = .ok (.iadd, 1) := by decide +kernel
theorem dX9_keeps_125 : decode cX9_keeps 125 = .ok (.putfield 68, 3) := by decide +kernel
theorem dX9_keeps_128 : decode cX9_keeps 128 = .ok (.return_, 1) := by decide +kernel
theorem dX9_reset_0 : decode cX9_reset 0 = .ok (.iload_n 1, 1) := by decide +kernel
theorem dX9_reset_1 : decode cX9_reset 1 = .ok (.iconst 1, 1) := by decide +kernel
theorem dX9_reset_2 : decode cX9_reset 2 = .ok (.iconst 5, 1) := by decide +kernel
theorem dX9_reset_3 : decode cX9_reset 3 = .ok (.invokestatic 64, 3) := by decide +kernel
theorem dX9_reset_6 : decode cX9_reset 6 = .ok (.ifCond .eq 20, 3) := by decide +kernel
theorem dX9_reset_9 : decode cX9_reset 9 = .ok (.iload_n 2, 1) := by decide +kernel
theorem dX9_reset_10 : decode cX9_reset 10 = .ok (.iconst 1, 1) := by decide +kernel
theorem dX9_reset_11 : decode cX9_reset 11 = .ok (.iconst 5, 1) := by decide +kernel
theorem dX9_reset_12 : decode cX9_reset 12 = .ok (.invokestatic 64, 3) := by decide +kernel
theorem dX9_reset_15 : decode cX9_reset 15 = .ok (.ifCond .eq 11, 3) := by decide +kernel
theorem dX9_reset_18 : decode cX9_reset 18 = .ok (.iload_n 1, 1) := by decide +kernel
theorem dX9_reset_19 : decode cX9_reset 19 = .ok (.iload_n 2, 1) := by decide +kernel
theorem dX9_reset_20 : decode cX9_reset 20 = .ok (.imul, 1) := by decide +kernel
theorem dX9_reset_21 : decode cX9_reset 21 = .ok (.bipush 15, 2) := by decide +kernel
theorem dX9_reset_23 : decode cX9_reset 23 = .ok (.if_icmp .le 7, 3) := by decide +kernel
theorem dX9_reset_26 : decode cX9_reset 26 = .ok (.sipush (-1001), 3) := by decide +kernel
theorem dX9_reset_29 : decode cX9_reset 29 = .ok (.ireturn, 1) := by decide +kernel
theorem dX9_reset_30 : decode cX9_reset 30 = .ok (.aload_n 0, 1) := by decide +kernel
theorem dX9_reset_31 : decode cX9_reset 31 = .ok (.invokevirtual 71, 3) := by decide +kernel
theorem dX9_reset_34 : decode cX9_reset 34 = .ok (.bipush 10, 2) := by decide +kernel
theorem dX9_reset_36 : decode cX9_reset 36 = .ok (.aload_n 0, 1) := by decide +kernel
theorem dX9_reset_37 : decode cX9_reset 37 = .ok (.getfield 7, 3) := by decide +kernel
theorem dX9_reset_40 : decode cX9_reset 40 = .ok (.imul, 1) := by decide +kernel
theorem dX9_reset_41 : decode cX9_reset 41 = .ok (.aload_n 0, 1) := by decide +kernel
theorem dX9_reset_42 : decode cX9_reset 42 = .ok (.getfield 13, 3) := by decide +kernel
theorem dX9_reset_45 : decode cX9_reset 45 = .ok (.iadd, 1) := by decide +kernel
theorem dX9_reset_46 : decode cX9_reset 46 = .ok (.istore_n 3, 1) := by decide +kernel
theorem dX9_reset_47 : decode cX9_reset 47 = .ok (.aload_n 0, 1) := by decide +kernel
theorem dX9_reset_48 : decode cX9_reset 48 = .ok (.iload_n 1, 1) := by decide +kernel
theorem dX9_reset_49 : decode cX9_reset 49 = .ok (.putfield 7, 3) := by decide +kernel
theorem dX9_reset_52 : decode cX9_reset 52 = .ok (.aload_n 0, 1) := by decide +kernel
theorem dX9_reset_53 : decode cX9_reset 53 = .ok (.iload_n 2, 1) := by decide +kernel
theorem dX9_reset_54 : decode cX9_reset 54 = .ok (.putfield 13, 3) := by decide +kernel
theorem dX9_reset_57 : decode cX9_reset 57 = .ok (.iconst 0, 1) := by decide +kernel
theorem dX9_reset_58 : decode cX9_reset 58 = .ok (.istore 4, 2) := by decide +kernel
theorem dX9_reset_60 : decode cX9_reset 60 = .ok (.iload 4, 2) := by decide +kernel
theorem dX9_reset_62 : decode cX9_reset 62 = .ok (.bipush 15, 2) := by decide +kernel
theorem dX9_reset_64 : decode cX9_reset 64 = .ok (.if_icmp .ge 17, 3) := by decide +kernel
theorem dX9_reset_67 : decode cX9_reset 67 = .ok (.aload_n 0, 1) := by decide +kernel
theorem dX9_reset_68 : decode cX9_reset 68 = .ok (.getfield 16, 3) := by decide +kernel
theorem dX9_reset_71 : decode cX9_reset 71 = .ok (.iload 4, 2) := by decide +kernel
theorem dX9_reset_73 : decode cX9_reset 73 = .ok (.iconst 0, 1) := by decide +kernel
theorem dX9_reset_74 : decode cX9_reset 74 = .ok (.iastore, 1) := by decide +kernel
theorem dX9_reset_75 : decode cX9_reset 75 = .ok (.iinc 4 1, 3) := by decide +kernel
theorem dX9_reset_78 : decode cX9_reset 78 = .ok (.goto (-18), 3) := by decide +kernel
theorem dX9_reset_81 : decode cX9_reset 81 = .ok (.aload_n 0, 1) := by decide +kernel
theorem dX9_reset_82 : decode cX9_reset 82 = .ok (.iconst 0, 1) := by decide +kernel
theorem dX9_reset_83 : decode cX9_reset 83 = .ok (.putfield 74, 3) := by decide +kernel
theorem dX9_reset_86 : decode cX9_reset 86 = .ok (.iload_n 3, 1) := by decide +kernel
theorem dX9_reset_87 : decode cX9_reset 87 = .ok (.ireturn, 1) := by decide +kernel
theorem dX9_counted_0 : decode cX9_counted 0 = .ok (.iconst 0, 1) := by decide +kernel
theorem dX9_counted_1 : decode cX9_counted 1 = .ok (.istore_n 2, 1) := by decide +kernel
theorem dX9_counted_2 : decode cX9_counted 2 = .ok (.iconst 0, 1) := by decide +kernel
theorem dX9_counted_3 : decode cX9_counted 3 = .ok (.istore_n 3, 1) := by decide +kernel
theorem dX9_counted_4 : decode cX9_counted 4 = .ok (.iload_n 3, 1) := by decide +kernel
theorem dX9_counted_5 : decode cX9_counted 5 = .ok (.aload_n 0, 1) := by decide +kernel
theorem dX9_counted_6 : decode cX9_counted 6 = .ok (.invokevirtual 60, 3) := by decide +kernel
theorem dX9_counted_9 : decode cX9_counted 9 = .ok (.if_icmp .ge 27, 3) := by decide +kernel
theorem dX9_counted_12 : decode cX9_counted 12 = .ok (.iload_n 2, 1) := by decide +kernel
theorem dX9_counted_13 : decode cX9_counted 13 = .ok (.aload_n 0, 1) := by decide +kernel
theorem dX9_counted_14 : decode cX9_counted 14 = .ok (.getfield 16, 3) := by decide +kernel
theorem dX9_counted_17 : decode cX9_counted 17 = .ok (.iload_n 3, 1) := by decide +kernel
theorem dX9_counted_18 : decode cX9_counted 18 = .ok (.iaload, 1) := by decide +kernel
theorem dX9_counted_19 : decode cX9_counted 19 = .ok (.iload_n 1, 1) := by decide +kernel
theorem dX9_counted_20 : decode cX9_counted 20 = .ok (.if_icmp .ne 7, 3) := by decide +kernel
theorem dX9_counted_23 : decode cX9_counted 23 = .ok (.iconst 1, 1) := by decide +kernel
theorem dX9_counted_24 : decode cX9_counted 24 = .ok (.goto 4, 3) := by decide +kernel
theorem dX9_counted_27 : decode cX9_counted 27 = .ok (.iconst 0, 1) := by decide +kernel
theorem dX9_counted_28 : decode cX9_counted 28 = .ok (.iadd, 1) := by decide +kernel
theorem dX9_counted_29 : decode cX9_counted 29 = .ok (.istore_n 2, 1) := by decide +kernel
theorem dX9_counted_30 : decode cX9_counted 30 = .ok (.iinc 3 1, 3) := by decide +kernel
theorem dX9_counted_33 : decode cX9_counted 33 = .ok (.goto (-29), 3) := by decide +kernel
theorem dX9_counted_36 : decode cX9_counted 36 = .ok (.iload_n 2, 1) := by decide +kernel
theorem dX9_counted_37 : decode cX9_counted 37 = .ok (.ireturn, 1) := by decide +kernel
theorem dX9_inWay_0 : decode cX9_inWay 0 = .ok (.aload_n 0, 1) := by decide +kernel
theorem dX9_inWay_1 : decode cX9_inWay 1 = .ok (.iload_n 1, 1) := by decide +kernel
theorem dX9_inWay_2 : decode cX9_inWay 2 = .ok (.invokevirtual 77, 3) := by decide +kernel
theorem dX9_inWay_5 : decode cX9_inWay 5 = .ok (.ifCond .eq 12, 3) := by decide +kernel
theorem dX9_inWay_8 : decode cX9_inWay 8 = .ok (.iload_n 2, 1) := by decide +kernel
theorem dX9_inWay_9 : decode cX9_inWay 9 = .ok (.iconst 0, 1) := by decide +kernel
theorem dX9_inWay_10 : decode cX9_inWay 10 = .ok (.iconst 3, 1) := by decide +kernel
theorem dX9_inWay_11 : decode cX9_inWay 11 = .ok (.invokestatic 64, 3) := by decide +kernel
theorem dX9_inWay_14 : decode cX9_inWay 14 = .ok (.ifCond .ne 7, 3) := by decide +kernel
theorem dX9_inWay_17 : decode cX9_inWay 17 = .ok (.sipush (-1001), 3) := by decide +kernel
theorem dX9_inWay_20 : decode cX9_inWay 20 = .ok (.ireturn, 1) := by decide +kernel
theorem dX9_inWay_21 : decode cX9_inWay 21 = .ok (.iload_n 2, 1) := by decide +kernel
theorem dX9_inWay_22 : decode cX9_inWay 22 = .ok (.invokestatic 81, 3) := by decide +kernel
theorem dX9_inWay_25 : decode cX9_inWay 25 = .ok (.ifCond .eq 28, 3) := by decide +kernel
theorem dX9_inWay_28 : decode cX9_inWay 28 = .ok (.aload_n 0, 1) := by decide +kernel
theorem dX9_inWay_29 : decode cX9_inWay 29 = .ok (.getfield 16, 3) := by decide +kernel
theorem dX9_inWay_32 : decode cX9_inWay 32 = .ok (.iload_n 1, 1) := by decide +kernel
theorem dX9_inWay_33 : decode cX9_inWay 33 = .ok (.iaload, 1) := by decide +kernel
theorem dX9_inWay_34 : decode cX9_inWay 34 = .ok (.iload_n 2, 1) := by decide +kernel
theorem dX9_inWay_35 : decode cX9_inWay 35 = .ok (.if_icmp .eq 18, 3) := by decide +kernel
theorem dX9_inWay_38 : decode cX9_inWay 38 = .ok (.aload_n 0, 1) := by decide +kernel
theorem dX9_inWay_39 : decode cX9_inWay 39 = .ok (.iload_n 2, 1) := by decide +kernel
theorem dX9_inWay_40 : decode cX9_inWay 40 = .ok (.invokevirtual 84, 3) := by decide +kernel
theorem dX9_inWay_43 : decode cX9_inWay 43 = .ok (.iconst 3, 1) := by decide +kernel
theorem dX9_inWay_44 : decode cX9_inWay 44 = .ok (.if_icmp .ne 9, 3) := by decide +kernel
theorem dX9_inWay_47 : decode cX9_inWay 47 = .ok (.sipush (-1003), 3) := by decide +kernel
theorem dX9_inWay_50 : decode cX9_inWay 50 = .ok (.goto 4, 3) := by decide +kernel
theorem dX9_inWay_53 : decode cX9_inWay 53 = .ok (.iconst 0, 1) := by decide +kernel
theorem dX9_inWay_54 : decode cX9_inWay 54 = .ok (.ireturn, 1) := by decide +kernel
theorem dX9_puts_0 : decode cX9_puts 0 = .ok (.aload_n 0, 1) := by decide +kernel
theorem dX9_puts_1 : decode cX9_puts 1 = .ok (.getfield 16, 3) := by decide +kernel
theorem dX9_puts_4 : decode cX9_puts 4 = .ok (.iload_n 1, 1) := by decide +kernel
theorem dX9_puts_5 : decode cX9_puts 5 = .ok (.iaload, 1) := by decide +kernel
theorem dX9_puts_6 : decode cX9_puts 6 = .ok (.istore_n 3, 1) := by decide +kernel
theorem dX9_puts_7 : decode cX9_puts 7 = .ok (.aload_n 0, 1) := by decide +kernel
theorem dX9_puts_8 : decode cX9_puts 8 = .ok (.getfield 16, 3) := by decide +kernel
theorem dX9_puts_11 : decode cX9_puts 11 = .ok (.iload_n 1, 1) := by decide +kernel
theorem dX9_puts_12 : decode cX9_puts 12 = .ok (.iload_n 2, 1) := by decide +kernel
theorem dX9_puts_13 : decode cX9_puts 13 = .ok (.iastore, 1) := by decide +kernel
theorem dX9_puts_14 : decode cX9_puts 14 = .ok (.iload_n 3, 1) := by decide +kernel
theorem dX9_puts_15 : decode cX9_puts 15 = .ok (.ireturn, 1) := by decide +kernel
theorem dX9_setField_0 : decode cX9_setField 0 = .ok (.aload_n 0, 1) := by decide +kernel
theorem dX9_setField_1 : decode cX9_setField 1 = .ok (.iload_n 1, 1) := by decide +kernel
theorem dX9_setField_2 : decode cX9_setField 2 = .ok (.iload_n 2, 1) := by decide +kernel
theorem dX9_setField_3 : decode cX9_setField 3 = .ok (.invokevirtual 88, 3) := by decide +kernel
theorem dX9_setField_6 : decode cX9_setField 6 = .ok (.istore_n 3, 1) := by decide +kernel
theorem dX9_setField_7 : decode cX9_setField 7 = .ok (.iload_n 3, 1) := by decide +kernel
theorem dX9_setField_8 : decode cX9_setField 8 = .ok (.ifCond .ge 5, 3) := by decide +kernel
theorem dX9_setField_11 : decode cX9_setField 11 = .ok (.iload_n 3, 1) := by decide +kernel
theorem dX9_setField_12 : decode cX9_setField 12 = .ok (.ireturn, 1) := by decide +kernel
theorem dX9_setField_13 : decode cX9_setField 13 = .ok (.aload_n 0, 1) := by decide +kernel
theorem dX9_setField_14 : decode cX9_setField 14 = .ok (.invokevirtual 71, 3) := by decide +kernel
theorem dX9_setField_17 : decode cX9_setField 17 = .ok (.aload_n 0, 1) := by decide +kernel
theorem dX9_setField_18 : decode cX9_setField 18 = .ok (.iload_n 1, 1) := by decide +kernel
theorem dX9_setField_19 : decode cX9_setField 19 = .ok (.iload_n 2, 1) := by decide +kernel
theorem dX9_setField_20 : decode cX9_setField 20 = .ok (.invokevirtual 92, 3) := by decide +kernel
theorem dX9_setField_23 : decode cX9_setField 23 = .ok (.ireturn, 1) := by decide +kernel
theorem dX9_field_0 : decode cX9_field 0 = .ok (.aload_n 0, 1) := by decide +kernel
theorem dX9_field_1 : decode cX9_field 1 = .ok (.iload_n 1, 1) := by decide +kernel
theorem dX9_field_2 : decode cX9_field 2 = .ok (.invokevirtual 77, 3) := by decide +kernel
theorem dX9_field_5 : decode cX9_field 5 = .ok (.ifCond .eq 12, 3) := by decide +kernel
theorem dX9_field_8 : decode cX9_field 8 = .ok (.aload_n 0, 1) := by decide +kernel
theorem dX9_field_9 : decode cX9_field 9 = .ok (.getfield 16, 3) := by decide +kernel
theorem dX9_field_12 : decode cX9_field 12 = .ok (.iload_n 1, 1) := by decide +kernel
theorem dX9_field_13 : decode cX9_field 13 = .ok (.iaload, 1) := by decide +kernel
theorem dX9_field_14 : decode cX9_field 14 = .ok (.goto 6, 3) := by decide +kernel
theorem dX9_field_17 : decode cX9_field 17 = .ok (.sipush (-1001), 3) := by decide +kernel
theorem dX9_field_20 : decode cX9_field 20 = .ok (.ireturn, 1) := by decide +kernel
theorem dX9_count_0 : decode cX9_count 0 = .ok (.iload_n 1, 1) := by decide +kernel
theorem dX9_count_1 : decode cX9_count 1 = .ok (.iconst 0, 1) := by decide +kernel
theorem dX9_count_2 : decode cX9_count 2 = .ok (.iconst 3, 1) := by decide +kernel
theorem dX9_count_3 : decode cX9_count 3 = .ok (.invokestatic 64, 3) := by decide +kernel
theorem dX9_count_6 : decode cX9_count 6 = .ok (.ifCond .eq 11, 3) := by decide +kernel
theorem dX9_count_9 : decode cX9_count 9 = .ok (.aload_n 0, 1) := by decide +kernel
theorem dX9_count_10 : decode cX9_count 10 = .ok (.iload_n 1, 1) := by decide +kernel
theorem dX9_count_11 : decode cX9_count 11 = .ok (.invokevirtual 84, 3) := by decide +kernel
theorem dX9_count_14 : decode cX9_count 14 = .ok (.goto 6, 3) := by decide +kernel
theorem dX9_count_17 : decode cX9_count 17 = .ok (.sipush (-1001), 3) := by decide +kernel
theorem dX9_count_20 : decode cX9_count 20 = .ok (.ireturn, 1) := by decide +kernel
theorem dX9_sees_0 : decode cX9_sees 0 = .ok (.iload_n 2, 1) := by decide +kernel
theorem dX9_sees_1 : decode cX9_sees 1 = .ok (.aload_n 0, 1) := by decide +kernel
theorem dX9_sees_2 : decode cX9_sees 2 = .ok (.getfield 7, 3) := by decide +kernel
theorem dX9_sees_5 : decode cX9_sees 5 = .ok (.irem, 1) := by decide +kernel
theorem dX9_sees_6 : decode cX9_sees 6 = .ok (.iload_n 1, 1) := by decide +kernel
theorem dX9_sees_7 : decode cX9_sees 7 = .ok (.aload_n 0, 1) := by decide +kernel
theorem dX9_sees_8 : decode cX9_sees 8 = .ok (.getfield 7, 3) := by decide +kernel
theorem dX9_sees_11 : decode cX9_sees 11 = .ok (.irem, 1) := by decide +kernel
theorem dX9_sees_12 : decode cX9_sees 12 = .ok (.isub, 1) := by decide +kernel
theorem dX9_sees_13 : decode cX9_sees 13 = .ok (.istore_n 3, 1) := by decide +kernel
theorem dX9_sees_14 : decode cX9_sees 14 = .ok (.iload_n 2, 1) := by decide +kernel
theorem dX9_sees_15 : decode cX9_sees 15 = .ok (.aload_n 0, 1) := by decide +kernel
theorem dX9_sees_16 : decode cX9_sees 16 = .ok (.getfield 7, 3) := by decide +kernel
theorem dX9_sees_19 : decode cX9_sees 19 = .ok (.idiv, 1) := by decide +kernel
theorem dX9_sees_20 : decode cX9_sees 20 = .ok (.iload_n 1, 1) := by decide +kernel
theorem dX9_sees_21 : decode cX9_sees 21 = .ok (.aload_n 0, 1) := by decide +kernel
theorem dX9_sees_22 : decode cX9_sees 22 = .ok (.getfield 7, 3) := by decide +kernel
theorem dX9_sees_25 : decode cX9_sees 25 = .ok (.idiv, 1) := by decide +kernel
theorem dX9_sees_26 : decode cX9_sees 26 = .ok (.isub, 1) := by decide +kernel
theorem dX9_sees_27 : decode cX9_sees 27 = .ok (.istore 4, 2) := by decide +kernel
theorem dX9_sees_29 : decode cX9_sees 29 = .ok (.iload_n 3, 1) := by decide +kernel
theorem dX9_sees_30 : decode cX9_sees 30 = .ok (.ifCond .le 7, 3) := by decide +kernel
theorem dX9_sees_33 : decode cX9_sees 33 = .ok (.iconst 1, 1) := by decide +kernel
theorem dX9_sees_34 : decode cX9_sees 34 = .ok (.goto 12, 3) := by decide +kernel
theorem dX9_sees_37 : decode cX9_sees 37 = .ok (.iload_n 3, 1) := by decide +kernel
theorem dX9_sees_38 : decode cX9_sees 38 = .ok (.ifCond .ge 7, 3) := by decide +kernel
theorem dX9_sees_41 : decode cX9_sees 41 = .ok (.iconst (-1), 1) := by decide +kernel
theorem dX9_sees_42 : decode cX9_sees 42 = .ok (.goto 4, 3) := by decide +kernel
theorem dX9_sees_45 : decode cX9_sees 45 = .ok (.iconst 0, 1) := by decide +kernel
theorem dX9_sees_46 : decode cX9_sees 46 = .ok (.istore 5, 2) := by decide +kernel
theorem dX9_sees_48 : decode cX9_sees 48 = .ok (.iload 4, 2) := by decide +kernel
theorem dX9_sees_50 : decode cX9_sees 50 = .ok (.ifCond .le 7, 3) := by decide +kernel
theorem dX9_sees_53 : decode cX9_sees 53 = .ok (.iconst 1, 1) := by decide +kernel
theorem dX9_sees_54 : decode cX9_sees 54 = .ok (.goto 13, 3) := by decide +kernel
theorem dX9_sees_57 : decode cX9_sees 57 = .ok (.iload 4, 2) := by decide +kernel
theorem dX9_sees_59 : decode cX9_sees 59 = .ok (.ifCond .ge 7, 3) := by decide +kernel
theorem dX9_sees_62 : decode cX9_sees 62 = .ok (.iconst (-1), 1) := by decide +kernel
theorem dX9_sees_63 : decode cX9_sees 63 = .ok (.goto 4, 3) := by decide +kernel
theorem dX9_sees_66 : decode cX9_sees 66 = .ok (.iconst 0, 1) := by decide +kernel
theorem dX9_sees_67 : decode cX9_sees 67 = .ok (.istore 6, 2) := by decide +kernel
theorem dX9_sees_69 : decode cX9_sees 69 = .ok (.iload_n 1, 1) := by decide +kernel
theorem dX9_sees_70 : decode cX9_sees 70 = .ok (.iload_n 2, 1) := by decide +kernel
theorem dX9_sees_71 : decode cX9_sees 71 = .ok (.if_icmp .eq 28, 3) := by decide +kernel
theorem dX9_sees_74 : decode cX9_sees 74 = .ok (.iload_n 3, 1) := by decide +kernel
theorem dX9_sees_75 : decode cX9_sees 75 = .ok (.ifCond .eq 20, 3) := by decide +kernel
theorem dX9_sees_78 : decode cX9_sees 78 = .ok (.iload 4, 2) := by decide +kernel
theorem dX9_sees_80 : decode cX9_sees 80 = .ok (.ifCond .eq 15, 3) := by decide +kernel
theorem dX9_sees_83 : decode cX9_sees 83 = .ok (.iload_n 3, 1) := by decide +kernel
theorem dX9_sees_84 : decode cX9_sees 84 = .ok (.iload 5, 2) := by decide +kernel
theorem dX9_sees_86 : decode cX9_sees 86 = .ok (.imul, 1) := by decide +kernel
theorem dX9_sees_87 : decode cX9_sees 87 = .ok (.iload 4, 2) := by decide +kernel
theorem dX9_sees_89 : decode cX9_sees 89 = .ok (.iload 6, 2) := by decide +kernel
theorem dX9_sees_91 : decode cX9_sees 91 = .ok (.imul, 1) := by decide +kernel
theorem dX9_sees_92 : decode cX9_sees 92 = .ok (.if_icmp .ne 7, 3) := by decide +kernel
theorem dX9_sees_95 : decode cX9_sees 95 = .ok (.iconst 1, 1) := by decide +kernel
theorem dX9_sees_96 : decode cX9_sees 96 = .ok (.goto 4, 3) := by decide +kernel
theorem dX9_sees_99 : decode cX9_sees 99 = .ok (.iconst 0, 1) := by decide +kernel
theorem dX9_sees_100 : decode cX9_sees 100 = .ok (.istore 7, 2) := by decide +kernel
theorem dX9_sees_102 : decode cX9_sees 102 = .ok (.iload_n 1, 1) := by decide +kernel
theorem dX9_sees_103 : decode cX9_sees 103 = .ok (.istore 8, 2) := by decide +kernel
theorem dX9_sees_105 : decode cX9_sees 105 = .ok (.iload 7, 2) := by decide +kernel
theorem dX9_sees_107 : decode cX9_sees 107 = .ok (.ifCond .eq 44, 3) := by decide +kernel
theorem dX9_sees_110 : decode cX9_sees 110 = .ok (.iload 8, 2) := by decide +kernel
theorem dX9_sees_112 : decode cX9_sees 112 = .ok (.iload_n 2, 1) := by decide +kernel
theorem dX9_sees_113 : decode cX9_sees 113 = .ok (.if_icmp .eq 38, 3) := by decide +kernel
theorem dX9_sees_116 : decode cX9_sees 116 = .ok (.iload 8, 2) := by decide +kernel
theorem dX9_sees_118 : decode cX9_sees 118 = .ok (.iload 5, 2) := by decide +kernel
theorem dX9_sees_120 : decode cX9_sees 120 = .ok (.aload_n 0, 1) := by decide +kernel
theorem dX9_sees_121 : decode cX9_sees 121 = .ok (.getfield 7, 3) := by decide +kernel
theorem dX9_sees_124 : decode cX9_sees 124 = .ok (.iload 6, 2) := by decide +kernel
theorem dX9_sees_126 : decode cX9_sees 126 = .ok (.imul, 1) := by decide +kernel
theorem dX9_sees_127 : decode cX9_sees 127 = .ok (.iadd, 1) := by decide +kernel
theorem dX9_sees_128 : decode cX9_sees 128 = .ok (.iadd, 1) := by decide +kernel
theorem dX9_sees_129 : decode cX9_sees 129 = .ok (.istore 8, 2) := by decide +kernel
theorem dX9_sees_131 : decode cX9_sees 131 = .ok (.aload_n 0, 1) := by decide +kernel
theorem dX9_sees_132 : decode cX9_sees 132 = .ok (.getfield 20, 3) := by decide +kernel
theorem dX9_sees_135 : decode cX9_sees 135 = .ok (.iload 8, 2) := by decide +kernel
theorem dX9_sees_137 : decode cX9_sees 137 = .ok (.iaload, 1) := by decide +kernel
theorem dX9_sees_138 : decode cX9_sees 138 = .ok (.ifCond .ne 7, 3) := by decide +kernel
theorem dX9_sees_141 : decode cX9_sees 141 = .ok (.iconst 1, 1) := by decide +kernel
theorem dX9_sees_142 : decode cX9_sees 142 = .ok (.goto 4, 3) := by decide +kernel
theorem dX9_sees_145 : decode cX9_sees 145 = .ok (.iconst 0, 1) := by decide +kernel
theorem dX9_sees_146 : decode cX9_sees 146 = .ok (.istore 7, 2) := by decide +kernel
theorem dX9_sees_148 : decode cX9_sees 148 = .ok (.goto (-43), 3) := by decide +kernel
theorem dX9_sees_151 : decode cX9_sees 151 = .ok (.iload 7, 2) := by decide +kernel
theorem dX9_sees_153 : decode cX9_sees 153 = .ok (.ireturn, 1) := by decide +kernel
theorem dX9_shows_0 : decode cX9_shows 0 = .ok (.iconst 0, 1) := by decide +kernel
theorem dX9_shows_1 : decode cX9_shows 1 = .ok (.istore_n 1, 1) := by decide +kernel
theorem dX9_shows_2 : decode cX9_shows 2 = .ok (.iload_n 1, 1) := by decide +kernel
theorem dX9_shows_3 : decode cX9_shows 3 = .ok (.bipush 15, 2) := by decide +kernel
theorem dX9_shows_5 : decode cX9_shows 5 = .ok (.if_icmp .ge 21, 3) := by decide +kernel
theorem dX9_shows_8 : decode cX9_shows 8 = .ok (.aload_n 0, 1) := by decide +kernel
theorem dX9_shows_9 : decode cX9_shows 9 = .ok (.getfield 20, 3) := by decide +kernel
theorem dX9_shows_12 : decode cX9_shows 12 = .ok (.iload_n 1, 1) := by decide +kernel
theorem dX9_shows_13 : decode cX9_shows 13 = .ok (.aload_n 0, 1) := by decide +kernel
theorem dX9_shows_14 : decode cX9_shows 14 = .ok (.getfield 16, 3) := by decide +kernel
theorem dX9_shows_17 : decode cX9_shows 17 = .ok (.iload_n 1, 1) := by decide +kernel
theorem dX9_shows_18 : decode cX9_shows 18 = .ok (.iaload, 1) := by decide +kernel
theorem dX9_shows_19 : decode cX9_shows 19 = .ok (.iastore, 1) := by decide +kernel
theorem dX9_shows_20 : decode cX9_shows 20 = .ok (.iinc 1 1, 3) := by decide +kernel
theorem dX9_shows_23 : decode cX9_shows 23 = .ok (.goto (-21), 3) := by decide +kernel
theorem dX9_shows_26 : decode cX9_shows 26 = .ok (.return_, 1) := by decide +kernel
theorem dX9_isSeen_0 : decode cX9_isSeen 0 = .ok (.aload_n 0, 1) := by decide +kernel
theorem dX9_isSeen_1 : decode cX9_isSeen 1 = .ok (.iload_n 1, 1) := by decide +kernel
theorem dX9_isSeen_2 : decode cX9_isSeen 2 = .ok (.invokevirtual 77, 3) := by decide +kernel
theorem dX9_isSeen_5 : decode cX9_isSeen 5 = .ok (.ifCond .eq 11, 3) := by decide +kernel
theorem dX9_isSeen_8 : decode cX9_isSeen 8 = .ok (.aload_n 0, 1) := by decide +kernel
theorem dX9_isSeen_9 : decode cX9_isSeen 9 = .ok (.iload_n 2, 1) := by decide +kernel
theorem dX9_isSeen_10 : decode cX9_isSeen 10 = .ok (.invokevirtual 77, 3) := by decide +kernel
theorem dX9_isSeen_13 : decode cX9_isSeen 13 = .ok (.ifCond .ne 7, 3) := by decide +kernel
theorem dX9_isSeen_16 : decode cX9_isSeen 16 = .ok (.sipush (-1001), 3) := by decide +kernel
theorem dX9_isSeen_19 : decode cX9_isSeen 19 = .ok (.ireturn, 1) := by decide +kernel
theorem dX9_isSeen_20 : decode cX9_isSeen 20 = .ok (.aload_n 0, 1) := by decide +kernel
theorem dX9_isSeen_21 : decode cX9_isSeen 21 = .ok (.invokevirtual 95, 3) := by decide +kernel
theorem dX9_isSeen_24 : decode cX9_isSeen 24 = .ok (.aload_n 0, 1) := by decide +kernel
theorem dX9_isSeen_25 : decode cX9_isSeen 25 = .ok (.iload_n 1, 1) := by decide +kernel
theorem dX9_isSeen_26 : decode cX9_isSeen 26 = .ok (.iload_n 2, 1) := by decide +kernel
theorem dX9_isSeen_27 : decode cX9_isSeen 27 = .ok (.invokevirtual 98, 3) := by decide +kernel
theorem dX9_isSeen_30 : decode cX9_isSeen 30 = .ok (.ifCond .eq 7, 3) := by decide +kernel
theorem dX9_isSeen_33 : decode cX9_isSeen 33 = .ok (.iconst 1, 1) := by decide +kernel
theorem dX9_isSeen_34 : decode cX9_isSeen 34 = .ok (.goto 4, 3) := by decide +kernel
theorem dX9_isSeen_37 : decode cX9_isSeen 37 = .ok (.iconst 0, 1) := by decide +kernel
theorem dX9_isSeen_38 : decode cX9_isSeen 38 = .ok (.ireturn, 1) := by decide +kernel
theorem dX9_undo_0 : decode cX9_undo 0 = .ok (.aload_n 0, 1) := by decide +kernel
theorem dX9_undo_1 : decode cX9_undo 1 = .ok (.getfield 68, 3) := by decide +kernel
theorem dX9_undo_4 : decode cX9_undo 4 = .ok (.ifCond .ne 7, 3) := by decide +kernel
theorem dX9_undo_7 : decode cX9_undo 7 = .ok (.sipush (-1002), 3) := by decide +kernel
theorem dX9_undo_10 : decode cX9_undo 10 = .ok (.ireturn, 1) := by decide +kernel
theorem dX9_undo_11 : decode cX9_undo 11 = .ok (.aload_n 0, 1) := by decide +kernel
theorem dX9_undo_12 : decode cX9_undo 12 = .ok (.dup, 1) := by decide +kernel
theorem dX9_undo_13 : decode cX9_undo 13 = .ok (.getfield 68, 3) := by decide +kernel
theorem dX9_undo_16 : decode cX9_undo 16 = .ok (.iconst 1, 1) := by decide +kernel
theorem dX9_undo_17 : decode cX9_undo 17 = .ok (.isub, 1) := by decide +kernel
theorem dX9_undo_18 : decode cX9_undo 18 = .ok (.putfield 68, 3) := by decide +kernel
theorem dX9_undo_21 : decode cX9_undo 21 = .ok (.bipush 17, 2) := by decide +kernel
theorem dX9_undo_23 : decode cX9_undo 23 = .ok (.aload_n 0, 1) := by decide +kernel
theorem dX9_undo_24 : decode cX9_undo 24 = .ok (.getfield 68, 3) := by decide +kernel
theorem dX9_undo_27 : decode cX9_undo 27 = .ok (.imul, 1) := by decide +kernel
theorem dX9_undo_28 : decode cX9_undo 28 = .ok (.istore_n 1, 1) := by decide +kernel
theorem dX9_undo_29 : decode cX9_undo 29 = .ok (.aload_n 0, 1) := by decide +kernel
theorem dX9_undo_30 : decode cX9_undo 30 = .ok (.aload_n 0, 1) := by decide +kernel
theorem dX9_undo_31 : decode cX9_undo 31 = .ok (.getfield 23, 3) := by decide +kernel
theorem dX9_undo_34 : decode cX9_undo 34 = .ok (.iload_n 1, 1) := by decide +kernel
theorem dX9_undo_35 : decode cX9_undo 35 = .ok (.iaload, 1) := by decide +kernel
theorem dX9_undo_36 : decode cX9_undo 36 = .ok (.aload_n 0, 1) := by decide +kernel
theorem dX9_undo_37 : decode cX9_undo 37 = .ok (.getfield 7, 3) := by decide +kernel
theorem dX9_undo_40 : decode cX9_undo 40 = .ok (.if_icmp .ne 25, 3) := by decide +kernel
theorem dX9_undo_43 : decode cX9_undo 43 = .ok (.aload_n 0, 1) := by decide +kernel
theorem dX9_undo_44 : decode cX9_undo 44 = .ok (.getfield 23, 3) := by decide +kernel
theorem dX9_undo_47 : decode cX9_undo 47 = .ok (.iload_n 1, 1) := by decide +kernel
theorem dX9_undo_48 : decode cX9_undo 48 = .ok (.iconst 1, 1) := by decide +kernel
theorem dX9_undo_49 : decode cX9_undo 49 = .ok (.iadd, 1) := by decide +kernel
theorem dX9_undo_50 : decode cX9_undo 50 = .ok (.iaload, 1) := by decide +kernel
theorem dX9_undo_51 : decode cX9_undo 51 = .ok (.aload_n 0, 1) := by decide +kernel
theorem dX9_undo_52 : decode cX9_undo 52 = .ok (.getfield 13, 3) := by decide +kernel
theorem dX9_undo_55 : decode cX9_undo 55 = .ok (.if_icmp .ne 10, 3) := by decide +kernel
theorem dX9_undo_58 : decode cX9_undo 58 = .ok (.aload_n 0, 1) := by decide +kernel
theorem dX9_undo_59 : decode cX9_undo 59 = .ok (.getfield 74, 3) := by decide +kernel
theorem dX9_undo_62 : decode cX9_undo 62 = .ok (.goto 4, 3) := by decide +kernel
theorem dX9_undo_65 : decode cX9_undo 65 = .ok (.iconst 0, 1) := by decide +kernel
theorem dX9_undo_66 : decode cX9_undo 66 = .ok (.putfield 74, 3) := by decide +kernel
theorem dX9_undo_69 : decode cX9_undo 69 = .ok (.aload_n 0, 1) := by decide +kernel
theorem dX9_undo_70 : decode cX9_undo 70 = .ok (.aload_n 0, 1) := by decide +kernel
theorem dX9_undo_71 : decode cX9_undo 71 = .ok (.getfield 23, 3) := by decide +kernel
theorem dX9_undo_74 : decode cX9_undo 74 = .ok (.iload_n 1, 1) := by decide +kernel
theorem dX9_undo_75 : decode cX9_undo 75 = .ok (.iaload, 1) := by decide +kernel
theorem dX9_undo_76 : decode cX9_undo 76 = .ok (.putfield 7, 3) := by decide +kernel
theorem dX9_undo_79 : decode cX9_undo 79 = .ok (.aload_n 0, 1) := by decide +kernel
theorem dX9_undo_80 : decode cX9_undo 80 = .ok (.aload_n 0, 1) := by decide +kernel
theorem dX9_undo_81 : decode cX9_undo 81 = .ok (.getfield 23, 3) := by decide +kernel
theorem dX9_undo_84 : decode cX9_undo 84 = .ok (.iload_n 1, 1) := by decide +kernel
theorem dX9_undo_85 : decode cX9_undo 85 = .ok (.iconst 1, 1) := by decide +kernel
theorem dX9_undo_86 : decode cX9_undo 86 = .ok (.iadd, 1) := by decide +kernel
theorem dX9_undo_87 : decode cX9_undo 87 = .ok (.iaload, 1) := by decide +kernel
theorem dX9_undo_88 : decode cX9_undo 88 = .ok (.putfield 13, 3) := by decide +kernel
theorem dX9_undo_91 : decode cX9_undo 91 = .ok (.iconst 0, 1) := by decide +kernel
theorem dX9_undo_92 : decode cX9_undo 92 = .ok (.istore_n 2, 1) := by decide +kernel
theorem dX9_undo_93 : decode cX9_undo 93 = .ok (.iload_n 2, 1) := by decide +kernel
theorem dX9_undo_94 : decode cX9_undo 94 = .ok (.bipush 15, 2) := by decide +kernel
theorem dX9_undo_96 : decode cX9_undo 96 = .ok (.if_icmp .ge 25, 3) := by decide +kernel
theorem dX9_undo_99 : decode cX9_undo 99 = .ok (.aload_n 0, 1) := by decide +kernel
theorem dX9_undo_100 : decode cX9_undo 100 = .ok (.getfield 16, 3) := by decide +kernel
theorem dX9_undo_103 : decode cX9_undo 103 = .ok (.iload_n 2, 1) := by decide +kernel
theorem dX9_undo_104 : decode cX9_undo 104 = .ok (.aload_n 0, 1) := by decide +kernel
theorem dX9_undo_105 : decode cX9_undo 105 = .ok (.getfield 23, 3) := by decide +kernel
theorem dX9_undo_108 : decode cX9_undo 108 = .ok (.iload_n 1, 1) := by decide +kernel
theorem dX9_undo_109 : decode cX9_undo 109 = .ok (.iconst 2, 1) := by decide +kernel
theorem dX9_undo_110 : decode cX9_undo 110 = .ok (.iadd, 1) := by decide +kernel
theorem dX9_undo_111 : decode cX9_undo 111 = .ok (.iload_n 2, 1) := by decide +kernel
theorem dX9_undo_112 : decode cX9_undo 112 = .ok (.iadd, 1) := by decide +kernel
theorem dX9_undo_113 : decode cX9_undo 113 = .ok (.iaload, 1) := by decide +kernel
theorem dX9_undo_114 : decode cX9_undo 114 = .ok (.iastore, 1) := by decide +kernel
theorem dX9_undo_115 : decode cX9_undo 115 = .ok (.iinc 2 1, 3) := by decide +kernel
theorem dX9_undo_118 : decode cX9_undo 118 = .ok (.goto (-25), 3) := by decide +kernel
theorem dX9_undo_121 : decode cX9_undo 121 = .ok (.aload_n 0, 1) := by decide +kernel
theorem dX9_undo_122 : decode cX9_undo 122 = .ok (.getfield 68, 3) := by decide +kernel
theorem dX9_undo_125 : decode cX9_undo 125 = .ok (.ireturn, 1) := by decide +kernel
theorem dX9_lists_0 : decode cX9_lists 0 = .ok (.aload_n 0, 1) := by decide +kernel
theorem dX9_lists_1 : decode cX9_lists 1 = .ok (.iconst 0, 1) := by decide +kernel
theorem dX9_lists_2 : decode cX9_lists 2 = .ok (.putfield 102, 3) := by decide +kernel
theorem dX9_lists_5 : decode cX9_lists 5 = .ok (.iconst 0, 1) := by decide +kernel
theorem dX9_lists_6 : decode cX9_lists 6 = .ok (.istore_n 2, 1) := by decide +kernel
theorem dX9_lists_7 : decode cX9_lists 7 = .ok (.iload_n 2, 1) := by decide +kernel
theorem dX9_lists_8 : decode cX9_lists 8 = .ok (.aload_n 0, 1) := by decide +kernel
theorem dX9_lists_9 : decode cX9_lists 9 = .ok (.invokevirtual 60, 3) := by decide +kernel
theorem dX9_lists_12 : decode cX9_lists 12 = .ok (.if_icmp .ge 132, 3) := by decide +kernel
theorem dX9_lists_15 : decode cX9_lists 15 = .ok (.iconst 0, 1) := by decide +kernel
theorem dX9_lists_16 : decode cX9_lists 16 = .ok (.istore_n 3, 1) := by decide +kernel
theorem dX9_lists_17 : decode cX9_lists 17 = .ok (.iload_n 3, 1) := by decide +kernel
theorem dX9_lists_18 : decode cX9_lists 18 = .ok (.aload_n 0, 1) := by decide +kernel
theorem dX9_lists_19 : decode cX9_lists 19 = .ok (.invokevirtual 60, 3) := by decide +kernel
theorem dX9_lists_22 : decode cX9_lists 22 = .ok (.if_icmp .ge 116, 3) := by decide +kernel
theorem dX9_lists_25 : decode cX9_lists 25 = .ok (.aload_n 0, 1) := by decide +kernel
theorem dX9_lists_26 : decode cX9_lists 26 = .ok (.getfield 20, 3) := by decide +kernel
theorem dX9_lists_29 : decode cX9_lists 29 = .ok (.iload_n 2, 1) := by decide +kernel
theorem dX9_lists_30 : decode cX9_lists 30 = .ok (.iaload, 1) := by decide +kernel
theorem dX9_lists_31 : decode cX9_lists 31 = .ok (.iload_n 1, 1) := by decide +kernel
theorem dX9_lists_32 : decode cX9_lists 32 = .ok (.if_icmp .ne 106, 3) := by decide +kernel
theorem dX9_lists_35 : decode cX9_lists 35 = .ok (.aload_n 0, 1) := by decide +kernel
theorem dX9_lists_36 : decode cX9_lists 36 = .ok (.iload_n 2, 1) := by decide +kernel
theorem dX9_lists_37 : decode cX9_lists 37 = .ok (.iload_n 3, 1) := by decide +kernel
theorem dX9_lists_38 : decode cX9_lists 38 = .ok (.invokevirtual 98, 3) := by decide +kernel
theorem dX9_lists_41 : decode cX9_lists 41 = .ok (.ifCond .eq 91, 3) := by decide +kernel
theorem dX9_lists_44 : decode cX9_lists 44 = .ok (.aload_n 0, 1) := by decide +kernel
theorem dX9_lists_45 : decode cX9_lists 45 = .ok (.getfield 20, 3) := by decide +kernel
theorem dX9_lists_48 : decode cX9_lists 48 = .ok (.iload_n 2, 1) := by decide +kernel
theorem dX9_lists_49 : decode cX9_lists 49 = .ok (.iconst 0, 1) := by decide +kernel
theorem dX9_lists_50 : decode cX9_lists 50 = .ok (.iastore, 1) := by decide +kernel
theorem dX9_lists_51 : decode cX9_lists 51 = .ok (.aload_n 0, 1) := by decide +kernel
theorem dX9_lists_52 : decode cX9_lists 52 = .ok (.getfield 20, 3) := by decide +kernel
theorem dX9_lists_55 : decode cX9_lists 55 = .ok (.iload_n 3, 1) := by decide +kernel
theorem dX9_lists_56 : decode cX9_lists 56 = .ok (.iload_n 1, 1) := by decide +kernel
theorem dX9_lists_57 : decode cX9_lists 57 = .ok (.iastore, 1) := by decide +kernel
theorem dX9_lists_58 : decode cX9_lists 58 = .ok (.iconst 0, 1) := by decide +kernel
theorem dX9_lists_59 : decode cX9_lists 59 = .ok (.istore 4, 2) := by decide +kernel
theorem dX9_lists_61 : decode cX9_lists 61 = .ok (.iload 4, 2) := by decide +kernel
theorem dX9_lists_63 : decode cX9_lists 63 = .ok (.aload_n 0, 1) := by decide +kernel
theorem dX9_lists_64 : decode cX9_lists 64 = .ok (.invokevirtual 60, 3) := by decide +kernel
theorem dX9_lists_67 : decode cX9_lists 67 = .ok (.if_icmp .ge 51, 3) := by decide +kernel
theorem dX9_lists_70 : decode cX9_lists 70 = .ok (.aload_n 0, 1) := by decide +kernel
theorem dX9_lists_71 : decode cX9_lists 71 = .ok (.iload_n 3, 1) := by decide +kernel
theorem dX9_lists_72 : decode cX9_lists 72 = .ok (.iload 4, 2) := by decide +kernel
theorem dX9_lists_74 : decode cX9_lists 74 = .ok (.invokevirtual 98, 3) := by decide +kernel
theorem dX9_lists_77 : decode cX9_lists 77 = .ok (.ifCond .eq 35, 3) := by decide +kernel
theorem dX9_lists_80 : decode cX9_lists 80 = .ok (.aload_n 0, 1) := by decide +kernel
theorem dX9_lists_81 : decode cX9_lists 81 = .ok (.getfield 32, 3) := by decide +kernel
theorem dX9_lists_84 : decode cX9_lists 84 = .ok (.aload_n 0, 1) := by decide +kernel
theorem dX9_lists_85 : decode cX9_lists 85 = .ok (.getfield 102, 3) := by decide +kernel
theorem dX9_lists_88 : decode cX9_lists 88 = .ok (.sipush 225, 3) := by decide +kernel
theorem dX9_lists_91 : decode cX9_lists 91 = .ok (.iload_n 2, 1) := by decide +kernel
theorem dX9_lists_92 : decode cX9_lists 92 = .ok (.imul, 1) := by decide +kernel
theorem dX9_lists_93 : decode cX9_lists 93 = .ok (.bipush 15, 2) := by decide +kernel
theorem dX9_lists_95 : decode cX9_lists 95 = .ok (.iload_n 3, 1) := by decide +kernel
theorem dX9_lists_96 : decode cX9_lists 96 = .ok (.imul, 1) := by decide +kernel
theorem dX9_lists_97 : decode cX9_lists 97 = .ok (.iadd, 1) := by decide +kernel
theorem dX9_lists_98 : decode cX9_lists 98 = .ok (.iload 4, 2) := by decide +kernel
theorem dX9_lists_100 : decode cX9_lists 100 = .ok (.iadd, 1) := by decide +kernel
theorem dX9_lists_101 : decode cX9_lists 101 = .ok (.iastore, 1) := by decide +kernel
theorem dX9_lists_102 : decode cX9_lists 102 = .ok (.aload_n 0, 1) := by decide +kernel
theorem dX9_lists_103 : decode cX9_lists 103 = .ok (.dup, 1) := by decide +kernel
theorem dX9_lists_104 : decode cX9_lists 104 = .ok (.getfield 102, 3) := by decide +kernel
theorem dX9_lists_107 : decode cX9_lists 107 = .ok (.iconst 1, 1) := by decide +kernel
theorem dX9_lists_108 : decode cX9_lists 108 = .ok (.iadd, 1) := by decide +kernel
theorem dX9_lists_109 : decode cX9_lists 109 = .ok (.putfield 102, 3) := by decide +kernel
theorem dX9_lists_112 : decode cX9_lists 112 = .ok (.iinc 4 1, 3) := by decide +kernel
theorem dX9_lists_115 : decode cX9_lists 115 = .ok (.goto (-54), 3) := by decide +kernel
theorem dX9_lists_118 : decode cX9_lists 118 = .ok (.aload_n 0, 1) := by decide +kernel
theorem dX9_lists_119 : decode cX9_lists 119 = .ok (.getfield 20, 3) := by decide +kernel
theorem dX9_lists_122 : decode cX9_lists 122 = .ok (.iload_n 3, 1) := by decide +kernel
theorem dX9_lists_123 : decode cX9_lists 123 = .ok (.iconst 0, 1) := by decide +kernel
theorem dX9_lists_124 : decode cX9_lists 124 = .ok (.iastore, 1) := by decide +kernel
theorem dX9_lists_125 : decode cX9_lists 125 = .ok (.aload_n 0, 1) := by decide +kernel
theorem dX9_lists_126 : decode cX9_lists 126 = .ok (.getfield 20, 3) := by decide +kernel
theorem dX9_lists_129 : decode cX9_lists 129 = .ok (.iload_n 2, 1) := by decide +kernel
theorem dX9_lists_130 : decode cX9_lists 130 = .ok (.iload_n 1, 1) := by decide +kernel
theorem dX9_lists_131 : decode cX9_lists 131 = .ok (.iastore, 1) := by decide +kernel
theorem dX9_lists_132 : decode cX9_lists 132 = .ok (.iinc 3 1, 3) := by decide +kernel
theorem dX9_lists_135 : decode cX9_lists 135 = .ok (.goto (-118), 3) := by decide +kernel
theorem dX9_lists_138 : decode cX9_lists 138 = .ok (.iinc 2 1, 3) := by decide +kernel
theorem dX9_lists_141 : decode cX9_lists 141 = .ok (.goto (-134), 3) := by decide +kernel
theorem dX9_lists_144 : decode cX9_lists 144 = .ok (.return_, 1) := by decide +kernel
theorem dX9_movesNow_0 : decode cX9_movesNow 0 = .ok (.aload_n 0, 1) := by decide +kernel
theorem dX9_movesNow_1 : decode cX9_movesNow 1 = .ok (.invokevirtual 95, 3) := by decide +kernel
theorem dX9_movesNow_4 : decode cX9_movesNow 4 = .ok (.aload_n 0, 1) := by decide +kernel
theorem dX9_movesNow_5 : decode cX9_movesNow 5 = .ok (.iload_n 1, 1) := by decide +kernel
theorem dX9_movesNow_6 : decode cX9_movesNow 6 = .ok (.invokevirtual 105, 3) := by decide +kernel
theorem dX9_movesNow_9 : decode cX9_movesNow 9 = .ok (.aload_n 0, 1) := by decide +kernel
theorem dX9_movesNow_10 : decode cX9_movesNow 10 = .ok (.getfield 102, 3) := by decide +kernel
theorem dX9_movesNow_13 : decode cX9_movesNow 13 = .ok (.ireturn, 1) := by decide +kernel
theorem dX9_noMove_0 : decode cX9_noMove 0 = .ok (.iload_n 1, 1) := by decide +kernel
theorem dX9_noMove_1 : decode cX9_noMove 1 = .ok (.invokestatic 81, 3) := by decide +kernel
theorem dX9_noMove_4 : decode cX9_noMove 4 = .ok (.ifCond .eq 28, 3) := by decide +kernel
theorem dX9_noMove_7 : decode cX9_noMove 7 = .ok (.aload_n 0, 1) := by decide +kernel
theorem dX9_noMove_8 : decode cX9_noMove 8 = .ok (.iload_n 2, 1) := by decide +kernel
theorem dX9_noMove_9 : decode cX9_noMove 9 = .ok (.invokevirtual 77, 3) := by decide +kernel
theorem dX9_noMove_12 : decode cX9_noMove 12 = .ok (.ifCond .eq 20, 3) := by decide +kernel
theorem dX9_noMove_15 : decode cX9_noMove 15 = .ok (.aload_n 0, 1) := by decide +kernel
theorem dX9_noMove_16 : decode cX9_noMove 16 = .ok (.iload_n 3, 1) := by decide +kernel
theorem dX9_noMove_17 : decode cX9_noMove 17 = .ok (.invokevirtual 77, 3) := by decide +kernel
theorem dX9_noMove_20 : decode cX9_noMove 20 = .ok (.ifCond .eq 12, 3) := by decide +kernel
theorem dX9_noMove_23 : decode cX9_noMove 23 = .ok (.aload_n 0, 1) := by decide +kernel
theorem dX9_noMove_24 : decode cX9_noMove 24 = .ok (.iload 4, 2) := by decide +kernel
theorem dX9_noMove_26 : decode cX9_noMove 26 = .ok (.invokevirtual 77, 3) := by decide +kernel
theorem dX9_noMove_29 : decode cX9_noMove 29 = .ok (.ifCond .ne 7, 3) := by decide +kernel
theorem dX9_noMove_32 : decode cX9_noMove 32 = .ok (.sipush (-1001), 3) := by decide +kernel
theorem dX9_noMove_35 : decode cX9_noMove 35 = .ok (.ireturn, 1) := by decide +kernel
theorem dX9_noMove_36 : decode cX9_noMove 36 = .ok (.aload_n 0, 1) := by decide +kernel
theorem dX9_noMove_37 : decode cX9_noMove 37 = .ok (.iload_n 1, 1) := by decide +kernel
theorem dX9_noMove_38 : decode cX9_noMove 38 = .ok (.invokevirtual 109, 3) := by decide +kernel
theorem dX9_noMove_41 : decode cX9_noMove 41 = .ok (.pop, 1) := by decide +kernel
theorem dX9_noMove_42 : decode cX9_noMove 42 = .ok (.iconst 0, 1) := by decide +kernel
theorem dX9_noMove_43 : decode cX9_noMove 43 = .ok (.istore 5, 2) := by decide +kernel
theorem dX9_noMove_45 : decode cX9_noMove 45 = .ok (.iload 5, 2) := by decide +kernel
theorem dX9_noMove_47 : decode cX9_noMove 47 = .ok (.aload_n 0, 1) := by decide +kernel
theorem dX9_noMove_48 : decode cX9_noMove 48 = .ok (.getfield 102, 3) := by decide +kernel
theorem dX9_noMove_51 : decode cX9_noMove 51 = .ok (.if_icmp .ge 34, 3) := by decide +kernel
theorem dX9_noMove_54 : decode cX9_noMove 54 = .ok (.aload_n 0, 1) := by decide +kernel
theorem dX9_noMove_55 : decode cX9_noMove 55 = .ok (.getfield 32, 3) := by decide +kernel
theorem dX9_noMove_58 : decode cX9_noMove 58 = .ok (.iload 5, 2) := by decide +kernel
theorem dX9_noMove_60 : decode cX9_noMove 60 = .ok (.iaload, 1) := by decide +kernel
theorem dX9_noMove_61 : decode cX9_noMove 61 = .ok (.sipush 225, 3) := by decide +kernel
theorem dX9_noMove_64 : decode cX9_noMove 64 = .ok (.iload_n 2, 1) := by decide +kernel
theorem dX9_noMove_65 : decode cX9_noMove 65 = .ok (.imul, 1) := by decide +kernel
theorem dX9_noMove_66 : decode cX9_noMove 66 = .ok (.bipush 15, 2) := by decide +kernel
theorem dX9_noMove_68 : decode cX9_noMove 68 = .ok (.iload_n 3, 1) := by decide +kernel
theorem dX9_noMove_69 : decode cX9_noMove 69 = .ok (.imul, 1) := by decide +kernel
theorem dX9_noMove_70 : decode cX9_noMove 70 = .ok (.iadd, 1) := by decide +kernel
theorem dX9_noMove_71 : decode cX9_noMove 71 = .ok (.iload 4, 2) := by decide +kernel
theorem dX9_noMove_73 : decode cX9_noMove 73 = .ok (.iadd, 1) := by decide +kernel
theorem dX9_noMove_74 : decode cX9_noMove 74 = .ok (.if_icmp .ne 5, 3) := by decide +kernel
theorem dX9_noMove_77 : decode cX9_noMove 77 = .ok (.iconst 0, 1) := by decide +kernel
theorem dX9_noMove_78 : decode cX9_noMove 78 = .ok (.ireturn, 1) := by decide +kernel
theorem dX9_noMove_79 : decode cX9_noMove 79 = .ok (.iinc 5 1, 3) := by decide +kernel
theorem dX9_noMove_82 : decode cX9_noMove 82 = .ok (.goto (-37), 3) := by decide +kernel
theorem dX9_noMove_85 : decode cX9_noMove 85 = .ok (.sipush (-1002), 3) := by decide +kernel
theorem dX9_noMove_88 : decode cX9_noMove 88 = .ok (.ireturn, 1) := by decide +kernel
theorem dX9_goes_0 : decode cX9_goes 0 = .ok (.aload_n 0, 1) := by decide +kernel
theorem dX9_goes_1 : decode cX9_goes 1 = .ok (.getfield 16, 3) := by decide +kernel
theorem dX9_goes_4 : decode cX9_goes 4 = .ok (.iload_n 2, 1) := by decide +kernel
theorem dX9_goes_5 : decode cX9_goes 5 = .ok (.iconst 0, 1) := by decide +kernel
theorem dX9_goes_6 : decode cX9_goes 6 = .ok (.iastore, 1) := by decide +kernel
theorem dX9_goes_7 : decode cX9_goes 7 = .ok (.aload_n 0, 1) := by decide +kernel
theorem dX9_goes_8 : decode cX9_goes 8 = .ok (.getfield 16, 3) := by decide +kernel
theorem dX9_goes_11 : decode cX9_goes 11 = .ok (.iload_n 3, 1) := by decide +kernel
theorem dX9_goes_12 : decode cX9_goes 12 = .ok (.iload_n 1, 1) := by decide +kernel
theorem dX9_goes_13 : decode cX9_goes 13 = .ok (.iastore, 1) := by decide +kernel
theorem dX9_goes_14 : decode cX9_goes 14 = .ok (.aload_n 0, 1) := by decide +kernel
theorem dX9_goes_15 : decode cX9_goes 15 = .ok (.getfield 16, 3) := by decide +kernel
theorem dX9_goes_18 : decode cX9_goes 18 = .ok (.iload 4, 2) := by decide +kernel
theorem dX9_goes_20 : decode cX9_goes 20 = .ok (.iconst 3, 1) := by decide +kernel
theorem dX9_goes_21 : decode cX9_goes 21 = .ok (.iastore, 1) := by decide +kernel
theorem dX9_goes_22 : decode cX9_goes 22 = .ok (.aload_n 0, 1) := by decide +kernel
theorem dX9_goes_23 : decode cX9_goes 23 = .ok (.iconst 3, 1) := by decide +kernel
theorem dX9_goes_24 : decode cX9_goes 24 = .ok (.iload_n 1, 1) := by decide +kernel
theorem dX9_goes_25 : decode cX9_goes 25 = .ok (.isub, 1) := by decide +kernel
theorem dX9_goes_26 : decode cX9_goes 26 = .ok (.invokevirtual 109, 3) := by decide +kernel
theorem dX9_goes_29 : decode cX9_goes 29 = .ok (.ireturn, 1) := by decide +kernel
theorem dX9_move_0 : decode cX9_move 0 = .ok (.aload_n 0, 1) := by decide +kernel
theorem dX9_move_1 : decode cX9_move 1 = .ok (.iload_n 1, 1) := by decide +kernel
theorem dX9_move_2 : decode cX9_move 2 = .ok (.iload_n 2, 1) := by decide +kernel
theorem dX9_move_3 : decode cX9_move 3 = .ok (.iload_n 3, 1) := by decide +kernel
theorem dX9_move_4 : decode cX9_move 4 = .ok (.iload 4, 2) := by decide +kernel
theorem dX9_move_6 : decode cX9_move 6 = .ok (.invokevirtual 112, 3) := by decide +kernel
theorem dX9_move_9 : decode cX9_move 9 = .ok (.istore 5, 2) := by decide +kernel
theorem dX9_move_11 : decode cX9_move 11 = .ok (.iload 5, 2) := by decide +kernel
theorem dX9_move_13 : decode cX9_move 13 = .ok (.ifCond .ge 6, 3) := by decide +kernel
theorem dX9_move_16 : decode cX9_move 16 = .ok (.iload 5, 2) := by decide +kernel
theorem dX9_move_18 : decode cX9_move 18 = .ok (.ireturn, 1) := by decide +kernel
theorem dX9_move_19 : decode cX9_move 19 = .ok (.aload_n 0, 1) := by decide +kernel
theorem dX9_move_20 : decode cX9_move 20 = .ok (.invokevirtual 71, 3) := by decide +kernel
theorem dX9_move_23 : decode cX9_move 23 = .ok (.aload_n 0, 1) := by decide +kernel
theorem dX9_move_24 : decode cX9_move 24 = .ok (.iload_n 1, 1) := by decide +kernel
theorem dX9_move_25 : decode cX9_move 25 = .ok (.iload_n 2, 1) := by decide +kernel
theorem dX9_move_26 : decode cX9_move 26 = .ok (.iload_n 3, 1) := by decide +kernel
theorem dX9_move_27 : decode cX9_move 27 = .ok (.iload 4, 2) := by decide +kernel
theorem dX9_move_29 : decode cX9_move 29 = .ok (.invokevirtual 116, 3) := by decide +kernel
theorem dX9_move_32 : decode cX9_move 32 = .ok (.ireturn, 1) := by decide +kernel
theorem dX9_moves_0 : decode cX9_moves 0 = .ok (.iload_n 1, 1) := by decide +kernel
theorem dX9_moves_1 : decode cX9_moves 1 = .ok (.invokestatic 81, 3) := by decide +kernel
theorem dX9_moves_4 : decode cX9_moves 4 = .ok (.ifCond .eq 11, 3) := by decide +kernel
theorem dX9_moves_7 : decode cX9_moves 7 = .ok (.aload_n 0, 1) := by decide +kernel
theorem dX9_moves_8 : decode cX9_moves 8 = .ok (.iload_n 1, 1) := by decide +kernel
theorem dX9_moves_9 : decode cX9_moves 9 = .ok (.invokevirtual 109, 3) := by decide +kernel
theorem dX9_moves_12 : decode cX9_moves 12 = .ok (.goto 6, 3) := by decide +kernel
theorem dX9_moves_15 : decode cX9_moves 15 = .ok (.sipush (-1001), 3) := by decide +kernel
theorem dX9_moves_18 : decode cX9_moves 18 = .ok (.ireturn, 1) := by decide +kernel
theorem dX9_moveAt_0 : decode cX9_moveAt 0 = .ok (.iload_n 1, 1) := by decide +kernel
theorem dX9_moveAt_1 : decode cX9_moveAt 1 = .ok (.invokestatic 81, 3) := by decide +kernel
theorem dX9_moveAt_4 : decode cX9_moveAt 4 = .ok (.ifCond .eq 16, 3) := by decide +kernel
theorem dX9_moveAt_7 : decode cX9_moveAt 7 = .ok (.iload_n 2, 1) := by decide +kernel
theorem dX9_moveAt_8 : decode cX9_moveAt 8 = .ok (.ifCond .lt 12, 3) := by decide +kernel
theorem dX9_moveAt_11 : decode cX9_moveAt 11 = .ok (.iload_n 3, 1) := by decide +kernel
theorem dX9_moveAt_12 : decode cX9_moveAt 12 = .ok (.iconst 0, 1) := by decide +kernel
theorem dX9_moveAt_13 : decode cX9_moveAt 13 = .ok (.iconst 2, 1) := by decide +kernel
theorem dX9_moveAt_14 : decode cX9_moveAt 14 = .ok (.invokestatic 64, 3) := by decide +kernel
theorem dX9_moveAt_17 : decode cX9_moveAt 17 = .ok (.ifCond .ne 7, 3) := by decide +kernel
theorem dX9_moveAt_20 : decode cX9_moveAt 20 = .ok (.sipush (-1001), 3) := by decide +kernel
theorem dX9_moveAt_23 : decode cX9_moveAt 23 = .ok (.ireturn, 1) := by decide +kernel
theorem dX9_moveAt_24 : decode cX9_moveAt 24 = .ok (.aload_n 0, 1) := by decide +kernel
theorem dX9_moveAt_25 : decode cX9_moveAt 25 = .ok (.iload_n 1, 1) := by decide +kernel
theorem dX9_moveAt_26 : decode cX9_moveAt 26 = .ok (.invokevirtual 109, 3) := by decide +kernel
theorem dX9_moveAt_29 : decode cX9_moveAt 29 = .ok (.pop, 1) := by decide +kernel
theorem dX9_moveAt_30 : decode cX9_moveAt 30 = .ok (.iload_n 2, 1) := by decide +kernel
theorem dX9_moveAt_31 : decode cX9_moveAt 31 = .ok (.aload_n 0, 1) := by decide +kernel
theorem dX9_moveAt_32 : decode cX9_moveAt 32 = .ok (.getfield 102, 3) := by decide +kernel
theorem dX9_moveAt_35 : decode cX9_moveAt 35 = .ok (.if_icmp .lt 7, 3) := by decide +kernel
theorem dX9_moveAt_38 : decode cX9_moveAt 38 = .ok (.sipush (-1005), 3) := by decide +kernel
theorem dX9_moveAt_41 : decode cX9_moveAt 41 = .ok (.ireturn, 1) := by decide +kernel
theorem dX9_moveAt_42 : decode cX9_moveAt 42 = .ok (.iload_n 3, 1) := by decide +kernel
theorem dX9_moveAt_43 : decode cX9_moveAt 43 = .ok (.ifCond .ne 16, 3) := by decide +kernel
theorem dX9_moveAt_46 : decode cX9_moveAt 46 = .ok (.aload_n 0, 1) := by decide +kernel
theorem dX9_moveAt_47 : decode cX9_moveAt 47 = .ok (.getfield 32, 3) := by decide +kernel
theorem dX9_moveAt_50 : decode cX9_moveAt 50 = .ok (.iload_n 2, 1) := by decide +kernel
theorem dX9_moveAt_51 : decode cX9_moveAt 51 = .ok (.iaload, 1) := by decide +kernel
theorem dX9_moveAt_52 : decode cX9_moveAt 52 = .ok (.sipush 225, 3) := by decide +kernel
theorem dX9_moveAt_55 : decode cX9_moveAt 55 = .ok (.idiv, 1) := by decide +kernel
theorem dX9_moveAt_56 : decode cX9_moveAt 56 = .ok (.goto 32, 3) := by decide +kernel
theorem dX9_moveAt_59 : decode cX9_moveAt 59 = .ok (.iload_n 3, 1) := by decide +kernel
theorem dX9_moveAt_60 : decode cX9_moveAt 60 = .ok (.iconst 1, 1) := by decide +kernel
theorem dX9_moveAt_61 : decode cX9_moveAt 61 = .ok (.if_icmp .ne 18, 3) := by decide +kernel
theorem dX9_moveAt_64 : decode cX9_moveAt 64 = .ok (.aload_n 0, 1) := by decide +kernel
theorem dX9_moveAt_65 : decode cX9_moveAt 65 = .ok (.getfield 32, 3) := by decide +kernel
theorem dX9_moveAt_68 : decode cX9_moveAt 68 = .ok (.iload_n 2, 1) := by decide +kernel
theorem dX9_moveAt_69 : decode cX9_moveAt 69 = .ok (.iaload, 1) := by decide +kernel
theorem dX9_moveAt_70 : decode cX9_moveAt 70 = .ok (.bipush 15, 2) := by decide +kernel
theorem dX9_moveAt_72 : decode cX9_moveAt 72 = .ok (.idiv, 1) := by decide +kernel
theorem dX9_moveAt_73 : decode cX9_moveAt 73 = .ok (.bipush 15, 2) := by decide +kernel
theorem dX9_moveAt_75 : decode cX9_moveAt 75 = .ok (.irem, 1) := by decide +kernel
theorem dX9_moveAt_76 : decode cX9_moveAt 76 = .ok (.goto 12, 3) := by decide +kernel
theorem dX9_moveAt_79 : decode cX9_moveAt 79 = .ok (.aload_n 0, 1) := by decide +kernel
theorem dX9_moveAt_80 : decode cX9_moveAt 80 = .ok (.getfield 32, 3) := by decide +kernel
theorem dX9_moveAt_83 : decode cX9_moveAt 83 = .ok (.iload_n 2, 1) := by decide +kernel
theorem dX9_moveAt_84 : decode cX9_moveAt 84 = .ok (.iaload, 1) := by decide +kernel
theorem dX9_moveAt_85 : decode cX9_moveAt 85 = .ok (.bipush 15, 2) := by decide +kernel
theorem dX9_moveAt_87 : decode cX9_moveAt 87 = .ok (.irem, 1) := by decide +kernel
theorem dX9_moveAt_88 : decode cX9_moveAt 88 = .ok (.ireturn, 1) := by decide +kernel
theorem dX9_areNear_0 : decode cX9_areNear 0 = .ok (.iload_n 1, 1) := by decide +kernel
theorem dX9_areNear_1 : decode cX9_areNear 1 = .ok (.aload_n 0, 1) := by decide +kernel
theorem dX9_areNear_2 : decode cX9_areNear 2 = .ok (.getfield 7, 3) := by decide +kernel
theorem dX9_areNear_5 : decode cX9_areNear 5 = .ok (.irem, 1) := by decide +kernel
theorem dX9_areNear_6 : decode cX9_areNear 6 = .ok (.iload_n 2, 1) := by decide +kernel
theorem dX9_areNear_7 : decode cX9_areNear 7 = .ok (.aload_n 0, 1) := by decide +kernel
theorem dX9_areNear_8 : decode cX9_areNear 8 = .ok (.getfield 7, 3) := by decide +kernel
theorem dX9_areNear_11 : decode cX9_areNear 11 = .ok (.irem, 1) := by decide +kernel
theorem dX9_areNear_12 : decode cX9_areNear 12 = .ok (.isub, 1) := by decide +kernel
theorem dX9_areNear_13 : decode cX9_areNear 13 = .ok (.istore_n 3, 1) := by decide +kernel
theorem dX9_areNear_14 : decode cX9_areNear 14 = .ok (.iload_n 1, 1) := by decide +kernel
theorem dX9_areNear_15 : decode cX9_areNear 15 = .ok (.aload_n 0, 1) := by decide +kernel
theorem dX9_areNear_16 : decode cX9_areNear 16 = .ok (.getfield 7, 3) := by decide +kernel
theorem dX9_areNear_19 : decode cX9_areNear 19 = .ok (.idiv, 1) := by decide +kernel
theorem dX9_areNear_20 : decode cX9_areNear 20 = .ok (.iload_n 2, 1) := by decide +kernel
theorem dX9_areNear_21 : decode cX9_areNear 21 = .ok (.aload_n 0, 1) := by decide +kernel
theorem dX9_areNear_22 : decode cX9_areNear 22 = .ok (.getfield 7, 3) := by decide +kernel
theorem dX9_areNear_25 : decode cX9_areNear 25 = .ok (.idiv, 1) := by decide +kernel
theorem dX9_areNear_26 : decode cX9_areNear 26 = .ok (.isub, 1) := by decide +kernel
theorem dX9_areNear_27 : decode cX9_areNear 27 = .ok (.istore 4, 2) := by decide +kernel
theorem dX9_areNear_29 : decode cX9_areNear 29 = .ok (.iload_n 3, 1) := by decide +kernel
theorem dX9_areNear_30 : decode cX9_areNear 30 = .ok (.iload_n 3, 1) := by decide +kernel
theorem dX9_areNear_31 : decode cX9_areNear 31 = .ok (.imul, 1) := by decide +kernel
theorem dX9_areNear_32 : decode cX9_areNear 32 = .ok (.iconst 1, 1) := by decide +kernel
theorem dX9_areNear_33 : decode cX9_areNear 33 = .ok (.if_icmp .gt 16, 3) := by decide +kernel
theorem dX9_areNear_36 : decode cX9_areNear 36 = .ok (.iload 4, 2) := by decide +kernel
theorem dX9_areNear_38 : decode cX9_areNear 38 = .ok (.iload 4, 2) := by decide +kernel
theorem dX9_areNear_40 : decode cX9_areNear 40 = .ok (.imul, 1) := by decide +kernel
theorem dX9_areNear_41 : decode cX9_areNear 41 = .ok (.iconst 1, 1) := by decide +kernel
theorem dX9_areNear_42 : decode cX9_areNear 42 = .ok (.if_icmp .gt 7, 3) := by decide +kernel
theorem dX9_areNear_45 : decode cX9_areNear 45 = .ok (.iconst 1, 1) := by decide +kernel
theorem dX9_areNear_46 : decode cX9_areNear 46 = .ok (.goto 4, 3) := by decide +kernel
theorem dX9_areNear_49 : decode cX9_areNear 49 = .ok (.iconst 0, 1) := by decide +kernel
theorem dX9_areNear_50 : decode cX9_areNear 50 = .ok (.ireturn, 1) := by decide +kernel
theorem dX9_parts_0 : decode cX9_parts 0 = .ok (.iconst 0, 1) := by decide +kernel
theorem dX9_parts_1 : decode cX9_parts 1 = .ok (.istore_n 1, 1) := by decide +kernel
theorem dX9_parts_2 : decode cX9_parts 2 = .ok (.iload_n 1, 1) := by decide +kernel
theorem dX9_parts_3 : decode cX9_parts 3 = .ok (.aload_n 0, 1) := by decide +kernel
theorem dX9_parts_4 : decode cX9_parts 4 = .ok (.invokevirtual 60, 3) := by decide +kernel
theorem dX9_parts_7 : decode cX9_parts 7 = .ok (.if_icmp .ge 30, 3) := by decide +kernel
theorem dX9_parts_10 : decode cX9_parts 10 = .ok (.aload_n 0, 1) := by decide +kernel
theorem dX9_parts_11 : decode cX9_parts 11 = .ok (.getfield 51, 3) := by decide +kernel
theorem dX9_parts_14 : decode cX9_parts 14 = .ok (.iload_n 1, 1) := by decide +kernel
theorem dX9_parts_15 : decode cX9_parts 15 = .ok (.aload_n 0, 1) := by decide +kernel
theorem dX9_parts_16 : decode cX9_parts 16 = .ok (.getfield 16, 3) := by decide +kernel
theorem dX9_parts_19 : decode cX9_parts 19 = .ok (.iload_n 1, 1) := by decide +kernel
theorem dX9_parts_20 : decode cX9_parts 20 = .ok (.iaload, 1) := by decide +kernel
theorem dX9_parts_21 : decode cX9_parts 21 = .ok (.iconst 3, 1) := by decide +kernel
theorem dX9_parts_22 : decode cX9_parts 22 = .ok (.if_icmp .ne 7, 3) := by decide +kernel
theorem dX9_parts_25 : decode cX9_parts 25 = .ok (.iconst (-1), 1) := by decide +kernel
theorem dX9_parts_26 : decode cX9_parts 26 = .ok (.goto 4, 3) := by decide +kernel
theorem dX9_parts_29 : decode cX9_parts 29 = .ok (.iload_n 1, 1) := by decide +kernel
theorem dX9_parts_30 : decode cX9_parts 30 = .ok (.iastore, 1) := by decide +kernel
theorem dX9_parts_31 : decode cX9_parts 31 = .ok (.iinc 1 1, 3) := by decide +kernel
theorem dX9_parts_34 : decode cX9_parts 34 = .ok (.goto (-32), 3) := by decide +kernel
theorem dX9_parts_37 : decode cX9_parts 37 = .ok (.iconst 1, 1) := by decide +kernel
theorem dX9_parts_38 : decode cX9_parts 38 = .ok (.istore_n 1, 1) := by decide +kernel
theorem dX9_parts_39 : decode cX9_parts 39 = .ok (.iload_n 1, 1) := by decide +kernel
theorem dX9_parts_40 : decode cX9_parts 40 = .ok (.ifCond .eq 111, 3) := by decide +kernel
theorem dX9_parts_43 : decode cX9_parts 43 = .ok (.iconst 0, 1) := by decide +kernel
theorem dX9_parts_44 : decode cX9_parts 44 = .ok (.istore_n 1, 1) := by decide +kernel
theorem dX9_parts_45 : decode cX9_parts 45 = .ok (.iconst 0, 1) := by decide +kernel
theorem dX9_parts_46 : decode cX9_parts 46 = .ok (.istore_n 2, 1) := by decide +kernel
theorem dX9_parts_47 : decode cX9_parts 47 = .ok (.iload_n 2, 1) := by decide +kernel
theorem dX9_parts_48 : decode cX9_parts 48 = .ok (.sipush 225, 3) := by decide +kernel
theorem dX9_parts_51 : decode cX9_parts 51 = .ok (.if_icmp .ge 97, 3) := by decide +kernel
theorem dX9_parts_54 : decode cX9_parts 54 = .ok (.iload_n 2, 1) := by decide +kernel
theorem dX9_parts_55 : decode cX9_parts 55 = .ok (.bipush 15, 2) := by decide +kernel
theorem dX9_parts_57 : decode cX9_parts 57 = .ok (.idiv, 1) := by decide +kernel
theorem dX9_parts_58 : decode cX9_parts 58 = .ok (.istore_n 3, 1) := by decide +kernel
theorem dX9_parts_59 : decode cX9_parts 59 = .ok (.iload_n 2, 1) := by decide +kernel
theorem dX9_parts_60 : decode cX9_parts 60 = .ok (.bipush 15, 2) := by decide +kernel
theorem dX9_parts_62 : decode cX9_parts 62 = .ok (.irem, 1) := by decide +kernel
theorem dX9_parts_63 : decode cX9_parts 63 = .ok (.istore 4, 2) := by decide +kernel
theorem dX9_parts_65 : decode cX9_parts 65 = .ok (.aload_n 0, 1) := by decide +kernel
theorem dX9_parts_66 : decode cX9_parts 66 = .ok (.iload_n 3, 1) := by decide +kernel
theorem dX9_parts_67 : decode cX9_parts 67 = .ok (.invokevirtual 77, 3) := by decide +kernel
theorem dX9_parts_70 : decode cX9_parts 70 = .ok (.ifCond .eq 72, 3) := by decide +kernel
theorem dX9_parts_73 : decode cX9_parts 73 = .ok (.aload_n 0, 1) := by decide +kernel
theorem dX9_parts_74 : decode cX9_parts 74 = .ok (.iload 4, 2) := by decide +kernel
theorem dX9_parts_76 : decode cX9_parts 76 = .ok (.invokevirtual 77, 3) := by decide +kernel
theorem dX9_parts_79 : decode cX9_parts 79 = .ok (.ifCond .eq 63, 3) := by decide +kernel
theorem dX9_parts_82 : decode cX9_parts 82 = .ok (.aload_n 0, 1) := by decide +kernel
theorem dX9_parts_83 : decode cX9_parts 83 = .ok (.getfield 51, 3) := by decide +kernel
theorem dX9_parts_86 : decode cX9_parts 86 = .ok (.iload_n 3, 1) := by decide +kernel
theorem dX9_parts_87 : decode cX9_parts 87 = .ok (.iaload, 1) := by decide +kernel
theorem dX9_parts_88 : decode cX9_parts 88 = .ok (.ifCond .lt 54, 3) := by decide +kernel
theorem dX9_parts_91 : decode cX9_parts 91 = .ok (.aload_n 0, 1) := by decide +kernel
theorem dX9_parts_92 : decode cX9_parts 92 = .ok (.getfield 51, 3) := by decide +kernel
theorem dX9_parts_95 : decode cX9_parts 95 = .ok (.iload 4, 2) := by decide +kernel
theorem dX9_parts_97 : decode cX9_parts 97 = .ok (.iaload, 1) := by decide +kernel
theorem dX9_parts_98 : decode cX9_parts 98 = .ok (.ifCond .lt 44, 3) := by decide +kernel
theorem dX9_parts_101 : decode cX9_parts 101 = .ok (.aload_n 0, 1) := by decide +kernel
theorem dX9_parts_102 : decode cX9_parts 102 = .ok (.getfield 51, 3) := by decide +kernel
theorem dX9_parts_105 : decode cX9_parts 105 = .ok (.iload 4, 2) := by decide +kernel
theorem dX9_parts_107 : decode cX9_parts 107 = .ok (.iaload, 1) := by decide +kernel
theorem dX9_parts_108 : decode cX9_parts 108 = .ok (.aload_n 0, 1) := by decide +kernel
theorem dX9_parts_109 : decode cX9_parts 109 = .ok (.getfield 51, 3) := by decide +kernel
theorem dX9_parts_112 : decode cX9_parts 112 = .ok (.iload_n 3, 1) := by decide +kernel
theorem dX9_parts_113 : decode cX9_parts 113 = .ok (.iaload, 1) := by decide +kernel
theorem dX9_parts_114 : decode cX9_parts 114 = .ok (.if_icmp .ge 28, 3) := by decide +kernel
theorem dX9_parts_117 : decode cX9_parts 117 = .ok (.aload_n 0, 1) := by decide +kernel
theorem dX9_parts_118 : decode cX9_parts 118 = .ok (.iload_n 3, 1) := by decide +kernel
theorem dX9_parts_119 : decode cX9_parts 119 = .ok (.iload 4, 2) := by decide +kernel
theorem dX9_parts_121 : decode cX9_parts 121 = .ok (.invokevirtual 119, 3) := by decide +kernel
theorem dX9_parts_124 : decode cX9_parts 124 = .ok (.ifCond .eq 18, 3) := by decide +kernel
theorem dX9_parts_127 : decode cX9_parts 127 = .ok (.aload_n 0, 1) := by decide +kernel
theorem dX9_parts_128 : decode cX9_parts 128 = .ok (.getfield 51, 3) := by decide +kernel
theorem dX9_parts_131 : decode cX9_parts 131 = .ok (.iload_n 3, 1) := by decide +kernel
theorem dX9_parts_132 : decode cX9_parts 132 = .ok (.aload_n 0, 1) := by decide +kernel
theorem dX9_parts_133 : decode cX9_parts 133 = .ok (.getfield 51, 3) := by decide +kernel
theorem dX9_parts_136 : decode cX9_parts 136 = .ok (.iload 4, 2) := by decide +kernel
theorem dX9_parts_138 : decode cX9_parts 138 = .ok (.iaload, 1) := by decide +kernel
theorem dX9_parts_139 : decode cX9_parts 139 = .ok (.iastore, 1) := by decide +kernel
theorem dX9_parts_140 : decode cX9_parts 140 = .ok (.iconst 1, 1) := by decide +kernel
theorem dX9_parts_141 : decode cX9_parts 141 = .ok (.istore_n 1, 1) := by decide +kernel
theorem dX9_parts_142 : decode cX9_parts 142 = .ok (.iinc 2 1, 3) := by decide +kernel
theorem dX9_parts_145 : decode cX9_parts 145 = .ok (.goto (-98), 3) := by decide +kernel
theorem dX9_parts_148 : decode cX9_parts 148 = .ok (.goto (-109), 3) := by decide +kernel
theorem dX9_parts_151 : decode cX9_parts 151 = .ok (.return_, 1) := by decide +kernel
theorem dX9_lowest_0 : decode cX9_lowest 0 = .ok (.aload_n 0, 1) := by decide +kernel
theorem dX9_lowest_1 : decode cX9_lowest 1 = .ok (.invokevirtual 122, 3) := by decide +kernel
theorem dX9_lowest_4 : decode cX9_lowest 4 = .ok (.iload_n 1, 1) := by decide +kernel
theorem dX9_lowest_5 : decode cX9_lowest 5 = .ok (.istore_n 2, 1) := by decide +kernel
theorem dX9_lowest_6 : decode cX9_lowest 6 = .ok (.iconst 0, 1) := by decide +kernel
theorem dX9_lowest_7 : decode cX9_lowest 7 = .ok (.istore_n 3, 1) := by decide +kernel
theorem dX9_lowest_8 : decode cX9_lowest 8 = .ok (.iload_n 3, 1) := by decide +kernel
theorem dX9_lowest_9 : decode cX9_lowest 9 = .ok (.aload_n 0, 1) := by decide +kernel
theorem dX9_lowest_10 : decode cX9_lowest 10 = .ok (.invokevirtual 60, 3) := by decide +kernel
theorem dX9_lowest_13 : decode cX9_lowest 13 = .ok (.if_icmp .ge 32, 3) := by decide +kernel
theorem dX9_lowest_16 : decode cX9_lowest 16 = .ok (.iload_n 1, 1) := by decide +kernel
theorem dX9_lowest_17 : decode cX9_lowest 17 = .ok (.ifCond .lt 28, 3) := by decide +kernel
theorem dX9_lowest_20 : decode cX9_lowest 20 = .ok (.aload_n 0, 1) := by decide +kernel
theorem dX9_lowest_21 : decode cX9_lowest 21 = .ok (.getfield 51, 3) := by decide +kernel
theorem dX9_lowest_24 : decode cX9_lowest 24 = .ok (.iload_n 3, 1) := by decide +kernel
theorem dX9_lowest_25 : decode cX9_lowest 25 = .ok (.iaload, 1) := by decide +kernel
theorem dX9_lowest_26 : decode cX9_lowest 26 = .ok (.iload_n 3, 1) := by decide +kernel
theorem dX9_lowest_27 : decode cX9_lowest 27 = .ok (.if_icmp .ne 12, 3) := by decide +kernel
theorem dX9_lowest_30 : decode cX9_lowest 30 = .ok (.iload_n 2, 1) := by decide +kernel
theorem dX9_lowest_31 : decode cX9_lowest 31 = .ok (.ifCond .ne 5, 3) := by decide +kernel
theorem dX9_lowest_34 : decode cX9_lowest 34 = .ok (.iload_n 3, 1) := by decide +kernel
theorem dX9_lowest_35 : decode cX9_lowest 35 = .ok (.ireturn, 1) := by decide +kernel
theorem dX9_lowest_36 : decode cX9_lowest 36 = .ok (.iinc 2 (-1), 3) := by decide +kernel
theorem dX9_lowest_39 : decode cX9_lowest 39 = .ok (.iinc 3 1, 3) := by decide +kernel
theorem dX9_lowest_42 : decode cX9_lowest 42 = .ok (.goto (-34), 3) := by decide +kernel
theorem dX9_lowest_45 : decode cX9_lowest 45 = .ok (.iconst (-1), 1) := by decide +kernel
theorem dX9_lowest_46 : decode cX9_lowest 46 = .ok (.ireturn, 1) := by decide +kernel
theorem dX9_regions_0 : decode cX9_regions 0 = .ok (.aload_n 0, 1) := by decide +kernel
theorem dX9_regions_1 : decode cX9_regions 1 = .ok (.invokevirtual 122, 3) := by decide +kernel
theorem dX9_regions_4 : decode cX9_regions 4 = .ok (.iconst 0, 1) := by decide +kernel
theorem dX9_regions_5 : decode cX9_regions 5 = .ok (.istore_n 1, 1) := by decide +kernel
theorem dX9_regions_6 : decode cX9_regions 6 = .ok (.iconst 0, 1) := by decide +kernel
theorem dX9_regions_7 : decode cX9_regions 7 = .ok (.istore_n 2, 1) := by decide +kernel
theorem dX9_regions_8 : decode cX9_regions 8 = .ok (.iload_n 2, 1) := by decide +kernel
theorem dX9_regions_9 : decode cX9_regions 9 = .ok (.aload_n 0, 1) := by decide +kernel
theorem dX9_regions_10 : decode cX9_regions 10 = .ok (.invokevirtual 60, 3) := by decide +kernel
theorem dX9_regions_13 : decode cX9_regions 13 = .ok (.if_icmp .ge 27, 3) := by decide +kernel
theorem dX9_regions_16 : decode cX9_regions 16 = .ok (.iload_n 1, 1) := by decide +kernel
theorem dX9_regions_17 : decode cX9_regions 17 = .ok (.aload_n 0, 1) := by decide +kernel
theorem dX9_regions_18 : decode cX9_regions 18 = .ok (.getfield 51, 3) := by decide +kernel
theorem dX9_regions_21 : decode cX9_regions 21 = .ok (.iload_n 2, 1) := by decide +kernel
theorem dX9_regions_22 : decode cX9_regions 22 = .ok (.iaload, 1) := by decide +kernel
theorem dX9_regions_23 : decode cX9_regions 23 = .ok (.iload_n 2, 1) := by decide +kernel
theorem dX9_regions_24 : decode cX9_regions 24 = .ok (.if_icmp .ne 7, 3) := by decide +kernel
theorem dX9_regions_27 : decode cX9_regions 27 = .ok (.iconst 1, 1) := by decide +kernel
theorem dX9_regions_28 : decode cX9_regions 28 = .ok (.goto 4, 3) := by decide +kernel
theorem dX9_regions_31 : decode cX9_regions 31 = .ok (.iconst 0, 1) := by decide +kernel
theorem dX9_regions_32 : decode cX9_regions 32 = .ok (.iadd, 1) := by decide +kernel
theorem dX9_regions_33 : decode cX9_regions 33 = .ok (.istore_n 1, 1) := by decide +kernel
theorem dX9_regions_34 : decode cX9_regions 34 = .ok (.iinc 2 1, 3) := by decide +kernel
theorem dX9_regions_37 : decode cX9_regions 37 = .ok (.goto (-29), 3) := by decide +kernel
theorem dX9_regions_40 : decode cX9_regions 40 = .ok (.iload_n 1, 1) := by decide +kernel
theorem dX9_regions_41 : decode cX9_regions 41 = .ok (.ireturn, 1) := by decide +kernel
theorem dX9_regionOf_0 : decode cX9_regionOf 0 = .ok (.aload_n 0, 1) := by decide +kernel
theorem dX9_regionOf_1 : decode cX9_regionOf 1 = .ok (.iload_n 1, 1) := by decide +kernel
theorem dX9_regionOf_2 : decode cX9_regionOf 2 = .ok (.invokevirtual 77, 3) := by decide +kernel
theorem dX9_regionOf_5 : decode cX9_regionOf 5 = .ok (.ifCond .ne 7, 3) := by decide +kernel
theorem dX9_regionOf_8 : decode cX9_regionOf 8 = .ok (.sipush (-1001), 3) := by decide +kernel
theorem dX9_regionOf_11 : decode cX9_regionOf 11 = .ok (.ireturn, 1) := by decide +kernel
theorem dX9_regionOf_12 : decode cX9_regionOf 12 = .ok (.aload_n 0, 1) := by decide +kernel
theorem dX9_regionOf_13 : decode cX9_regionOf 13 = .ok (.invokevirtual 122, 3) := by decide +kernel
theorem dX9_regionOf_16 : decode cX9_regionOf 16 = .ok (.iconst 0, 1) := by decide +kernel
theorem dX9_regionOf_17 : decode cX9_regionOf 17 = .ok (.istore_n 2, 1) := by decide +kernel
theorem dX9_regionOf_18 : decode cX9_regionOf 18 = .ok (.iconst 0, 1) := by decide +kernel
theorem dX9_regionOf_19 : decode cX9_regionOf 19 = .ok (.istore_n 3, 1) := by decide +kernel
theorem dX9_regionOf_20 : decode cX9_regionOf 20 = .ok (.iload_n 3, 1) := by decide +kernel
theorem dX9_regionOf_21 : decode cX9_regionOf 21 = .ok (.aload_n 0, 1) := by decide +kernel
theorem dX9_regionOf_22 : decode cX9_regionOf 22 = .ok (.getfield 51, 3) := by decide +kernel
theorem dX9_regionOf_25 : decode cX9_regionOf 25 = .ok (.iload_n 1, 1) := by decide +kernel
theorem dX9_regionOf_26 : decode cX9_regionOf 26 = .ok (.iaload, 1) := by decide +kernel
theorem dX9_regionOf_27 : decode cX9_regionOf 27 = .ok (.if_icmp .ge 27, 3) := by decide +kernel
theorem dX9_regionOf_30 : decode cX9_regionOf 30 = .ok (.iload_n 2, 1) := by decide +kernel
theorem dX9_regionOf_31 : decode cX9_regionOf 31 = .ok (.aload_n 0, 1) := by decide +kernel
theorem dX9_regionOf_32 : decode cX9_regionOf 32 = .ok (.getfield 51, 3) := by decide +kernel
theorem dX9_regionOf_35 : decode cX9_regionOf 35 = .ok (.iload_n 3, 1) := by decide +kernel
theorem dX9_regionOf_36 : decode cX9_regionOf 36 = .ok (.iaload, 1) := by decide +kernel
theorem dX9_regionOf_37 : decode cX9_regionOf 37 = .ok (.iload_n 3, 1) := by decide +kernel
theorem dX9_regionOf_38 : decode cX9_regionOf 38 = .ok (.if_icmp .ne 7, 3) := by decide +kernel
theorem dX9_regionOf_41 : decode cX9_regionOf 41 = .ok (.iconst 1, 1) := by decide +kernel
theorem dX9_regionOf_42 : decode cX9_regionOf 42 = .ok (.goto 4, 3) := by decide +kernel
theorem dX9_regionOf_45 : decode cX9_regionOf 45 = .ok (.iconst 0, 1) := by decide +kernel
theorem dX9_regionOf_46 : decode cX9_regionOf 46 = .ok (.iadd, 1) := by decide +kernel
theorem dX9_regionOf_47 : decode cX9_regionOf 47 = .ok (.istore_n 2, 1) := by decide +kernel
theorem dX9_regionOf_48 : decode cX9_regionOf 48 = .ok (.iinc 3 1, 3) := by decide +kernel
theorem dX9_regionOf_51 : decode cX9_regionOf 51 = .ok (.goto (-31), 3) := by decide +kernel
theorem dX9_regionOf_54 : decode cX9_regionOf 54 = .ok (.aload_n 0, 1) := by decide +kernel
theorem dX9_regionOf_55 : decode cX9_regionOf 55 = .ok (.getfield 51, 3) := by decide +kernel
theorem dX9_regionOf_58 : decode cX9_regionOf 58 = .ok (.iload_n 1, 1) := by decide +kernel
theorem dX9_regionOf_59 : decode cX9_regionOf 59 = .ok (.iaload, 1) := by decide +kernel
theorem dX9_regionOf_60 : decode cX9_regionOf 60 = .ok (.ifCond .ge 9, 3) := by decide +kernel
theorem dX9_regionOf_63 : decode cX9_regionOf 63 = .ok (.sipush (-1005), 3) := by decide +kernel
theorem dX9_regionOf_66 : decode cX9_regionOf 66 = .ok (.goto 4, 3) := by decide +kernel
theorem dX9_regionOf_69 : decode cX9_regionOf 69 = .ok (.iload_n 2, 1) := by decide +kernel
theorem dX9_regionOf_70 : decode cX9_regionOf 70 = .ok (.ireturn, 1) := by decide +kernel
theorem dX9_within_0 : decode cX9_within 0 = .ok (.iconst 0, 1) := by decide +kernel
theorem dX9_within_1 : decode cX9_within 1 = .ok (.istore_n 3, 1) := by decide +kernel
theorem dX9_within_2 : decode cX9_within 2 = .ok (.iconst 0, 1) := by decide +kernel
theorem dX9_within_3 : decode cX9_within 3 = .ok (.istore 4, 2) := by decide +kernel
theorem dX9_within_5 : decode cX9_within 5 = .ok (.iload 4, 2) := by decide +kernel
theorem dX9_within_7 : decode cX9_within 7 = .ok (.aload_n 0, 1) := by decide +kernel
theorem dX9_within_8 : decode cX9_within 8 = .ok (.invokevirtual 60, 3) := by decide +kernel
theorem dX9_within_11 : decode cX9_within 11 = .ok (.if_icmp .ge 43, 3) := by decide +kernel
theorem dX9_within_14 : decode cX9_within 14 = .ok (.iload_n 3, 1) := by decide +kernel
theorem dX9_within_15 : decode cX9_within 15 = .ok (.aload_n 0, 1) := by decide +kernel
theorem dX9_within_16 : decode cX9_within 16 = .ok (.getfield 51, 3) := by decide +kernel
theorem dX9_within_19 : decode cX9_within 19 = .ok (.iload 4, 2) := by decide +kernel
theorem dX9_within_21 : decode cX9_within 21 = .ok (.iaload, 1) := by decide +kernel
theorem dX9_within_22 : decode cX9_within 22 = .ok (.iload_n 1, 1) := by decide +kernel
theorem dX9_within_23 : decode cX9_within 23 = .ok (.if_icmp .ne 22, 3) := by decide +kernel
theorem dX9_within_26 : decode cX9_within 26 = .ok (.iload_n 2, 1) := by decide +kernel
theorem dX9_within_27 : decode cX9_within 27 = .ok (.ifCond .lt 14, 3) := by decide +kernel
theorem dX9_within_30 : decode cX9_within 30 = .ok (.aload_n 0, 1) := by decide +kernel
theorem dX9_within_31 : decode cX9_within 31 = .ok (.getfield 16, 3) := by decide +kernel
theorem dX9_within_34 : decode cX9_within 34 = .ok (.iload 4, 2) := by decide +kernel
theorem dX9_within_36 : decode cX9_within 36 = .ok (.iaload, 1) := by decide +kernel
theorem dX9_within_37 : decode cX9_within 37 = .ok (.iload_n 2, 1) := by decide +kernel
theorem dX9_within_38 : decode cX9_within 38 = .ok (.if_icmp .ne 7, 3) := by decide +kernel
theorem dX9_within_41 : decode cX9_within 41 = .ok (.iconst 1, 1) := by decide +kernel
theorem dX9_within_42 : decode cX9_within 42 = .ok (.goto 4, 3) := by decide +kernel
theorem dX9_within_45 : decode cX9_within 45 = .ok (.iconst 0, 1) := by decide +kernel
theorem dX9_within_46 : decode cX9_within 46 = .ok (.iadd, 1) := by decide +kernel
theorem dX9_within_47 : decode cX9_within 47 = .ok (.istore_n 3, 1) := by decide +kernel
theorem dX9_within_48 : decode cX9_within 48 = .ok (.iinc 4 1, 3) := by decide +kernel
theorem dX9_within_51 : decode cX9_within 51 = .ok (.goto (-46), 3) := by decide +kernel
theorem dX9_within_54 : decode cX9_within 54 = .ok (.iload_n 3, 1) := by decide +kernel
theorem dX9_within_55 : decode cX9_within 55 = .ok (.ireturn, 1) := by decide +kernel
theorem dX9_kind_0 : decode cX9_kind 0 = .ok (.aload_n 0, 1) := by decide +kernel
theorem dX9_kind_1 : decode cX9_kind 1 = .ok (.iload_n 1, 1) := by decide +kernel
theorem dX9_kind_2 : decode cX9_kind 2 = .ok (.iconst 1, 1) := by decide +kernel
theorem dX9_kind_3 : decode cX9_kind 3 = .ok (.invokevirtual 125, 3) := by decide +kernel
theorem dX9_kind_6 : decode cX9_kind 6 = .ok (.ifCond .le 7, 3) := by decide +kernel
theorem dX9_kind_9 : decode cX9_kind 9 = .ok (.iconst 1, 1) := by decide +kernel
theorem dX9_kind_10 : decode cX9_kind 10 = .ok (.goto 4, 3) := by decide +kernel
theorem dX9_kind_13 : decode cX9_kind 13 = .ok (.iconst 0, 1) := by decide +kernel
theorem dX9_kind_14 : decode cX9_kind 14 = .ok (.aload_n 0, 1) := by decide +kernel
theorem dX9_kind_15 : decode cX9_kind 15 = .ok (.iload_n 1, 1) := by decide +kernel
theorem dX9_kind_16 : decode cX9_kind 16 = .ok (.iconst 2, 1) := by decide +kernel
theorem dX9_kind_17 : decode cX9_kind 17 = .ok (.invokevirtual 125, 3) := by decide +kernel
theorem dX9_kind_20 : decode cX9_kind 20 = .ok (.ifCond .le 7, 3) := by decide +kernel
theorem dX9_kind_23 : decode cX9_kind 23 = .ok (.iconst 2, 1) := by decide +kernel
theorem dX9_kind_24 : decode cX9_kind 24 = .ok (.goto 4, 3) := by decide +kernel
theorem dX9_kind_27 : decode cX9_kind 27 = .ok (.iconst 0, 1) := by decide +kernel
theorem dX9_kind_28 : decode cX9_kind 28 = .ok (.iadd, 1) := by decide +kernel
theorem dX9_kind_29 : decode cX9_kind 29 = .ok (.ireturn, 1) := by decide +kernel
theorem dX9_regionInfo_0 : decode cX9_regionInfo 0 = .ok (.aload_n 0, 1) := by decide +kernel
theorem dX9_regionInfo_1 : decode cX9_regionInfo 1 = .ok (.iload_n 1, 1) := by decide +kernel
theorem dX9_regionInfo_2 : decode cX9_regionInfo 2 = .ok (.invokevirtual 128, 3) := by decide +kernel
theorem dX9_regionInfo_5 : decode cX9_regionInfo 5 = .ok (.istore_n 3, 1) := by decide +kernel
theorem dX9_regionInfo_6 : decode cX9_regionInfo 6 = .ok (.iload_n 3, 1) := by decide +kernel
theorem dX9_regionInfo_7 : decode cX9_regionInfo 7 = .ok (.ifCond .lt 12, 3) := by decide +kernel
theorem dX9_regionInfo_10 : decode cX9_regionInfo 10 = .ok (.iload_n 2, 1) := by decide +kernel
theorem dX9_regionInfo_11 : decode cX9_regionInfo 11 = .ok (.iconst 0, 1) := by decide +kernel
theorem dX9_regionInfo_12 : decode cX9_regionInfo 12 = .ok (.iconst 5, 1) := by decide +kernel
theorem dX9_regionInfo_13 : decode cX9_regionInfo 13 = .ok (.invokestatic 64, 3) := by decide +kernel
theorem dX9_regionInfo_16 : decode cX9_regionInfo 16 = .ok (.ifCond .ne 7, 3) := by decide +kernel
theorem dX9_regionInfo_19 : decode cX9_regionInfo 19 = .ok (.sipush (-1001), 3) := by decide +kernel
theorem dX9_regionInfo_22 : decode cX9_regionInfo 22 = .ok (.ireturn, 1) := by decide +kernel
theorem dX9_regionInfo_23 : decode cX9_regionInfo 23 = .ok (.iload_n 2, 1) := by decide +kernel
theorem dX9_regionInfo_24 : decode cX9_regionInfo 24 = .ok (.ifCond .ne 11, 3) := by decide +kernel
theorem dX9_regionInfo_27 : decode cX9_regionInfo 27 = .ok (.aload_n 0, 1) := by decide +kernel
theorem dX9_regionInfo_28 : decode cX9_regionInfo 28 = .ok (.iload_n 3, 1) := by decide +kernel
theorem dX9_regionInfo_29 : decode cX9_regionInfo 29 = .ok (.invokevirtual 131, 3) := by decide +kernel
theorem dX9_regionInfo_32 : decode cX9_regionInfo 32 = .ok (.goto 29, 3) := by decide +kernel
theorem dX9_regionInfo_35 : decode cX9_regionInfo 35 = .ok (.iload_n 2, 1) := by decide +kernel
theorem dX9_regionInfo_36 : decode cX9_regionInfo 36 = .ok (.iconst 5, 1) := by decide +kernel
theorem dX9_regionInfo_37 : decode cX9_regionInfo 37 = .ok (.if_icmp .ne 7, 3) := by decide +kernel
theorem dX9_regionInfo_40 : decode cX9_regionInfo 40 = .ok (.iload_n 3, 1) := by decide +kernel
theorem dX9_regionInfo_41 : decode cX9_regionInfo 41 = .ok (.goto 20, 3) := by decide +kernel
theorem dX9_regionInfo_44 : decode cX9_regionInfo 44 = .ok (.aload_n 0, 1) := by decide +kernel
theorem dX9_regionInfo_45 : decode cX9_regionInfo 45 = .ok (.iload_n 3, 1) := by decide +kernel
theorem dX9_regionInfo_46 : decode cX9_regionInfo 46 = .ok (.iload_n 2, 1) := by decide +kernel
theorem dX9_regionInfo_47 : decode cX9_regionInfo 47 = .ok (.iconst 1, 1) := by decide +kernel
theorem dX9_regionInfo_48 : decode cX9_regionInfo 48 = .ok (.if_icmp .ne 7, 3) := by decide +kernel
theorem dX9_regionInfo_51 : decode cX9_regionInfo 51 = .ok (.iconst (-1), 1) := by decide +kernel
theorem dX9_regionInfo_52 : decode cX9_regionInfo 52 = .ok (.goto 6, 3) := by decide +kernel
theorem dX9_regionInfo_55 : decode cX9_regionInfo 55 = .ok (.iload_n 2, 1) := by decide +kernel
theorem dX9_regionInfo_56 : decode cX9_regionInfo 56 = .ok (.iconst 2, 1) := by decide +kernel
theorem dX9_regionInfo_57 : decode cX9_regionInfo 57 = .ok (.isub, 1) := by decide +kernel
theorem dX9_regionInfo_58 : decode cX9_regionInfo 58 = .ok (.invokevirtual 125, 3) := by decide +kernel
theorem dX9_regionInfo_61 : decode cX9_regionInfo 61 = .ok (.ireturn, 1) := by decide +kernel
theorem dX9_coded_0 : decode cX9_coded 0 = .ok (.iconst 0, 1) := by decide +kernel
theorem dX9_coded_1 : decode cX9_coded 1 = .ok (.istore_n 2, 1) := by decide +kernel
theorem dX9_coded_2 : decode cX9_coded 2 = .ok (.iconst 0, 1) := by decide +kernel
theorem dX9_coded_3 : decode cX9_coded 3 = .ok (.istore_n 3, 1) := by decide +kernel
theorem dX9_coded_4 : decode cX9_coded 4 = .ok (.iload_n 3, 1) := by decide +kernel
theorem dX9_coded_5 : decode cX9_coded 5 = .ok (.aload_n 0, 1) := by decide +kernel
theorem dX9_coded_6 : decode cX9_coded 6 = .ok (.invokevirtual 60, 3) := by decide +kernel
theorem dX9_coded_9 : decode cX9_coded 9 = .ok (.if_icmp .ge 40, 3) := by decide +kernel
theorem dX9_coded_12 : decode cX9_coded 12 = .ok (.iload_n 2, 1) := by decide +kernel
theorem dX9_coded_13 : decode cX9_coded 13 = .ok (.iload_n 1, 1) := by decide +kernel
theorem dX9_coded_14 : decode cX9_coded 14 = .ok (.ifCond .lt 17, 3) := by decide +kernel
theorem dX9_coded_17 : decode cX9_coded 17 = .ok (.aload_n 0, 1) := by decide +kernel
theorem dX9_coded_18 : decode cX9_coded 18 = .ok (.getfield 51, 3) := by decide +kernel
theorem dX9_coded_21 : decode cX9_coded 21 = .ok (.iload_n 3, 1) := by decide +kernel
theorem dX9_coded_22 : decode cX9_coded 22 = .ok (.iaload, 1) := by decide +kernel
theorem dX9_coded_23 : decode cX9_coded 23 = .ok (.iload_n 1, 1) := by decide +kernel
theorem dX9_coded_24 : decode cX9_coded 24 = .ok (.if_icmp .eq 7, 3) := by decide +kernel
theorem dX9_coded_27 : decode cX9_coded 27 = .ok (.iconst 3, 1) := by decide +kernel
theorem dX9_coded_28 : decode cX9_coded 28 = .ok (.goto 9, 3) := by decide +kernel
theorem dX9_coded_31 : decode cX9_coded 31 = .ok (.aload_n 0, 1) := by decide +kernel
theorem dX9_coded_32 : decode cX9_coded 32 = .ok (.getfield 16, 3) := by decide +kernel
theorem dX9_coded_35 : decode cX9_coded 35 = .ok (.iload_n 3, 1) := by decide +kernel
theorem dX9_coded_36 : decode cX9_coded 36 = .ok (.iaload, 1) := by decide +kernel
theorem dX9_coded_37 : decode cX9_coded 37 = .ok (.iconst 2, 1) := by decide +kernel
theorem dX9_coded_38 : decode cX9_coded 38 = .ok (.iload_n 3, 1) := by decide +kernel
theorem dX9_coded_39 : decode cX9_coded 39 = .ok (.imul, 1) := by decide +kernel
theorem dX9_coded_40 : decode cX9_coded 40 = .ok (.ishl, 1) := by decide +kernel
theorem dX9_coded_41 : decode cX9_coded 41 = .ok (.ior, 1) := by decide +kernel
theorem dX9_coded_42 : decode cX9_coded 42 = .ok (.istore_n 2, 1) := by decide +kernel
theorem dX9_coded_43 : decode cX9_coded 43 = .ok (.iinc 3 1, 3) := by decide +kernel
theorem dX9_coded_46 : decode cX9_coded 46 = .ok (.goto (-42), 3) := by decide +kernel
theorem dX9_coded_49 : decode cX9_coded 49 = .ok (.iload_n 2, 1) := by decide +kernel
theorem dX9_coded_50 : decode cX9_coded 50 = .ok (.ireturn, 1) := by decide +kernel
theorem dX9_decodes_0 : decode cX9_decodes 0 = .ok (.iconst 0, 1) := by decide +kernel
theorem dX9_decodes_1 : decode cX9_decodes 1 = .ok (.istore_n 2, 1) := by decide +kernel
theorem dX9_decodes_2 : decode cX9_decodes 2 = .ok (.iload_n 2, 1) := by decide +kernel
theorem dX9_decodes_3 : decode cX9_decodes 3 = .ok (.bipush 15, 2) := by decide +kernel
theorem dX9_decodes_5 : decode cX9_decodes 5 = .ok (.if_icmp .ge 22, 3) := by decide +kernel
theorem dX9_decodes_8 : decode cX9_decodes 8 = .ok (.aload_n 0, 1) := by decide +kernel
theorem dX9_decodes_9 : decode cX9_decodes 9 = .ok (.getfield 20, 3) := by decide +kernel
theorem dX9_decodes_12 : decode cX9_decodes 12 = .ok (.iload_n 2, 1) := by decide +kernel
theorem dX9_decodes_13 : decode cX9_decodes 13 = .ok (.iload_n 1, 1) := by decide +kernel
theorem dX9_decodes_14 : decode cX9_decodes 14 = .ok (.iconst 2, 1) := by decide +kernel
theorem dX9_decodes_15 : decode cX9_decodes 15 = .ok (.iload_n 2, 1) := by decide +kernel
theorem dX9_decodes_16 : decode cX9_decodes 16 = .ok (.imul, 1) := by decide +kernel
theorem dX9_decodes_17 : decode cX9_decodes 17 = .ok (.ishr, 1) := by decide +kernel
theorem dX9_decodes_18 : decode cX9_decodes 18 = .ok (.iconst 3, 1) := by decide +kernel
theorem dX9_decodes_19 : decode cX9_decodes 19 = .ok (.iand, 1) := by decide +kernel
theorem dX9_decodes_20 : decode cX9_decodes 20 = .ok (.iastore, 1) := by decide +kernel
theorem dX9_decodes_21 : decode cX9_decodes 21 = .ok (.iinc 2 1, 3) := by decide +kernel
theorem dX9_decodes_24 : decode cX9_decodes 24 = .ok (.goto (-22), 3) := by decide +kernel
theorem dX9_decodes_27 : decode cX9_decodes 27 = .ok (.return_, 1) := by decide +kernel
theorem dX9_behind_0 : decode cX9_behind 0 = .ok (.iconst 0, 1) := by decide +kernel
theorem dX9_behind_1 : decode cX9_behind 1 = .ok (.istore_n 3, 1) := by decide +kernel
theorem dX9_behind_2 : decode cX9_behind 2 = .ok (.iload_n 1, 1) := by decide +kernel
theorem dX9_behind_3 : decode cX9_behind 3 = .ok (.sipush 225, 3) := by decide +kernel
theorem dX9_behind_6 : decode cX9_behind 6 = .ok (.idiv, 1) := by decide +kernel
theorem dX9_behind_7 : decode cX9_behind 7 = .ok (.istore 4, 2) := by decide +kernel
theorem dX9_behind_9 : decode cX9_behind 9 = .ok (.iload_n 1, 1) := by decide +kernel
theorem dX9_behind_10 : decode cX9_behind 10 = .ok (.bipush 15, 2) := by decide +kernel
theorem dX9_behind_12 : decode cX9_behind 12 = .ok (.idiv, 1) := by decide +kernel
theorem dX9_behind_13 : decode cX9_behind 13 = .ok (.bipush 15, 2) := by decide +kernel
theorem dX9_behind_15 : decode cX9_behind 15 = .ok (.irem, 1) := by decide +kernel
theorem dX9_behind_16 : decode cX9_behind 16 = .ok (.istore 5, 2) := by decide +kernel
theorem dX9_behind_18 : decode cX9_behind 18 = .ok (.iload_n 1, 1) := by decide +kernel
theorem dX9_behind_19 : decode cX9_behind 19 = .ok (.bipush 15, 2) := by decide +kernel
theorem dX9_behind_21 : decode cX9_behind 21 = .ok (.irem, 1) := by decide +kernel
theorem dX9_behind_22 : decode cX9_behind 22 = .ok (.istore 6, 2) := by decide +kernel
theorem dX9_behind_24 : decode cX9_behind 24 = .ok (.iconst 0, 1) := by decide +kernel
theorem dX9_behind_25 : decode cX9_behind 25 = .ok (.istore 7, 2) := by decide +kernel
theorem dX9_behind_27 : decode cX9_behind 27 = .ok (.iload 7, 2) := by decide +kernel
theorem dX9_behind_29 : decode cX9_behind 29 = .ok (.aload_n 0, 1) := by decide +kernel
theorem dX9_behind_30 : decode cX9_behind 30 = .ok (.invokevirtual 60, 3) := by decide +kernel
theorem dX9_behind_33 : decode cX9_behind 33 = .ok (.if_icmp .ge 67, 3) := by decide +kernel
theorem dX9_behind_36 : decode cX9_behind 36 = .ok (.iload 7, 2) := by decide +kernel
theorem dX9_behind_38 : decode cX9_behind 38 = .ok (.iload 6, 2) := by decide +kernel
theorem dX9_behind_40 : decode cX9_behind 40 = .ok (.if_icmp .ne 7, 3) := by decide +kernel
theorem dX9_behind_43 : decode cX9_behind 43 = .ok (.iconst 3, 1) := by decide +kernel
theorem dX9_behind_44 : decode cX9_behind 44 = .ok (.goto 38, 3) := by decide +kernel
theorem dX9_behind_47 : decode cX9_behind 47 = .ok (.iload 7, 2) := by decide +kernel
theorem dX9_behind_49 : decode cX9_behind 49 = .ok (.iload 5, 2) := by decide +kernel
theorem dX9_behind_51 : decode cX9_behind 51 = .ok (.if_icmp .ne 13, 3) := by decide +kernel
theorem dX9_behind_54 : decode cX9_behind 54 = .ok (.aload_n 0, 1) := by decide +kernel
theorem dX9_behind_55 : decode cX9_behind 55 = .ok (.getfield 20, 3) := by decide +kernel
theorem dX9_behind_58 : decode cX9_behind 58 = .ok (.iload 4, 2) := by decide +kernel
theorem dX9_behind_60 : decode cX9_behind 60 = .ok (.iaload, 1) := by decide +kernel
theorem dX9_behind_61 : decode cX9_behind 61 = .ok (.goto 21, 3) := by decide +kernel
theorem dX9_behind_64 : decode cX9_behind 64 = .ok (.iload 7, 2) := by decide +kernel
theorem dX9_behind_66 : decode cX9_behind 66 = .ok (.iload 4, 2) := by decide +kernel
theorem dX9_behind_68 : decode cX9_behind 68 = .ok (.if_icmp .ne 7, 3) := by decide +kernel
theorem dX9_behind_71 : decode cX9_behind 71 = .ok (.iconst 0, 1) := by decide +kernel
theorem dX9_behind_72 : decode cX9_behind 72 = .ok (.goto 10, 3) := by decide +kernel
theorem dX9_behind_75 : decode cX9_behind 75 = .ok (.aload_n 0, 1) := by decide +kernel
theorem dX9_behind_76 : decode cX9_behind 76 = .ok (.getfield 20, 3) := by decide +kernel
theorem dX9_behind_79 : decode cX9_behind 79 = .ok (.iload 7, 2) := by decide +kernel
theorem dX9_behind_81 : decode cX9_behind 81 = .ok (.iaload, 1) := by decide +kernel
theorem dX9_behind_82 : decode cX9_behind 82 = .ok (.istore 8, 2) := by decide +kernel
theorem dX9_behind_84 : decode cX9_behind 84 = .ok (.iload_n 3, 1) := by decide +kernel
theorem dX9_behind_85 : decode cX9_behind 85 = .ok (.iload 8, 2) := by decide +kernel
theorem dX9_behind_87 : decode cX9_behind 87 = .ok (.iconst 2, 1) := by decide +kernel
theorem dX9_behind_88 : decode cX9_behind 88 = .ok (.iload 7, 2) := by decide +kernel
theorem dX9_behind_90 : decode cX9_behind 90 = .ok (.imul, 1) := by decide +kernel
theorem dX9_behind_91 : decode cX9_behind 91 = .ok (.ishl, 1) := by decide +kernel
theorem dX9_behind_92 : decode cX9_behind 92 = .ok (.ior, 1) := by decide +kernel
theorem dX9_behind_93 : decode cX9_behind 93 = .ok (.istore_n 3, 1) := by decide +kernel
theorem dX9_behind_94 : decode cX9_behind 94 = .ok (.iinc 7 1, 3) := by decide +kernel
theorem dX9_behind_97 : decode cX9_behind 97 = .ok (.goto (-70), 3) := by decide +kernel
theorem dX9_behind_100 : decode cX9_behind 100 = .ok (.iload_n 3, 1) := by decide +kernel
theorem dX9_behind_101 : decode cX9_behind 101 = .ok (.iload_n 2, 1) := by decide +kernel
theorem dX9_behind_102 : decode cX9_behind 102 = .ok (.iconst 1, 1) := by decide +kernel
theorem dX9_behind_103 : decode cX9_behind 103 = .ok (.isub, 1) := by decide +kernel
theorem dX9_behind_104 : decode cX9_behind 104 = .ok (.bipush 30, 2) := by decide +kernel
theorem dX9_behind_106 : decode cX9_behind 106 = .ok (.ishl, 1) := by decide +kernel
theorem dX9_behind_107 : decode cX9_behind 107 = .ok (.ior, 1) := by decide +kernel
theorem dX9_behind_108 : decode cX9_behind 108 = .ok (.ireturn, 1) := by decide +kernel
theorem dX9_placeOf_0 : decode cX9_placeOf 0 = .ok (.iload_n 1, 1) := by decide +kernel
theorem dX9_placeOf_1 : decode cX9_placeOf 1 = .ok (.ldc 134, 2) := by decide +kernel
theorem dX9_placeOf_3 : decode cX9_placeOf 3 = .ok (.imul, 1) := by decide +kernel
theorem dX9_placeOf_4 : decode cX9_placeOf 4 = .ok (.bipush 7, 2) := by decide +kernel
theorem dX9_placeOf_6 : decode cX9_placeOf 6 = .ok (.iushr, 1) := by decide +kernel
theorem dX9_placeOf_7 : decode cX9_placeOf 7 = .ok (.sipush 8192, 3) := by decide +kernel
theorem dX9_placeOf_10 : decode cX9_placeOf 10 = .ok (.irem, 1) := by decide +kernel
theorem dX9_placeOf_11 : decode cX9_placeOf 11 = .ok (.istore_n 2, 1) := by decide +kernel
theorem dX9_placeOf_12 : decode cX9_placeOf 12 = .ok (.aload_n 0, 1) := by decide +kernel
theorem dX9_placeOf_13 : decode cX9_placeOf 13 = .ok (.getfield 38, 3) := by decide +kernel
theorem dX9_placeOf_16 : decode cX9_placeOf 16 = .ok (.iload_n 2, 1) := by decide +kernel
theorem dX9_placeOf_17 : decode cX9_placeOf 17 = .ok (.iaload, 1) := by decide +kernel
theorem dX9_placeOf_18 : decode cX9_placeOf 18 = .ok (.ifCond .le 31, 3) := by decide +kernel
theorem dX9_placeOf_21 : decode cX9_placeOf 21 = .ok (.aload_n 0, 1) := by decide +kernel
theorem dX9_placeOf_22 : decode cX9_placeOf 22 = .ok (.getfield 35, 3) := by decide +kernel
theorem dX9_placeOf_25 : decode cX9_placeOf 25 = .ok (.aload_n 0, 1) := by decide +kernel
theorem dX9_placeOf_26 : decode cX9_placeOf 26 = .ok (.getfield 38, 3) := by decide +kernel
theorem dX9_placeOf_29 : decode cX9_placeOf 29 = .ok (.iload_n 2, 1) := by decide +kernel
theorem dX9_placeOf_30 : decode cX9_placeOf 30 = .ok (.iaload, 1) := by decide +kernel
theorem dX9_placeOf_31 : decode cX9_placeOf 31 = .ok (.iconst 1, 1) := by decide +kernel
theorem dX9_placeOf_32 : decode cX9_placeOf 32 = .ok (.isub, 1) := by decide +kernel
theorem dX9_placeOf_33 : decode cX9_placeOf 33 = .ok (.iaload, 1) := by decide +kernel
theorem dX9_placeOf_34 : decode cX9_placeOf 34 = .ok (.iload_n 1, 1) := by decide +kernel
theorem dX9_placeOf_35 : decode cX9_placeOf 35 = .ok (.if_icmp .eq 14, 3) := by decide +kernel
theorem dX9_placeOf_38 : decode cX9_placeOf 38 = .ok (.iload_n 2, 1) := by decide +kernel
theorem dX9_placeOf_39 : decode cX9_placeOf 39 = .ok (.iconst 1, 1) := by decide +kernel
theorem dX9_placeOf_40 : decode cX9_placeOf 40 = .ok (.iadd, 1) := by decide +kernel
theorem dX9_placeOf_41 : decode cX9_placeOf 41 = .ok (.sipush 8192, 3) := by decide +kernel
theorem dX9_placeOf_44 : decode cX9_placeOf 44 = .ok (.irem, 1) := by decide +kernel
theorem dX9_placeOf_45 : decode cX9_placeOf 45 = .ok (.istore_n 2, 1) := by decide +kernel
theorem dX9_placeOf_46 : decode cX9_placeOf 46 = .ok (.goto (-34), 3) := by decide +kernel
theorem dX9_placeOf_49 : decode cX9_placeOf 49 = .ok (.aload_n 0, 1) := by decide +kernel
theorem dX9_placeOf_50 : decode cX9_placeOf 50 = .ok (.getfield 38, 3) := by decide +kernel
theorem dX9_placeOf_53 : decode cX9_placeOf 53 = .ok (.iload_n 2, 1) := by decide +kernel
theorem dX9_placeOf_54 : decode cX9_placeOf 54 = .ok (.iaload, 1) := by decide +kernel
theorem dX9_placeOf_55 : decode cX9_placeOf 55 = .ok (.ifCond .le 14, 3) := by decide +kernel
theorem dX9_placeOf_58 : decode cX9_placeOf 58 = .ok (.aload_n 0, 1) := by decide +kernel
theorem dX9_placeOf_59 : decode cX9_placeOf 59 = .ok (.getfield 38, 3) := by decide +kernel
theorem dX9_placeOf_62 : decode cX9_placeOf 62 = .ok (.iload_n 2, 1) := by decide +kernel
theorem dX9_placeOf_63 : decode cX9_placeOf 63 = .ok (.iaload, 1) := by decide +kernel
theorem dX9_placeOf_64 : decode cX9_placeOf 64 = .ok (.iconst 1, 1) := by decide +kernel
theorem dX9_placeOf_65 : decode cX9_placeOf 65 = .ok (.isub, 1) := by decide +kernel
theorem dX9_placeOf_66 : decode cX9_placeOf 66 = .ok (.goto 6, 3) := by decide +kernel
theorem dX9_placeOf_69 : decode cX9_placeOf 69 = .ok (.iconst (-1), 1) := by decide +kernel
theorem dX9_placeOf_70 : decode cX9_placeOf 70 = .ok (.iload_n 2, 1) := by decide +kernel
theorem dX9_placeOf_71 : decode cX9_placeOf 71 = .ok (.isub, 1) := by decide +kernel
theorem dX9_placeOf_72 : decode cX9_placeOf 72 = .ok (.ireturn, 1) := by decide +kernel
theorem dX9_sideOf_0 : decode cX9_sideOf 0 = .ok (.iload_n 0, 1) := by decide +kernel
theorem dX9_sideOf_1 : decode cX9_sideOf 1 = .ok (.bipush 30, 2) := by decide +kernel
theorem dX9_sideOf_3 : decode cX9_sideOf 3 = .ok (.ishr, 1) := by decide +kernel
theorem dX9_sideOf_4 : decode cX9_sideOf 4 = .ok (.iconst 1, 1) := by decide +kernel
theorem dX9_sideOf_5 : decode cX9_sideOf 5 = .ok (.iand, 1) := by decide +kernel
theorem dX9_sideOf_6 : decode cX9_sideOf 6 = .ok (.iconst 1, 1) := by decide +kernel
theorem dX9_sideOf_7 : decode cX9_sideOf 7 = .ok (.iadd, 1) := by decide +kernel
theorem dX9_sideOf_8 : decode cX9_sideOf 8 = .ok (.ireturn, 1) := by decide +kernel
theorem dX9_isReached_0 : decode cX9_isReached 0 = .ok (.iconst 0, 1) := by decide +kernel
theorem dX9_isReached_1 : decode cX9_isReached 1 = .ok (.istore 4, 2) := by decide +kernel
theorem dX9_isReached_3 : decode cX9_isReached 3 = .ok (.iload 4, 2) := by decide +kernel
theorem dX9_isReached_5 : decode cX9_isReached 5 = .ok (.sipush 8192, 3) := by decide +kernel
theorem dX9_isReached_8 : decode cX9_isReached 8 = .ok (.if_icmp .ge 17, 3) := by decide +kernel
theorem dX9_isReached_11 : decode cX9_isReached 11 = .ok (.aload_n 0, 1) := by decide +kernel
theorem dX9_isReached_12 : decode cX9_isReached 12 = .ok (.getfield 38, 3) := by decide +kernel
theorem dX9_isReached_15 : decode cX9_isReached 15 = .ok (.iload 4, 2) := by decide +kernel
theorem dX9_isReached_17 : decode cX9_isReached 17 = .ok (.iconst 0, 1) := by decide +kernel
theorem dX9_isReached_18 : decode cX9_isReached 18 = .ok (.iastore, 1) := by decide +kernel
theorem dX9_isReached_19 : decode cX9_isReached 19 = .ok (.iinc 4 1, 3) := by decide +kernel
theorem dX9_isReached_22 : decode cX9_isReached 22 = .ok (.goto (-19), 3) := by decide +kernel
theorem dX9_isReached_25 : decode cX9_isReached 25 = .ok (.aload_n 0, 1) := by decide +kernel
theorem dX9_isReached_26 : decode cX9_isReached 26 = .ok (.iconst 1, 1) := by decide +kernel
theorem dX9_isReached_27 : decode cX9_isReached 27 = .ok (.putfield 135, 3) := by decide +kernel
theorem dX9_isReached_30 : decode cX9_isReached 30 = .ok (.aload_n 0, 1) := by decide +kernel
theorem dX9_isReached_31 : decode cX9_isReached 31 = .ok (.getfield 35, 3) := by decide +kernel
theorem dX9_isReached_34 : decode cX9_isReached 34 = .ok (.iconst 0, 1) := by decide +kernel
theorem dX9_isReached_35 : decode cX9_isReached 35 = .ok (.iload_n 1, 1) := by decide +kernel
theorem dX9_isReached_36 : decode cX9_isReached 36 = .ok (.iload_n 2, 1) := by decide +kernel
theorem dX9_isReached_37 : decode cX9_isReached 37 = .ok (.iconst 1, 1) := by decide +kernel
theorem dX9_isReached_38 : decode cX9_isReached 38 = .ok (.isub, 1) := by decide +kernel
theorem dX9_isReached_39 : decode cX9_isReached 39 = .ok (.bipush 30, 2) := by decide +kernel
theorem dX9_isReached_41 : decode cX9_isReached 41 = .ok (.ishl, 1) := by decide +kernel
theorem dX9_isReached_42 : decode cX9_isReached 42 = .ok (.ior, 1) := by decide +kernel
theorem dX9_isReached_43 : decode cX9_isReached 43 = .ok (.iastore, 1) := by decide +kernel
theorem dX9_isReached_44 : decode cX9_isReached 44 = .ok (.aload_n 0, 1) := by decide +kernel
theorem dX9_isReached_45 : decode cX9_isReached 45 = .ok (.getfield 38, 3) := by decide +kernel
theorem dX9_isReached_48 : decode cX9_isReached 48 = .ok (.iconst (-1), 1) := by decide +kernel
theorem dX9_isReached_49 : decode cX9_isReached 49 = .ok (.aload_n 0, 1) := by decide +kernel
theorem dX9_isReached_50 : decode cX9_isReached 50 = .ok (.aload_n 0, 1) := by decide +kernel
theorem dX9_isReached_51 : decode cX9_isReached 51 = .ok (.getfield 35, 3) := by decide +kernel
theorem dX9_isReached_54 : decode cX9_isReached 54 = .ok (.iconst 0, 1) := by decide +kernel
theorem dX9_isReached_55 : decode cX9_isReached 55 = .ok (.iaload, 1) := by decide +kernel
theorem dX9_isReached_56 : decode cX9_isReached 56 = .ok (.invokevirtual 138, 3) := by decide +kernel
theorem dX9_isReached_59 : decode cX9_isReached 59 = .ok (.isub, 1) := by decide +kernel
theorem dX9_isReached_60 : decode cX9_isReached 60 = .ok (.iconst 1, 1) := by decide +kernel
theorem dX9_isReached_61 : decode cX9_isReached 61 = .ok (.iastore, 1) := by decide +kernel
theorem dX9_isReached_62 : decode cX9_isReached 62 = .ok (.iconst 0, 1) := by decide +kernel
theorem dX9_isReached_63 : decode cX9_isReached 63 = .ok (.istore 4, 2) := by decide +kernel
theorem dX9_isReached_65 : decode cX9_isReached 65 = .ok (.iload 4, 2) := by decide +kernel
theorem dX9_isReached_67 : decode cX9_isReached 67 = .ok (.aload_n 0, 1) := by decide +kernel
theorem dX9_isReached_68 : decode cX9_isReached 68 = .ok (.getfield 135, 3) := by decide +kernel
theorem dX9_isReached_71 : decode cX9_isReached 71 = .ok (.if_icmp .ge 141, 3) := by decide +kernel
theorem dX9_isReached_74 : decode cX9_isReached 74 = .ok (.aload_n 0, 1) := by decide +kernel
theorem dX9_isReached_75 : decode cX9_isReached 75 = .ok (.getfield 35, 3) := by decide +kernel
theorem dX9_isReached_78 : decode cX9_isReached 78 = .ok (.iload 4, 2) := by decide +kernel
theorem dX9_isReached_80 : decode cX9_isReached 80 = .ok (.iaload, 1) := by decide +kernel
theorem dX9_isReached_81 : decode cX9_isReached 81 = .ok (.invokestatic 141, 3) := by decide +kernel
theorem dX9_isReached_84 : decode cX9_isReached 84 = .ok (.istore 5, 2) := by decide +kernel
theorem dX9_isReached_86 : decode cX9_isReached 86 = .ok (.aload_n 0, 1) := by decide +kernel
theorem dX9_isReached_87 : decode cX9_isReached 87 = .ok (.aload_n 0, 1) := by decide +kernel
theorem dX9_isReached_88 : decode cX9_isReached 88 = .ok (.getfield 35, 3) := by decide +kernel
theorem dX9_isReached_91 : decode cX9_isReached 91 = .ok (.iload 4, 2) := by decide +kernel
theorem dX9_isReached_93 : decode cX9_isReached 93 = .ok (.iaload, 1) := by decide +kernel
theorem dX9_isReached_94 : decode cX9_isReached 94 = .ok (.invokevirtual 144, 3) := by decide +kernel
theorem dX9_isReached_97 : decode cX9_isReached 97 = .ok (.aload_n 0, 1) := by decide +kernel
theorem dX9_isReached_98 : decode cX9_isReached 98 = .ok (.iload 5, 2) := by decide +kernel
theorem dX9_isReached_100 : decode cX9_isReached 100 = .ok (.invokevirtual 105, 3) := by decide +kernel
theorem dX9_isReached_103 : decode cX9_isReached 103 = .ok (.iconst 0, 1) := by decide +kernel
theorem dX9_isReached_104 : decode cX9_isReached 104 = .ok (.istore 6, 2) := by decide +kernel
theorem dX9_isReached_106 : decode cX9_isReached 106 = .ok (.iload 6, 2) := by decide +kernel
theorem dX9_isReached_108 : decode cX9_isReached 108 = .ok (.aload_n 0, 1) := by decide +kernel
theorem dX9_isReached_109 : decode cX9_isReached 109 = .ok (.getfield 102, 3) := by decide +kernel
theorem dX9_isReached_112 : decode cX9_isReached 112 = .ok (.if_icmp .ge 94, 3) := by decide +kernel
theorem dX9_isReached_115 : decode cX9_isReached 115 = .ok (.aload_n 0, 1) := by decide +kernel
theorem dX9_isReached_116 : decode cX9_isReached 116 = .ok (.aload_n 0, 1) := by decide +kernel
theorem dX9_isReached_117 : decode cX9_isReached 117 = .ok (.getfield 32, 3) := by decide +kernel
theorem dX9_isReached_120 : decode cX9_isReached 120 = .ok (.iload 6, 2) := by decide +kernel
theorem dX9_isReached_122 : decode cX9_isReached 122 = .ok (.iaload, 1) := by decide +kernel
theorem dX9_isReached_123 : decode cX9_isReached 123 = .ok (.iload_n 3, 1) := by decide +kernel
theorem dX9_isReached_124 : decode cX9_isReached 124 = .ok (.ifCond .eq 10, 3) := by decide +kernel
theorem dX9_isReached_127 : decode cX9_isReached 127 = .ok (.iconst 3, 1) := by decide +kernel
theorem dX9_isReached_128 : decode cX9_isReached 128 = .ok (.iload 5, 2) := by decide +kernel
theorem dX9_isReached_130 : decode cX9_isReached 130 = .ok (.isub, 1) := by decide +kernel
theorem dX9_isReached_131 : decode cX9_isReached 131 = .ok (.goto 5, 3) := by decide +kernel
theorem dX9_isReached_134 : decode cX9_isReached 134 = .ok (.iload 5, 2) := by decide +kernel
theorem dX9_isReached_136 : decode cX9_isReached 136 = .ok (.invokevirtual 147, 3) := by decide +kernel
theorem dX9_isReached_139 : decode cX9_isReached 139 = .ok (.istore 7, 2) := by decide +kernel
theorem dX9_isReached_141 : decode cX9_isReached 141 = .ok (.aload_n 0, 1) := by decide +kernel
theorem dX9_isReached_142 : decode cX9_isReached 142 = .ok (.iload 7, 2) := by decide +kernel
theorem dX9_isReached_144 : decode cX9_isReached 144 = .ok (.invokevirtual 138, 3) := by decide +kernel
theorem dX9_isReached_147 : decode cX9_isReached 147 = .ok (.istore 8, 2) := by decide +kernel
theorem dX9_isReached_149 : decode cX9_isReached 149 = .ok (.iload 8, 2) := by decide +kernel
theorem dX9_isReached_151 : decode cX9_isReached 151 = .ok (.ifCond .ge 49, 3) := by decide +kernel
theorem dX9_isReached_154 : decode cX9_isReached 154 = .ok (.aload_n 0, 1) := by decide +kernel
theorem dX9_isReached_155 : decode cX9_isReached 155 = .ok (.getfield 135, 3) := by decide +kernel
theorem dX9_isReached_158 : decode cX9_isReached 158 = .ok (.sipush 1500, 3) := by decide +kernel
theorem dX9_isReached_161 : decode cX9_isReached 161 = .ok (.if_icmp .ne 5, 3) := by decide +kernel
theorem dX9_isReached_164 : decode cX9_isReached 164 = .ok (.iconst 0, 1) := by decide +kernel
theorem dX9_isReached_165 : decode cX9_isReached 165 = .ok (.ireturn, 1) := by decide +kernel
theorem dX9_isReached_166 : decode cX9_isReached 166 = .ok (.aload_n 0, 1) := by decide +kernel
theorem dX9_isReached_167 : decode cX9_isReached 167 = .ok (.getfield 35, 3) := by decide +kernel
theorem dX9_isReached_170 : decode cX9_isReached 170 = .ok (.aload_n 0, 1) := by decide +kernel
theorem dX9_isReached_171 : decode cX9_isReached 171 = .ok (.getfield 135, 3) := by decide +kernel
theorem dX9_isReached_174 : decode cX9_isReached 174 = .ok (.iload 7, 2) := by decide +kernel
theorem dX9_isReached_176 : decode cX9_isReached 176 = .ok (.iastore, 1) := by decide +kernel
theorem dX9_isReached_177 : decode cX9_isReached 177 = .ok (.aload_n 0, 1) := by decide +kernel
theorem dX9_isReached_178 : decode cX9_isReached 178 = .ok (.dup, 1) := by decide +kernel
theorem dX9_isReached_179 : decode cX9_isReached 179 = .ok (.getfield 135, 3) := by decide +kernel
theorem dX9_isReached_182 : decode cX9_isReached 182 = .ok (.iconst 1, 1) := by decide +kernel
theorem dX9_isReached_183 : decode cX9_isReached 183 = .ok (.iadd, 1) := by decide +kernel
theorem dX9_isReached_184 : decode cX9_isReached 184 = .ok (.putfield 135, 3) := by decide +kernel
theorem dX9_isReached_187 : decode cX9_isReached 187 = .ok (.aload_n 0, 1) := by decide +kernel
theorem dX9_isReached_188 : decode cX9_isReached 188 = .ok (.getfield 38, 3) := by decide +kernel
theorem dX9_isReached_191 : decode cX9_isReached 191 = .ok (.iconst (-1), 1) := by decide +kernel
theorem dX9_isReached_192 : decode cX9_isReached 192 = .ok (.iload 8, 2) := by decide +kernel
theorem dX9_isReached_194 : decode cX9_isReached 194 = .ok (.isub, 1) := by decide +kernel
theorem dX9_isReached_195 : decode cX9_isReached 195 = .ok (.aload_n 0, 1) := by decide +kernel
theorem dX9_isReached_196 : decode cX9_isReached 196 = .ok (.getfield 135, 3) := by decide +kernel
theorem dX9_isReached_199 : decode cX9_isReached 199 = .ok (.iastore, 1) := by decide +kernel
theorem dX9_isReached_200 : decode cX9_isReached 200 = .ok (.iinc 6 1, 3) := by decide +kernel
theorem dX9_isReached_203 : decode cX9_isReached 203 = .ok (.goto (-97), 3) := by decide +kernel
theorem dX9_isReached_206 : decode cX9_isReached 206 = .ok (.iinc 4 1, 3) := by decide +kernel
theorem dX9_isReached_209 : decode cX9_isReached 209 = .ok (.goto (-144), 3) := by decide +kernel
theorem dX9_isReached_212 : decode cX9_isReached 212 = .ok (.iconst 1, 1) := by decide +kernel
theorem dX9_isReached_213 : decode cX9_isReached 213 = .ok (.ireturn, 1) := by decide +kernel
theorem dX9_weighs_0 : decode cX9_weighs 0 = .ok (.aload_n 0, 1) := by decide +kernel
theorem dX9_weighs_1 : decode cX9_weighs 1 = .ok (.getfield 135, 3) := by decide +kernel
theorem dX9_weighs_4 : decode cX9_weighs 4 = .ok (.iconst 1, 1) := by decide +kernel
theorem dX9_weighs_5 : decode cX9_weighs 5 = .ok (.isub, 1) := by decide +kernel
theorem dX9_weighs_6 : decode cX9_weighs 6 = .ok (.istore_n 2, 1) := by decide +kernel
theorem dX9_weighs_7 : decode cX9_weighs 7 = .ok (.iload_n 2, 1) := by decide +kernel
theorem dX9_weighs_8 : decode cX9_weighs 8 = .ok (.ifCond .lt 238, 3) := by decide +kernel
theorem dX9_weighs_11 : decode cX9_weighs 11 = .ok (.aload_n 0, 1) := by decide +kernel
theorem dX9_weighs_12 : decode cX9_weighs 12 = .ok (.getfield 35, 3) := by decide +kernel
theorem dX9_weighs_15 : decode cX9_weighs 15 = .ok (.iload_n 2, 1) := by decide +kernel
theorem dX9_weighs_16 : decode cX9_weighs 16 = .ok (.iaload, 1) := by decide +kernel
theorem dX9_weighs_17 : decode cX9_weighs 17 = .ok (.invokestatic 141, 3) := by decide +kernel
theorem dX9_weighs_20 : decode cX9_weighs 20 = .ok (.istore_n 3, 1) := by decide +kernel
theorem dX9_weighs_21 : decode cX9_weighs 21 = .ok (.aload_n 0, 1) := by decide +kernel
theorem dX9_weighs_22 : decode cX9_weighs 22 = .ok (.aload_n 0, 1) := by decide +kernel
theorem dX9_weighs_23 : decode cX9_weighs 23 = .ok (.getfield 35, 3) := by decide +kernel
theorem dX9_weighs_26 : decode cX9_weighs 26 = .ok (.iload_n 2, 1) := by decide +kernel
theorem dX9_weighs_27 : decode cX9_weighs 27 = .ok (.iaload, 1) := by decide +kernel
theorem dX9_weighs_28 : decode cX9_weighs 28 = .ok (.invokevirtual 144, 3) := by decide +kernel
theorem dX9_weighs_31 : decode cX9_weighs 31 = .ok (.aload_n 0, 1) := by decide +kernel
theorem dX9_weighs_32 : decode cX9_weighs 32 = .ok (.iload_n 3, 1) := by decide +kernel
theorem dX9_weighs_33 : decode cX9_weighs 33 = .ok (.invokevirtual 105, 3) := by decide +kernel
theorem dX9_weighs_36 : decode cX9_weighs 36 = .ok (.aload_n 0, 1) := by decide +kernel
theorem dX9_weighs_37 : decode cX9_weighs 37 = .ok (.getfield 41, 3) := by decide +kernel
theorem dX9_weighs_40 : decode cX9_weighs 40 = .ok (.iload_n 2, 1) := by decide +kernel
theorem dX9_weighs_41 : decode cX9_weighs 41 = .ok (.iconst 0, 1) := by decide +kernel
theorem dX9_weighs_42 : decode cX9_weighs 42 = .ok (.bastore, 1) := by decide +kernel
theorem dX9_weighs_43 : decode cX9_weighs 43 = .ok (.aload_n 0, 1) := by decide +kernel
theorem dX9_weighs_44 : decode cX9_weighs 44 = .ok (.getfield 45, 3) := by decide +kernel
theorem dX9_weighs_47 : decode cX9_weighs 47 = .ok (.iload_n 2, 1) := by decide +kernel
theorem dX9_weighs_48 : decode cX9_weighs 48 = .ok (.iconst 0, 1) := by decide +kernel
theorem dX9_weighs_49 : decode cX9_weighs 49 = .ok (.iastore, 1) := by decide +kernel
theorem dX9_weighs_50 : decode cX9_weighs 50 = .ok (.iconst (-1), 1) := by decide +kernel
theorem dX9_weighs_51 : decode cX9_weighs 51 = .ok (.istore 4, 2) := by decide +kernel
theorem dX9_weighs_53 : decode cX9_weighs 53 = .ok (.iconst 0, 1) := by decide +kernel
theorem dX9_weighs_54 : decode cX9_weighs 54 = .ok (.istore 5, 2) := by decide +kernel
theorem dX9_weighs_56 : decode cX9_weighs 56 = .ok (.iload 5, 2) := by decide +kernel
theorem dX9_weighs_58 : decode cX9_weighs 58 = .ok (.aload_n 0, 1) := by decide +kernel
theorem dX9_weighs_59 : decode cX9_weighs 59 = .ok (.getfield 102, 3) := by decide +kernel
theorem dX9_weighs_62 : decode cX9_weighs 62 = .ok (.if_icmp .ge 140, 3) := by decide +kernel
theorem dX9_weighs_65 : decode cX9_weighs 65 = .ok (.aload_n 0, 1) := by decide +kernel
theorem dX9_weighs_66 : decode cX9_weighs 66 = .ok (.aload_n 0, 1) := by decide +kernel
theorem dX9_weighs_67 : decode cX9_weighs 67 = .ok (.aload_n 0, 1) := by decide +kernel
theorem dX9_weighs_68 : decode cX9_weighs 68 = .ok (.getfield 32, 3) := by decide +kernel
theorem dX9_weighs_71 : decode cX9_weighs 71 = .ok (.iload 5, 2) := by decide +kernel
theorem dX9_weighs_73 : decode cX9_weighs 73 = .ok (.iaload, 1) := by decide +kernel
theorem dX9_weighs_74 : decode cX9_weighs 74 = .ok (.iload_n 1, 1) := by decide +kernel
theorem dX9_weighs_75 : decode cX9_weighs 75 = .ok (.ifCond .eq 9, 3) := by decide +kernel
theorem dX9_weighs_78 : decode cX9_weighs 78 = .ok (.iconst 3, 1) := by decide +kernel
theorem dX9_weighs_79 : decode cX9_weighs 79 = .ok (.iload_n 3, 1) := by decide +kernel
theorem dX9_weighs_80 : decode cX9_weighs 80 = .ok (.isub, 1) := by decide +kernel
theorem dX9_weighs_81 : decode cX9_weighs 81 = .ok (.goto 4, 3) := by decide +kernel
theorem dX9_weighs_84 : decode cX9_weighs 84 = .ok (.iload_n 3, 1) := by decide +kernel
theorem dX9_weighs_85 : decode cX9_weighs 85 = .ok (.invokevirtual 147, 3) := by decide +kernel
theorem dX9_weighs_88 : decode cX9_weighs 88 = .ok (.invokevirtual 138, 3) := by decide +kernel
theorem dX9_weighs_91 : decode cX9_weighs 91 = .ok (.istore 6, 2) := by decide +kernel
theorem dX9_weighs_93 : decode cX9_weighs 93 = .ok (.iload_n 1, 1) := by decide +kernel
theorem dX9_weighs_94 : decode cX9_weighs 94 = .ok (.ifCond .eq 17, 3) := by decide +kernel
theorem dX9_weighs_97 : decode cX9_weighs 97 = .ok (.aload_n 0, 1) := by decide +kernel
theorem dX9_weighs_98 : decode cX9_weighs 98 = .ok (.getfield 41, 3) := by decide +kernel
theorem dX9_weighs_101 : decode cX9_weighs 101 = .ok (.iload 6, 2) := by decide +kernel
theorem dX9_weighs_103 : decode cX9_weighs 103 = .ok (.baload, 1) := by decide +kernel
theorem dX9_weighs_104 : decode cX9_weighs 104 = .ok (.ifCond .ne 7, 3) := by decide +kernel
theorem dX9_weighs_107 : decode cX9_weighs 107 = .ok (.iconst 1, 1) := by decide +kernel
theorem dX9_weighs_108 : decode cX9_weighs 108 = .ok (.goto 4, 3) := by decide +kernel
theorem dX9_weighs_111 : decode cX9_weighs 111 = .ok (.iconst 0, 1) := by decide +kernel
theorem dX9_weighs_112 : decode cX9_weighs 112 = .ok (.istore 7, 2) := by decide +kernel
theorem dX9_weighs_114 : decode cX9_weighs 114 = .ok (.iload 7, 2) := by decide +kernel
theorem dX9_weighs_116 : decode cX9_weighs 116 = .ok (.ifCond .eq 34, 3) := by decide +kernel
theorem dX9_weighs_119 : decode cX9_weighs 119 = .ok (.iload 4, 2) := by decide +kernel
theorem dX9_weighs_121 : decode cX9_weighs 121 = .ok (.ifCond .lt 17, 3) := by decide +kernel
theorem dX9_weighs_124 : decode cX9_weighs 124 = .ok (.aload_n 0, 1) := by decide +kernel
theorem dX9_weighs_125 : decode cX9_weighs 125 = .ok (.getfield 45, 3) := by decide +kernel
theorem dX9_weighs_128 : decode cX9_weighs 128 = .ok (.iload 6, 2) := by decide +kernel
theorem dX9_weighs_130 : decode cX9_weighs 130 = .ok (.iaload, 1) := by decide +kernel
theorem dX9_weighs_131 : decode cX9_weighs 131 = .ok (.iconst 1, 1) := by decide +kernel
theorem dX9_weighs_132 : decode cX9_weighs 132 = .ok (.iadd, 1) := by decide +kernel
theorem dX9_weighs_133 : decode cX9_weighs 133 = .ok (.iload 4, 2) := by decide +kernel
theorem dX9_weighs_135 : decode cX9_weighs 135 = .ok (.if_icmp .ge 15, 3) := by decide +kernel
theorem dX9_weighs_138 : decode cX9_weighs 138 = .ok (.aload_n 0, 1) := by decide +kernel
theorem dX9_weighs_139 : decode cX9_weighs 139 = .ok (.getfield 45, 3) := by decide +kernel
theorem dX9_weighs_142 : decode cX9_weighs 142 = .ok (.iload 6, 2) := by decide +kernel
theorem dX9_weighs_144 : decode cX9_weighs 144 = .ok (.iaload, 1) := by decide +kernel
theorem dX9_weighs_145 : decode cX9_weighs 145 = .ok (.iconst 1, 1) := by decide +kernel
theorem dX9_weighs_146 : decode cX9_weighs 146 = .ok (.iadd, 1) := by decide +kernel
theorem dX9_weighs_147 : decode cX9_weighs 147 = .ok (.goto 5, 3) := by decide +kernel
theorem dX9_weighs_150 : decode cX9_weighs 150 = .ok (.iload 4, 2) := by decide +kernel
theorem dX9_weighs_152 : decode cX9_weighs 152 = .ok (.istore 4, 2) := by decide +kernel
theorem dX9_weighs_154 : decode cX9_weighs 154 = .ok (.aload_n 0, 1) := by decide +kernel
theorem dX9_weighs_155 : decode cX9_weighs 155 = .ok (.getfield 45, 3) := by decide +kernel
theorem dX9_weighs_158 : decode cX9_weighs 158 = .ok (.iload_n 2, 1) := by decide +kernel
theorem dX9_weighs_159 : decode cX9_weighs 159 = .ok (.aload_n 0, 1) := by decide +kernel
theorem dX9_weighs_160 : decode cX9_weighs 160 = .ok (.getfield 45, 3) := by decide +kernel
theorem dX9_weighs_163 : decode cX9_weighs 163 = .ok (.iload 6, 2) := by decide +kernel
theorem dX9_weighs_165 : decode cX9_weighs 165 = .ok (.iaload, 1) := by decide +kernel
theorem dX9_weighs_166 : decode cX9_weighs 166 = .ok (.iconst 1, 1) := by decide +kernel
theorem dX9_weighs_167 : decode cX9_weighs 167 = .ok (.iadd, 1) := by decide +kernel
theorem dX9_weighs_168 : decode cX9_weighs 168 = .ok (.aload_n 0, 1) := by decide +kernel
theorem dX9_weighs_169 : decode cX9_weighs 169 = .ok (.getfield 45, 3) := by decide +kernel
theorem dX9_weighs_172 : decode cX9_weighs 172 = .ok (.iload_n 2, 1) := by decide +kernel
theorem dX9_weighs_173 : decode cX9_weighs 173 = .ok (.iaload, 1) := by decide +kernel
theorem dX9_weighs_174 : decode cX9_weighs 174 = .ok (.if_icmp .le 15, 3) := by decide +kernel
theorem dX9_weighs_177 : decode cX9_weighs 177 = .ok (.aload_n 0, 1) := by decide +kernel
theorem dX9_weighs_178 : decode cX9_weighs 178 = .ok (.getfield 45, 3) := by decide +kernel
theorem dX9_weighs_181 : decode cX9_weighs 181 = .ok (.iload 6, 2) := by decide +kernel
theorem dX9_weighs_183 : decode cX9_weighs 183 = .ok (.iaload, 1) := by decide +kernel
theorem dX9_weighs_184 : decode cX9_weighs 184 = .ok (.iconst 1, 1) := by decide +kernel
theorem dX9_weighs_185 : decode cX9_weighs 185 = .ok (.iadd, 1) := by decide +kernel
theorem dX9_weighs_186 : decode cX9_weighs 186 = .ok (.goto 9, 3) := by decide +kernel
theorem dX9_weighs_189 : decode cX9_weighs 189 = .ok (.aload_n 0, 1) := by decide +kernel
theorem dX9_weighs_190 : decode cX9_weighs 190 = .ok (.getfield 45, 3) := by decide +kernel
theorem dX9_weighs_193 : decode cX9_weighs 193 = .ok (.iload_n 2, 1) := by decide +kernel
theorem dX9_weighs_194 : decode cX9_weighs 194 = .ok (.iaload, 1) := by decide +kernel
theorem dX9_weighs_195 : decode cX9_weighs 195 = .ok (.iastore, 1) := by decide +kernel
theorem dX9_weighs_196 : decode cX9_weighs 196 = .ok (.iinc 5 1, 3) := by decide +kernel
theorem dX9_weighs_199 : decode cX9_weighs 199 = .ok (.goto (-143), 3) := by decide +kernel
theorem dX9_weighs_202 : decode cX9_weighs 202 = .ok (.aload_n 0, 1) := by decide +kernel
theorem dX9_weighs_203 : decode cX9_weighs 203 = .ok (.getfield 41, 3) := by decide +kernel
theorem dX9_weighs_206 : decode cX9_weighs 206 = .ok (.iload_n 2, 1) := by decide +kernel
theorem dX9_weighs_207 : decode cX9_weighs 207 = .ok (.iload 4, 2) := by decide +kernel
theorem dX9_weighs_209 : decode cX9_weighs 209 = .ok (.ifCond .lt 7, 3) := by decide +kernel
theorem dX9_weighs_212 : decode cX9_weighs 212 = .ok (.iconst 1, 1) := by decide +kernel
theorem dX9_weighs_213 : decode cX9_weighs 213 = .ok (.goto 4, 3) := by decide +kernel
theorem dX9_weighs_216 : decode cX9_weighs 216 = .ok (.iconst 0, 1) := by decide +kernel
theorem dX9_weighs_217 : decode cX9_weighs 217 = .ok (.bastore, 1) := by decide +kernel
theorem dX9_weighs_218 : decode cX9_weighs 218 = .ok (.aload_n 0, 1) := by decide +kernel
theorem dX9_weighs_219 : decode cX9_weighs 219 = .ok (.getfield 45, 3) := by decide +kernel
theorem dX9_weighs_222 : decode cX9_weighs 222 = .ok (.iload_n 2, 1) := by decide +kernel
theorem dX9_weighs_223 : decode cX9_weighs 223 = .ok (.iload 4, 2) := by decide +kernel
theorem dX9_weighs_225 : decode cX9_weighs 225 = .ok (.ifCond .lt 8, 3) := by decide +kernel
theorem dX9_weighs_228 : decode cX9_weighs 228 = .ok (.iload 4, 2) := by decide +kernel
theorem dX9_weighs_230 : decode cX9_weighs 230 = .ok (.goto 9, 3) := by decide +kernel
theorem dX9_weighs_233 : decode cX9_weighs 233 = .ok (.aload_n 0, 1) := by decide +kernel
theorem dX9_weighs_234 : decode cX9_weighs 234 = .ok (.getfield 45, 3) := by decide +kernel
theorem dX9_weighs_237 : decode cX9_weighs 237 = .ok (.iload_n 2, 1) := by decide +kernel
theorem dX9_weighs_238 : decode cX9_weighs 238 = .ok (.iaload, 1) := by decide +kernel
theorem dX9_weighs_239 : decode cX9_weighs 239 = .ok (.iastore, 1) := by decide +kernel
theorem dX9_weighs_240 : decode cX9_weighs 240 = .ok (.iinc 2 (-1), 3) := by decide +kernel
theorem dX9_weighs_243 : decode cX9_weighs 243 = .ok (.goto (-236), 3) := by decide +kernel
theorem dX9_weighs_246 : decode cX9_weighs 246 = .ok (.return_, 1) := by decide +kernel
theorem dX9_valueOf_0 : decode cX9_valueOf 0 = .ok (.aload_n 0, 1) := by decide +kernel
theorem dX9_valueOf_1 : decode cX9_valueOf 1 = .ok (.iload_n 1, 1) := by decide +kernel
theorem dX9_valueOf_2 : decode cX9_valueOf 2 = .ok (.invokevirtual 131, 3) := by decide +kernel
theorem dX9_valueOf_5 : decode cX9_valueOf 5 = .ok (.istore_n 2, 1) := by decide +kernel
theorem dX9_valueOf_6 : decode cX9_valueOf 6 = .ok (.iload_n 2, 1) := by decide +kernel
theorem dX9_valueOf_7 : decode cX9_valueOf 7 = .ok (.ifCond .ne 5, 3) := by decide +kernel
theorem dX9_valueOf_10 : decode cX9_valueOf 10 = .ok (.iconst 0, 1) := by decide +kernel
theorem dX9_valueOf_11 : decode cX9_valueOf 11 = .ok (.ireturn, 1) := by decide +kernel
theorem dX9_valueOf_12 : decode cX9_valueOf 12 = .ok (.aload_n 0, 1) := by decide +kernel
theorem dX9_valueOf_13 : decode cX9_valueOf 13 = .ok (.iload_n 1, 1) := by decide +kernel
theorem dX9_valueOf_14 : decode cX9_valueOf 14 = .ok (.invokevirtual 150, 3) := by decide +kernel
theorem dX9_valueOf_17 : decode cX9_valueOf 17 = .ok (.istore_n 3, 1) := by decide +kernel
theorem dX9_valueOf_18 : decode cX9_valueOf 18 = .ok (.iconst 0, 1) := by decide +kernel
theorem dX9_valueOf_19 : decode cX9_valueOf 19 = .ok (.istore 4, 2) := by decide +kernel
theorem dX9_valueOf_21 : decode cX9_valueOf 21 = .ok (.iload 4, 2) := by decide +kernel
theorem dX9_valueOf_23 : decode cX9_valueOf 23 = .ok (.aload_n 0, 1) := by decide +kernel
theorem dX9_valueOf_24 : decode cX9_valueOf 24 = .ok (.getfield 74, 3) := by decide +kernel
theorem dX9_valueOf_27 : decode cX9_valueOf 27 = .ok (.if_icmp .ge 38, 3) := by decide +kernel
theorem dX9_valueOf_30 : decode cX9_valueOf 30 = .ok (.aload_n 0, 1) := by decide +kernel
theorem dX9_valueOf_31 : decode cX9_valueOf 31 = .ok (.getfield 26, 3) := by decide +kernel
theorem dX9_valueOf_34 : decode cX9_valueOf 34 = .ok (.iload 4, 2) := by decide +kernel
theorem dX9_valueOf_36 : decode cX9_valueOf 36 = .ok (.iaload, 1) := by decide +kernel
theorem dX9_valueOf_37 : decode cX9_valueOf 37 = .ok (.iload_n 3, 1) := by decide +kernel
theorem dX9_valueOf_38 : decode cX9_valueOf 38 = .ok (.if_icmp .ne 21, 3) := by decide +kernel
theorem dX9_valueOf_41 : decode cX9_valueOf 41 = .ok (.aload_n 0, 1) := by decide +kernel
theorem dX9_valueOf_42 : decode cX9_valueOf 42 = .ok (.dup, 1) := by decide +kernel
theorem dX9_valueOf_43 : decode cX9_valueOf 43 = .ok (.getfield 153, 3) := by decide +kernel
theorem dX9_valueOf_46 : decode cX9_valueOf 46 = .ok (.iconst 1, 1) := by decide +kernel
theorem dX9_valueOf_47 : decode cX9_valueOf 47 = .ok (.iadd, 1) := by decide +kernel
theorem dX9_valueOf_48 : decode cX9_valueOf 48 = .ok (.putfield 153, 3) := by decide +kernel
theorem dX9_valueOf_51 : decode cX9_valueOf 51 = .ok (.aload_n 0, 1) := by decide +kernel
theorem dX9_valueOf_52 : decode cX9_valueOf 52 = .ok (.getfield 29, 3) := by decide +kernel
theorem dX9_valueOf_55 : decode cX9_valueOf 55 = .ok (.iload 4, 2) := by decide +kernel
theorem dX9_valueOf_57 : decode cX9_valueOf 57 = .ok (.iaload, 1) := by decide +kernel
theorem dX9_valueOf_58 : decode cX9_valueOf 58 = .ok (.ireturn, 1) := by decide +kernel
theorem dX9_valueOf_59 : decode cX9_valueOf 59 = .ok (.iinc 4 1, 3) := by decide +kernel
theorem dX9_valueOf_62 : decode cX9_valueOf 62 = .ok (.goto (-41), 3) := by decide +kernel
theorem dX9_valueOf_65 : decode cX9_valueOf 65 = .ok (.aload_n 0, 1) := by decide +kernel
theorem dX9_valueOf_66 : decode cX9_valueOf 66 = .ok (.iload_n 3, 1) := by decide +kernel
theorem dX9_valueOf_67 : decode cX9_valueOf 67 = .ok (.iload_n 2, 1) := by decide +kernel
theorem dX9_valueOf_68 : decode cX9_valueOf 68 = .ok (.iconst 0, 1) := by decide +kernel
theorem dX9_valueOf_69 : decode cX9_valueOf 69 = .ok (.invokevirtual 156, 3) := by decide +kernel
theorem dX9_valueOf_72 : decode cX9_valueOf 72 = .ok (.ifCond .ne 7, 3) := by decide +kernel
theorem dX9_valueOf_75 : decode cX9_valueOf 75 = .ok (.sipush (-1004), 3) := by decide +kernel
theorem dX9_valueOf_78 : decode cX9_valueOf 78 = .ok (.ireturn, 1) := by decide +kernel
theorem dX9_valueOf_79 : decode cX9_valueOf 79 = .ok (.aload_n 0, 1) := by decide +kernel
theorem dX9_valueOf_80 : decode cX9_valueOf 80 = .ok (.iconst 0, 1) := by decide +kernel
theorem dX9_valueOf_81 : decode cX9_valueOf 81 = .ok (.invokevirtual 160, 3) := by decide +kernel
theorem dX9_valueOf_84 : decode cX9_valueOf 84 = .ok (.aload_n 0, 1) := by decide +kernel
theorem dX9_valueOf_85 : decode cX9_valueOf 85 = .ok (.aload_n 0, 1) := by decide +kernel
theorem dX9_valueOf_86 : decode cX9_valueOf 86 = .ok (.getfield 74, 3) := by decide +kernel
theorem dX9_valueOf_89 : decode cX9_valueOf 89 = .ok (.bipush 40, 2) := by decide +kernel
theorem dX9_valueOf_91 : decode cX9_valueOf 91 = .ok (.if_icmp .ne 7, 3) := by decide +kernel
theorem dX9_valueOf_94 : decode cX9_valueOf 94 = .ok (.iconst 0, 1) := by decide +kernel
theorem dX9_valueOf_95 : decode cX9_valueOf 95 = .ok (.goto 7, 3) := by decide +kernel
theorem dX9_valueOf_98 : decode cX9_valueOf 98 = .ok (.aload_n 0, 1) := by decide +kernel
theorem dX9_valueOf_99 : decode cX9_valueOf 99 = .ok (.getfield 74, 3) := by decide +kernel
theorem dX9_valueOf_102 : decode cX9_valueOf 102 = .ok (.putfield 74, 3) := by decide +kernel
theorem dX9_valueOf_105 : decode cX9_valueOf 105 = .ok (.aload_n 0, 1) := by decide +kernel
theorem dX9_valueOf_106 : decode cX9_valueOf 106 = .ok (.getfield 26, 3) := by decide +kernel
theorem dX9_valueOf_109 : decode cX9_valueOf 109 = .ok (.aload_n 0, 1) := by decide +kernel
theorem dX9_valueOf_110 : decode cX9_valueOf 110 = .ok (.getfield 74, 3) := by decide +kernel
theorem dX9_valueOf_113 : decode cX9_valueOf 113 = .ok (.iload_n 3, 1) := by decide +kernel
theorem dX9_valueOf_114 : decode cX9_valueOf 114 = .ok (.iastore, 1) := by decide +kernel
theorem dX9_valueOf_115 : decode cX9_valueOf 115 = .ok (.aload_n 0, 1) := by decide +kernel
theorem dX9_valueOf_116 : decode cX9_valueOf 116 = .ok (.getfield 29, 3) := by decide +kernel
theorem dX9_valueOf_119 : decode cX9_valueOf 119 = .ok (.aload_n 0, 1) := by decide +kernel
theorem dX9_valueOf_120 : decode cX9_valueOf 120 = .ok (.getfield 74, 3) := by decide +kernel
theorem dX9_valueOf_123 : decode cX9_valueOf 123 = .ok (.aload_n 0, 1) := by decide +kernel
theorem dX9_valueOf_124 : decode cX9_valueOf 124 = .ok (.getfield 45, 3) := by decide +kernel
theorem dX9_valueOf_127 : decode cX9_valueOf 127 = .ok (.iconst 0, 1) := by decide +kernel
theorem dX9_valueOf_128 : decode cX9_valueOf 128 = .ok (.iaload, 1) := by decide +kernel
theorem dX9_valueOf_129 : decode cX9_valueOf 129 = .ok (.iastore, 1) := by decide +kernel
theorem dX9_valueOf_130 : decode cX9_valueOf 130 = .ok (.aload_n 0, 1) := by decide +kernel
theorem dX9_valueOf_131 : decode cX9_valueOf 131 = .ok (.dup, 1) := by decide +kernel
theorem dX9_valueOf_132 : decode cX9_valueOf 132 = .ok (.getfield 74, 3) := by decide +kernel
theorem dX9_valueOf_135 : decode cX9_valueOf 135 = .ok (.iconst 1, 1) := by decide +kernel
theorem dX9_valueOf_136 : decode cX9_valueOf 136 = .ok (.iadd, 1) := by decide +kernel
theorem dX9_valueOf_137 : decode cX9_valueOf 137 = .ok (.putfield 74, 3) := by decide +kernel
theorem dX9_valueOf_140 : decode cX9_valueOf 140 = .ok (.aload_n 0, 1) := by decide +kernel
theorem dX9_valueOf_141 : decode cX9_valueOf 141 = .ok (.getfield 45, 3) := by decide +kernel
theorem dX9_valueOf_144 : decode cX9_valueOf 144 = .ok (.iconst 0, 1) := by decide +kernel
theorem dX9_valueOf_145 : decode cX9_valueOf 145 = .ok (.iaload, 1) := by decide +kernel
theorem dX9_valueOf_146 : decode cX9_valueOf 146 = .ok (.ireturn, 1) := by decide +kernel
theorem dX9_value_0 : decode cX9_value 0 = .ok (.aload_n 0, 1) := by decide +kernel
theorem dX9_value_1 : decode cX9_value 1 = .ok (.iload_n 1, 1) := by decide +kernel
theorem dX9_value_2 : decode cX9_value 2 = .ok (.invokevirtual 128, 3) := by decide +kernel
theorem dX9_value_5 : decode cX9_value 5 = .ok (.istore_n 2, 1) := by decide +kernel
theorem dX9_value_6 : decode cX9_value 6 = .ok (.iload_n 2, 1) := by decide +kernel
theorem dX9_value_7 : decode cX9_value 7 = .ok (.ifCond .ge 7, 3) := by decide +kernel
theorem dX9_value_10 : decode cX9_value 10 = .ok (.sipush (-1001), 3) := by decide +kernel
theorem dX9_value_13 : decode cX9_value 13 = .ok (.ireturn, 1) := by decide +kernel
theorem dX9_value_14 : decode cX9_value 14 = .ok (.aload_n 0, 1) := by decide +kernel
theorem dX9_value_15 : decode cX9_value 15 = .ok (.iload_n 2, 1) := by decide +kernel
theorem dX9_value_16 : decode cX9_value 16 = .ok (.invokevirtual 131, 3) := by decide +kernel
theorem dX9_value_19 : decode cX9_value 19 = .ok (.iconst 3, 1) := by decide +kernel
theorem dX9_value_20 : decode cX9_value 20 = .ok (.if_icmp .ne 9, 3) := by decide +kernel
theorem dX9_value_23 : decode cX9_value 23 = .ok (.sipush (-1002), 3) := by decide +kernel
theorem dX9_value_26 : decode cX9_value 26 = .ok (.goto 8, 3) := by decide +kernel
theorem dX9_value_29 : decode cX9_value 29 = .ok (.aload_n 0, 1) := by decide +kernel
theorem dX9_value_30 : decode cX9_value 30 = .ok (.iload_n 2, 1) := by decide +kernel
theorem dX9_value_31 : decode cX9_value 31 = .ok (.invokevirtual 164, 3) := by decide +kernel
theorem dX9_value_34 : decode cX9_value 34 = .ok (.ireturn, 1) := by decide +kernel
theorem dX9_lead_0 : decode cX9_lead 0 = .ok (.aload_n 0, 1) := by decide +kernel
theorem dX9_lead_1 : decode cX9_lead 1 = .ok (.invokevirtual 122, 3) := by decide +kernel
theorem dX9_lead_4 : decode cX9_lead 4 = .ok (.iconst 0, 1) := by decide +kernel
theorem dX9_lead_5 : decode cX9_lead 5 = .ok (.istore_n 1, 1) := by decide +kernel
theorem dX9_lead_6 : decode cX9_lead 6 = .ok (.iload_n 1, 1) := by decide +kernel
theorem dX9_lead_7 : decode cX9_lead 7 = .ok (.aload_n 0, 1) := by decide +kernel
theorem dX9_lead_8 : decode cX9_lead 8 = .ok (.invokevirtual 60, 3) := by decide +kernel
theorem dX9_lead_11 : decode cX9_lead 11 = .ok (.if_icmp .ge 32, 3) := by decide +kernel
theorem dX9_lead_14 : decode cX9_lead 14 = .ok (.aload_n 0, 1) := by decide +kernel
theorem dX9_lead_15 : decode cX9_lead 15 = .ok (.getfield 51, 3) := by decide +kernel
theorem dX9_lead_18 : decode cX9_lead 18 = .ok (.iload_n 1, 1) := by decide +kernel
theorem dX9_lead_19 : decode cX9_lead 19 = .ok (.iaload, 1) := by decide +kernel
theorem dX9_lead_20 : decode cX9_lead 20 = .ok (.iload_n 1, 1) := by decide +kernel
theorem dX9_lead_21 : decode cX9_lead 21 = .ok (.if_icmp .ne 16, 3) := by decide +kernel
theorem dX9_lead_24 : decode cX9_lead 24 = .ok (.aload_n 0, 1) := by decide +kernel
theorem dX9_lead_25 : decode cX9_lead 25 = .ok (.iload_n 1, 1) := by decide +kernel
theorem dX9_lead_26 : decode cX9_lead 26 = .ok (.invokevirtual 131, 3) := by decide +kernel
theorem dX9_lead_29 : decode cX9_lead 29 = .ok (.iconst 3, 1) := by decide +kernel
theorem dX9_lead_30 : decode cX9_lead 30 = .ok (.if_icmp .ne 7, 3) := by decide +kernel
theorem dX9_lead_33 : decode cX9_lead 33 = .ok (.sipush (-1002), 3) := by decide +kernel
theorem dX9_lead_36 : decode cX9_lead 36 = .ok (.ireturn, 1) := by decide +kernel
theorem dX9_lead_37 : decode cX9_lead 37 = .ok (.iinc 1 1, 3) := by decide +kernel
theorem dX9_lead_40 : decode cX9_lead 40 = .ok (.goto (-34), 3) := by decide +kernel
theorem dX9_lead_43 : decode cX9_lead 43 = .ok (.iconst 0, 1) := by decide +kernel
theorem dX9_lead_44 : decode cX9_lead 44 = .ok (.istore_n 1, 1) := by decide +kernel
theorem dX9_lead_45 : decode cX9_lead 45 = .ok (.iconst 0, 1) := by decide +kernel
theorem dX9_lead_46 : decode cX9_lead 46 = .ok (.istore_n 2, 1) := by decide +kernel
theorem dX9_lead_47 : decode cX9_lead 47 = .ok (.iload_n 2, 1) := by decide +kernel
theorem dX9_lead_48 : decode cX9_lead 48 = .ok (.aload_n 0, 1) := by decide +kernel
theorem dX9_lead_49 : decode cX9_lead 49 = .ok (.invokevirtual 60, 3) := by decide +kernel
theorem dX9_lead_52 : decode cX9_lead 52 = .ok (.if_icmp .ge 59, 3) := by decide +kernel
theorem dX9_lead_55 : decode cX9_lead 55 = .ok (.aload_n 0, 1) := by decide +kernel
theorem dX9_lead_56 : decode cX9_lead 56 = .ok (.getfield 51, 3) := by decide +kernel
theorem dX9_lead_59 : decode cX9_lead 59 = .ok (.iload_n 2, 1) := by decide +kernel
theorem dX9_lead_60 : decode cX9_lead 60 = .ok (.iaload, 1) := by decide +kernel
theorem dX9_lead_61 : decode cX9_lead 61 = .ok (.iload_n 2, 1) := by decide +kernel
theorem dX9_lead_62 : decode cX9_lead 62 = .ok (.if_icmp .ne 43, 3) := by decide +kernel
theorem dX9_lead_65 : decode cX9_lead 65 = .ok (.aload_n 0, 1) := by decide +kernel
theorem dX9_lead_66 : decode cX9_lead 66 = .ok (.iload_n 2, 1) := by decide +kernel
theorem dX9_lead_67 : decode cX9_lead 67 = .ok (.invokevirtual 131, 3) := by decide +kernel
theorem dX9_lead_70 : decode cX9_lead 70 = .ok (.ifCond .le 35, 3) := by decide +kernel
theorem dX9_lead_73 : decode cX9_lead 73 = .ok (.aload_n 0, 1) := by decide +kernel
theorem dX9_lead_74 : decode cX9_lead 74 = .ok (.iload_n 2, 1) := by decide +kernel
theorem dX9_lead_75 : decode cX9_lead 75 = .ok (.invokevirtual 164, 3) := by decide +kernel
theorem dX9_lead_78 : decode cX9_lead 78 = .ok (.istore_n 3, 1) := by decide +kernel
theorem dX9_lead_79 : decode cX9_lead 79 = .ok (.iload_n 3, 1) := by decide +kernel
theorem dX9_lead_80 : decode cX9_lead 80 = .ok (.ifCond .ge 7, 3) := by decide +kernel
theorem dX9_lead_83 : decode cX9_lead 83 = .ok (.sipush (-1004), 3) := by decide +kernel
theorem dX9_lead_86 : decode cX9_lead 86 = .ok (.ireturn, 1) := by decide +kernel
theorem dX9_lead_87 : decode cX9_lead 87 = .ok (.iload_n 1, 1) := by decide +kernel
theorem dX9_lead_88 : decode cX9_lead 88 = .ok (.aload_n 0, 1) := by decide +kernel
theorem dX9_lead_89 : decode cX9_lead 89 = .ok (.iload_n 2, 1) := by decide +kernel
theorem dX9_lead_90 : decode cX9_lead 90 = .ok (.invokevirtual 131, 3) := by decide +kernel
theorem dX9_lead_93 : decode cX9_lead 93 = .ok (.iconst 1, 1) := by decide +kernel
theorem dX9_lead_94 : decode cX9_lead 94 = .ok (.if_icmp .ne 7, 3) := by decide +kernel
theorem dX9_lead_97 : decode cX9_lead 97 = .ok (.iload_n 3, 1) := by decide +kernel
theorem dX9_lead_98 : decode cX9_lead 98 = .ok (.goto 5, 3) := by decide +kernel
theorem dX9_lead_101 : decode cX9_lead 101 = .ok (.iload_n 3, 1) := by decide +kernel
theorem dX9_lead_102 : decode cX9_lead 102 = .ok (.ineg, 1) := by decide +kernel
theorem dX9_lead_103 : decode cX9_lead 103 = .ok (.iadd, 1) := by decide +kernel
theorem dX9_lead_104 : decode cX9_lead 104 = .ok (.istore_n 1, 1) := by decide +kernel
theorem dX9_lead_105 : decode cX9_lead 105 = .ok (.iinc 2 1, 3) := by decide +kernel
theorem dX9_lead_108 : decode cX9_lead 108 = .ok (.goto (-61), 3) := by decide +kernel
theorem dX9_lead_111 : decode cX9_lead 111 = .ok (.iload_n 1, 1) := by decide +kernel
theorem dX9_lead_112 : decode cX9_lead 112 = .ok (.ireturn, 1) := by decide +kernel
theorem dX9_kept_0 : decode cX9_kept 0 = .ok (.iload_n 1, 1) := by decide +kernel
theorem dX9_kept_1 : decode cX9_kept 1 = .ok (.iconst 0, 1) := by decide +kernel
theorem dX9_kept_2 : decode cX9_kept 2 = .ok (.iconst 1, 1) := by decide +kernel
theorem dX9_kept_3 : decode cX9_kept 3 = .ok (.invokestatic 64, 3) := by decide +kernel
theorem dX9_kept_6 : decode cX9_kept 6 = .ok (.ifCond .eq 21, 3) := by decide +kernel
theorem dX9_kept_9 : decode cX9_kept 9 = .ok (.iload_n 1, 1) := by decide +kernel
theorem dX9_kept_10 : decode cX9_kept 10 = .ok (.ifCond .ne 10, 3) := by decide +kernel
theorem dX9_kept_13 : decode cX9_kept 13 = .ok (.aload_n 0, 1) := by decide +kernel
theorem dX9_kept_14 : decode cX9_kept 14 = .ok (.getfield 74, 3) := by decide +kernel
theorem dX9_kept_17 : decode cX9_kept 17 = .ok (.goto 13, 3) := by decide +kernel
theorem dX9_kept_20 : decode cX9_kept 20 = .ok (.aload_n 0, 1) := by decide +kernel
theorem dX9_kept_21 : decode cX9_kept 21 = .ok (.getfield 153, 3) := by decide +kernel
theorem dX9_kept_24 : decode cX9_kept 24 = .ok (.goto 6, 3) := by decide +kernel
theorem dX9_kept_27 : decode cX9_kept 27 = .ok (.sipush (-1001), 3) := by decide +kernel
theorem dX9_kept_30 : decode cX9_kept 30 = .ok (.ireturn, 1) := by decide +kernel
theorem dX9_positions_0 : decode cX9_positions 0 = .ok (.iload_n 1, 1) := by decide +kernel
theorem dX9_positions_1 : decode cX9_positions 1 = .ok (.invokestatic 81, 3) := by decide +kernel
theorem dX9_positions_4 : decode cX9_positions 4 = .ok (.ifCond .ne 7, 3) := by decide +kernel
theorem dX9_positions_7 : decode cX9_positions 7 = .ok (.sipush (-1001), 3) := by decide +kernel
theorem dX9_positions_10 : decode cX9_positions 10 = .ok (.ireturn, 1) := by decide +kernel
theorem dX9_positions_11 : decode cX9_positions 11 = .ok (.aload_n 0, 1) := by decide +kernel
theorem dX9_positions_12 : decode cX9_positions 12 = .ok (.aload_n 0, 1) := by decide +kernel
theorem dX9_positions_13 : decode cX9_positions 13 = .ok (.iconst (-1), 1) := by decide +kernel
theorem dX9_positions_14 : decode cX9_positions 14 = .ok (.invokevirtual 150, 3) := by decide +kernel
theorem dX9_positions_17 : decode cX9_positions 17 = .ok (.iload_n 1, 1) := by decide +kernel
theorem dX9_positions_18 : decode cX9_positions 18 = .ok (.iconst 1, 1) := by decide +kernel
theorem dX9_positions_19 : decode cX9_positions 19 = .ok (.invokevirtual 156, 3) := by decide +kernel
theorem dX9_positions_22 : decode cX9_positions 22 = .ok (.ifCond .eq 10, 3) := by decide +kernel
theorem dX9_positions_25 : decode cX9_positions 25 = .ok (.aload_n 0, 1) := by decide +kernel
theorem dX9_positions_26 : decode cX9_positions 26 = .ok (.getfield 135, 3) := by decide +kernel
theorem dX9_positions_29 : decode cX9_positions 29 = .ok (.goto 6, 3) := by decide +kernel
theorem dX9_positions_32 : decode cX9_positions 32 = .ok (.sipush (-1004), 3) := by decide +kernel
theorem dX9_positions_35 : decode cX9_positions 35 = .ok (.ireturn, 1) := by decide +kernel
theorem dX9_winsFrom_0 : decode cX9_winsFrom 0 = .ok (.aload_n 0, 1) := by decide +kernel
theorem dX9_winsFrom_1 : decode cX9_winsFrom 1 = .ok (.iload_n 1, 1) := by decide +kernel
theorem dX9_winsFrom_2 : decode cX9_winsFrom 2 = .ok (.iload_n 2, 1) := by decide +kernel
theorem dX9_winsFrom_3 : decode cX9_winsFrom 3 = .ok (.iconst 1, 1) := by decide +kernel
theorem dX9_winsFrom_4 : decode cX9_winsFrom 4 = .ok (.invokevirtual 156, 3) := by decide +kernel
theorem dX9_winsFrom_7 : decode cX9_winsFrom 7 = .ok (.ifCond .ne 7, 3) := by decide +kernel
theorem dX9_winsFrom_10 : decode cX9_winsFrom 10 = .ok (.sipush (-1004), 3) := by decide +kernel
theorem dX9_winsFrom_13 : decode cX9_winsFrom 13 = .ok (.ireturn, 1) := by decide +kernel
theorem dX9_winsFrom_14 : decode cX9_winsFrom 14 = .ok (.aload_n 0, 1) := by decide +kernel
theorem dX9_winsFrom_15 : decode cX9_winsFrom 15 = .ok (.iconst 1, 1) := by decide +kernel
theorem dX9_winsFrom_16 : decode cX9_winsFrom 16 = .ok (.invokevirtual 160, 3) := by decide +kernel
theorem dX9_winsFrom_19 : decode cX9_winsFrom 19 = .ok (.aload_n 0, 1) := by decide +kernel
theorem dX9_winsFrom_20 : decode cX9_winsFrom 20 = .ok (.getfield 41, 3) := by decide +kernel
theorem dX9_winsFrom_23 : decode cX9_winsFrom 23 = .ok (.iconst 0, 1) := by decide +kernel
theorem dX9_winsFrom_24 : decode cX9_winsFrom 24 = .ok (.baload, 1) := by decide +kernel
theorem dX9_winsFrom_25 : decode cX9_winsFrom 25 = .ok (.ifCond .eq 7, 3) := by decide +kernel
theorem dX9_winsFrom_28 : decode cX9_winsFrom 28 = .ok (.iconst 1, 1) := by decide +kernel
theorem dX9_winsFrom_29 : decode cX9_winsFrom 29 = .ok (.goto 4, 3) := by decide +kernel
theorem dX9_winsFrom_32 : decode cX9_winsFrom 32 = .ok (.iconst 0, 1) := by decide +kernel
theorem dX9_winsFrom_33 : decode cX9_winsFrom 33 = .ok (.ireturn, 1) := by decide +kernel
theorem dX9_wins_0 : decode cX9_wins 0 = .ok (.iload_n 1, 1) := by decide +kernel
theorem dX9_wins_1 : decode cX9_wins 1 = .ok (.invokestatic 81, 3) := by decide +kernel
theorem dX9_wins_4 : decode cX9_wins 4 = .ok (.ifCond .eq 16, 3) := by decide +kernel
theorem dX9_wins_7 : decode cX9_wins 7 = .ok (.aload_n 0, 1) := by decide +kernel
theorem dX9_wins_8 : decode cX9_wins 8 = .ok (.aload_n 0, 1) := by decide +kernel
theorem dX9_wins_9 : decode cX9_wins 9 = .ok (.iconst (-1), 1) := by decide +kernel
theorem dX9_wins_10 : decode cX9_wins 10 = .ok (.invokevirtual 150, 3) := by decide +kernel
theorem dX9_wins_13 : decode cX9_wins 13 = .ok (.iload_n 1, 1) := by decide +kernel
theorem dX9_wins_14 : decode cX9_wins 14 = .ok (.invokevirtual 167, 3) := by decide +kernel
theorem dX9_wins_17 : decode cX9_wins 17 = .ok (.goto 6, 3) := by decide +kernel
theorem dX9_wins_20 : decode cX9_wins 20 = .ok (.sipush (-1001), 3) := by decide +kernel
theorem dX9_wins_23 : decode cX9_wins 23 = .ok (.ireturn, 1) := by decide +kernel
theorem dX9_outcomeFrom_0 : decode cX9_outcomeFrom 0 = .ok (.aload_n 0, 1) := by decide +kernel
theorem dX9_outcomeFrom_1 : decode cX9_outcomeFrom 1 = .ok (.iload_n 1, 1) := by decide +kernel
theorem dX9_outcomeFrom_2 : decode cX9_outcomeFrom 2 = .ok (.iconst 1, 1) := by decide +kernel
theorem dX9_outcomeFrom_3 : decode cX9_outcomeFrom 3 = .ok (.invokevirtual 167, 3) := by decide +kernel
theorem dX9_outcomeFrom_6 : decode cX9_outcomeFrom 6 = .ok (.istore_n 2, 1) := by decide +kernel
theorem dX9_outcomeFrom_7 : decode cX9_outcomeFrom 7 = .ok (.aload_n 0, 1) := by decide +kernel
theorem dX9_outcomeFrom_8 : decode cX9_outcomeFrom 8 = .ok (.iload_n 1, 1) := by decide +kernel
theorem dX9_outcomeFrom_9 : decode cX9_outcomeFrom 9 = .ok (.iconst 2, 1) := by decide +kernel
theorem dX9_outcomeFrom_10 : decode cX9_outcomeFrom 10 = .ok (.invokevirtual 167, 3) := by decide +kernel
theorem dX9_outcomeFrom_13 : decode cX9_outcomeFrom 13 = .ok (.istore_n 3, 1) := by decide +kernel
theorem dX9_outcomeFrom_14 : decode cX9_outcomeFrom 14 = .ok (.iload_n 2, 1) := by decide +kernel
theorem dX9_outcomeFrom_15 : decode cX9_outcomeFrom 15 = .ok (.ifCond .lt 7, 3) := by decide +kernel
theorem dX9_outcomeFrom_18 : decode cX9_outcomeFrom 18 = .ok (.iload_n 3, 1) := by decide +kernel
theorem dX9_outcomeFrom_19 : decode cX9_outcomeFrom 19 = .ok (.ifCond .ge 7, 3) := by decide +kernel
theorem dX9_outcomeFrom_22 : decode cX9_outcomeFrom 22 = .ok (.sipush (-1004), 3) := by decide +kernel
theorem dX9_outcomeFrom_25 : decode cX9_outcomeFrom 25 = .ok (.ireturn, 1) := by decide +kernel
theorem dX9_outcomeFrom_26 : decode cX9_outcomeFrom 26 = .ok (.iload_n 2, 1) := by decide +kernel
theorem dX9_outcomeFrom_27 : decode cX9_outcomeFrom 27 = .ok (.iconst 1, 1) := by decide +kernel
theorem dX9_outcomeFrom_28 : decode cX9_outcomeFrom 28 = .ok (.if_icmp .ne 16, 3) := by decide +kernel
theorem dX9_outcomeFrom_31 : decode cX9_outcomeFrom 31 = .ok (.iload_n 3, 1) := by decide +kernel
theorem dX9_outcomeFrom_32 : decode cX9_outcomeFrom 32 = .ok (.iconst 1, 1) := by decide +kernel
theorem dX9_outcomeFrom_33 : decode cX9_outcomeFrom 33 = .ok (.if_icmp .ne 7, 3) := by decide +kernel
theorem dX9_outcomeFrom_36 : decode cX9_outcomeFrom 36 = .ok (.iconst 2, 1) := by decide +kernel
theorem dX9_outcomeFrom_37 : decode cX9_outcomeFrom 37 = .ok (.goto 17, 3) := by decide +kernel
theorem dX9_outcomeFrom_40 : decode cX9_outcomeFrom 40 = .ok (.iconst 0, 1) := by decide +kernel
theorem dX9_outcomeFrom_41 : decode cX9_outcomeFrom 41 = .ok (.goto 13, 3) := by decide +kernel
theorem dX9_outcomeFrom_44 : decode cX9_outcomeFrom 44 = .ok (.iload_n 3, 1) := by decide +kernel
theorem dX9_outcomeFrom_45 : decode cX9_outcomeFrom 45 = .ok (.iconst 1, 1) := by decide +kernel
theorem dX9_outcomeFrom_46 : decode cX9_outcomeFrom 46 = .ok (.if_icmp .ne 7, 3) := by decide +kernel
theorem dX9_outcomeFrom_49 : decode cX9_outcomeFrom 49 = .ok (.iconst 1, 1) := by decide +kernel
theorem dX9_outcomeFrom_50 : decode cX9_outcomeFrom 50 = .ok (.goto 4, 3) := by decide +kernel
theorem dX9_outcomeFrom_53 : decode cX9_outcomeFrom 53 = .ok (.iconst 3, 1) := by decide +kernel
theorem dX9_outcomeFrom_54 : decode cX9_outcomeFrom 54 = .ok (.ireturn, 1) := by decide +kernel
theorem dX9_outcome_0 : decode cX9_outcome 0 = .ok (.aload_n 0, 1) := by decide +kernel
theorem dX9_outcome_1 : decode cX9_outcome 1 = .ok (.aload_n 0, 1) := by decide +kernel
theorem dX9_outcome_2 : decode cX9_outcome 2 = .ok (.iconst (-1), 1) := by decide +kernel
theorem dX9_outcome_3 : decode cX9_outcome 3 = .ok (.invokevirtual 150, 3) := by decide +kernel
theorem dX9_outcome_6 : decode cX9_outcome 6 = .ok (.invokevirtual 170, 3) := by decide +kernel
theorem dX9_outcome_9 : decode cX9_outcome 9 = .ok (.ireturn, 1) := by decide +kernel
theorem dX9_outcomeOf_0 : decode cX9_outcomeOf 0 = .ok (.aload_n 0, 1) := by decide +kernel
theorem dX9_outcomeOf_1 : decode cX9_outcomeOf 1 = .ok (.iload_n 1, 1) := by decide +kernel
theorem dX9_outcomeOf_2 : decode cX9_outcomeOf 2 = .ok (.invokevirtual 128, 3) := by decide +kernel
theorem dX9_outcomeOf_5 : decode cX9_outcomeOf 5 = .ok (.istore_n 2, 1) := by decide +kernel
theorem dX9_outcomeOf_6 : decode cX9_outcomeOf 6 = .ok (.iload_n 2, 1) := by decide +kernel
theorem dX9_outcomeOf_7 : decode cX9_outcomeOf 7 = .ok (.ifCond .ge 9, 3) := by decide +kernel
theorem dX9_outcomeOf_10 : decode cX9_outcomeOf 10 = .ok (.sipush (-1001), 3) := by decide +kernel
theorem dX9_outcomeOf_13 : decode cX9_outcomeOf 13 = .ok (.goto 12, 3) := by decide +kernel
theorem dX9_outcomeOf_16 : decode cX9_outcomeOf 16 = .ok (.aload_n 0, 1) := by decide +kernel
theorem dX9_outcomeOf_17 : decode cX9_outcomeOf 17 = .ok (.aload_n 0, 1) := by decide +kernel
theorem dX9_outcomeOf_18 : decode cX9_outcomeOf 18 = .ok (.iload_n 2, 1) := by decide +kernel
theorem dX9_outcomeOf_19 : decode cX9_outcomeOf 19 = .ok (.invokevirtual 150, 3) := by decide +kernel
theorem dX9_outcomeOf_22 : decode cX9_outcomeOf 22 = .ok (.invokevirtual 170, 3) := by decide +kernel
theorem dX9_outcomeOf_25 : decode cX9_outcomeOf 25 = .ok (.ireturn, 1) := by decide +kernel
theorem dX9_bestMove_0 : decode cX9_bestMove 0 = .ok (.iload_n 1, 1) := by decide +kernel
theorem dX9_bestMove_1 : decode cX9_bestMove 1 = .ok (.invokestatic 81, 3) := by decide +kernel
theorem dX9_bestMove_4 : decode cX9_bestMove 4 = .ok (.ifCond .ne 7, 3) := by decide +kernel
theorem dX9_bestMove_7 : decode cX9_bestMove 7 = .ok (.sipush (-1001), 3) := by decide +kernel
theorem dX9_bestMove_10 : decode cX9_bestMove 10 = .ok (.ireturn, 1) := by decide +kernel
theorem dX9_bestMove_11 : decode cX9_bestMove 11 = .ok (.aload_n 0, 1) := by decide +kernel
theorem dX9_bestMove_12 : decode cX9_bestMove 12 = .ok (.aload_n 0, 1) := by decide +kernel
theorem dX9_bestMove_13 : decode cX9_bestMove 13 = .ok (.iconst (-1), 1) := by decide +kernel
theorem dX9_bestMove_14 : decode cX9_bestMove 14 = .ok (.invokevirtual 150, 3) := by decide +kernel
theorem dX9_bestMove_17 : decode cX9_bestMove 17 = .ok (.iload_n 1, 1) := by decide +kernel
theorem dX9_bestMove_18 : decode cX9_bestMove 18 = .ok (.invokevirtual 167, 3) := by decide +kernel
theorem dX9_bestMove_21 : decode cX9_bestMove 21 = .ok (.ifCond .ge 7, 3) := by decide +kernel
theorem dX9_bestMove_24 : decode cX9_bestMove 24 = .ok (.sipush (-1004), 3) := by decide +kernel
theorem dX9_bestMove_27 : decode cX9_bestMove 27 = .ok (.ireturn, 1) := by decide +kernel
theorem dX9_bestMove_28 : decode cX9_bestMove 28 = .ok (.aload_n 0, 1) := by decide +kernel
theorem dX9_bestMove_29 : decode cX9_bestMove 29 = .ok (.iload_n 1, 1) := by decide +kernel
theorem dX9_bestMove_30 : decode cX9_bestMove 30 = .ok (.invokevirtual 109, 3) := by decide +kernel
theorem dX9_bestMove_33 : decode cX9_bestMove 33 = .ok (.pop, 1) := by decide +kernel
theorem dX9_bestMove_34 : decode cX9_bestMove 34 = .ok (.iconst 0, 1) := by decide +kernel
theorem dX9_bestMove_35 : decode cX9_bestMove 35 = .ok (.istore_n 2, 1) := by decide +kernel
theorem dX9_bestMove_36 : decode cX9_bestMove 36 = .ok (.iload_n 2, 1) := by decide +kernel
theorem dX9_bestMove_37 : decode cX9_bestMove 37 = .ok (.aload_n 0, 1) := by decide +kernel
theorem dX9_bestMove_38 : decode cX9_bestMove 38 = .ok (.getfield 102, 3) := by decide +kernel
theorem dX9_bestMove_41 : decode cX9_bestMove 41 = .ok (.if_icmp .ge 36, 3) := by decide +kernel
theorem dX9_bestMove_44 : decode cX9_bestMove 44 = .ok (.aload_n 0, 1) := by decide +kernel
theorem dX9_bestMove_45 : decode cX9_bestMove 45 = .ok (.getfield 41, 3) := by decide +kernel
theorem dX9_bestMove_48 : decode cX9_bestMove 48 = .ok (.aload_n 0, 1) := by decide +kernel
theorem dX9_bestMove_49 : decode cX9_bestMove 49 = .ok (.aload_n 0, 1) := by decide +kernel
theorem dX9_bestMove_50 : decode cX9_bestMove 50 = .ok (.aload_n 0, 1) := by decide +kernel
theorem dX9_bestMove_51 : decode cX9_bestMove 51 = .ok (.getfield 32, 3) := by decide +kernel
theorem dX9_bestMove_54 : decode cX9_bestMove 54 = .ok (.iload_n 2, 1) := by decide +kernel
theorem dX9_bestMove_55 : decode cX9_bestMove 55 = .ok (.iaload, 1) := by decide +kernel
theorem dX9_bestMove_56 : decode cX9_bestMove 56 = .ok (.iconst 3, 1) := by decide +kernel
theorem dX9_bestMove_57 : decode cX9_bestMove 57 = .ok (.iload_n 1, 1) := by decide +kernel
theorem dX9_bestMove_58 : decode cX9_bestMove 58 = .ok (.isub, 1) := by decide +kernel
theorem dX9_bestMove_59 : decode cX9_bestMove 59 = .ok (.invokevirtual 147, 3) := by decide +kernel
theorem dX9_bestMove_62 : decode cX9_bestMove 62 = .ok (.invokevirtual 138, 3) := by decide +kernel
theorem dX9_bestMove_65 : decode cX9_bestMove 65 = .ok (.baload, 1) := by decide +kernel
theorem dX9_bestMove_66 : decode cX9_bestMove 66 = .ok (.ifCond .ne 5, 3) := by decide +kernel
theorem dX9_bestMove_69 : decode cX9_bestMove 69 = .ok (.iload_n 2, 1) := by decide +kernel
theorem dX9_bestMove_70 : decode cX9_bestMove 70 = .ok (.ireturn, 1) := by decide +kernel
theorem dX9_bestMove_71 : decode cX9_bestMove 71 = .ok (.iinc 2 1, 3) := by decide +kernel
theorem dX9_bestMove_74 : decode cX9_bestMove 74 = .ok (.goto (-38), 3) := by decide +kernel
theorem dX9_bestMove_77 : decode cX9_bestMove 77 = .ok (.sipush (-1005), 3) := by decide +kernel
theorem dX9_bestMove_80 : decode cX9_bestMove 80 = .ok (.ireturn, 1) := by decide +kernel
theorem dX9_length_0 : decode cX9_length 0 = .ok (.iload_n 1, 1) := by decide +kernel
theorem dX9_length_1 : decode cX9_length 1 = .ok (.invokestatic 81, 3) := by decide +kernel
theorem dX9_length_4 : decode cX9_length 4 = .ok (.ifCond .ne 7, 3) := by decide +kernel
theorem dX9_length_7 : decode cX9_length 7 = .ok (.sipush (-1001), 3) := by decide +kernel
theorem dX9_length_10 : decode cX9_length 10 = .ok (.ireturn, 1) := by decide +kernel
theorem dX9_length_11 : decode cX9_length 11 = .ok (.aload_n 0, 1) := by decide +kernel
theorem dX9_length_12 : decode cX9_length 12 = .ok (.aload_n 0, 1) := by decide +kernel
theorem dX9_length_13 : decode cX9_length 13 = .ok (.iconst (-1), 1) := by decide +kernel
theorem dX9_length_14 : decode cX9_length 14 = .ok (.invokevirtual 150, 3) := by decide +kernel
theorem dX9_length_17 : decode cX9_length 17 = .ok (.iload_n 1, 1) := by decide +kernel
theorem dX9_length_18 : decode cX9_length 18 = .ok (.invokevirtual 167, 3) := by decide +kernel
theorem dX9_length_21 : decode cX9_length 21 = .ok (.ifCond .ge 9, 3) := by decide +kernel
theorem dX9_length_24 : decode cX9_length 24 = .ok (.sipush (-1004), 3) := by decide +kernel
theorem dX9_length_27 : decode cX9_length 27 = .ok (.goto 9, 3) := by decide +kernel
theorem dX9_length_30 : decode cX9_length 30 = .ok (.aload_n 0, 1) := by decide +kernel
theorem dX9_length_31 : decode cX9_length 31 = .ok (.getfield 45, 3) := by decide +kernel
theorem dX9_length_34 : decode cX9_length 34 = .ok (.iconst 0, 1) := by decide +kernel
theorem dX9_length_35 : decode cX9_length 35 = .ok (.iaload, 1) := by decide +kernel
theorem dX9_length_36 : decode cX9_length 36 = .ok (.ireturn, 1) := by decide +kernel
theorem dX9_collects_0 : decode cX9_collects 0 = .ok (.iconst 0, 1) := by decide +kernel
theorem dX9_collects_1 : decode cX9_collects 1 = .ok (.istore_n 1, 1) := by decide +kernel
theorem dX9_collects_2 : decode cX9_collects 2 = .ok (.iload_n 1, 1) := by decide +kernel
theorem dX9_collects_3 : decode cX9_collects 3 = .ok (.aload_n 0, 1) := by decide +kernel
theorem dX9_collects_4 : decode cX9_collects 4 = .ok (.getfield 135, 3) := by decide +kernel
theorem dX9_collects_7 : decode cX9_collects 7 = .ok (.if_icmp .ge 94, 3) := by decide +kernel
theorem dX9_collects_10 : decode cX9_collects 10 = .ok (.aload_n 0, 1) := by decide +kernel
theorem dX9_collects_11 : decode cX9_collects 11 = .ok (.getfield 41, 3) := by decide +kernel
theorem dX9_collects_14 : decode cX9_collects 14 = .ok (.iload_n 1, 1) := by decide +kernel
theorem dX9_collects_15 : decode cX9_collects 15 = .ok (.baload, 1) := by decide +kernel
theorem dX9_collects_16 : decode cX9_collects 16 = .ok (.ifCond .ne 7, 3) := by decide +kernel
theorem dX9_collects_19 : decode cX9_collects 19 = .ok (.iconst 1, 1) := by decide +kernel
theorem dX9_collects_20 : decode cX9_collects 20 = .ok (.goto 4, 3) := by decide +kernel
theorem dX9_collects_23 : decode cX9_collects 23 = .ok (.iconst 0, 1) := by decide +kernel
theorem dX9_collects_24 : decode cX9_collects 24 = .ok (.istore_n 2, 1) := by decide +kernel
theorem dX9_collects_25 : decode cX9_collects 25 = .ok (.iconst 0, 1) := by decide +kernel
theorem dX9_collects_26 : decode cX9_collects 26 = .ok (.istore_n 3, 1) := by decide +kernel
theorem dX9_collects_27 : decode cX9_collects 27 = .ok (.iload_n 3, 1) := by decide +kernel
theorem dX9_collects_28 : decode cX9_collects 28 = .ok (.aload_n 0, 1) := by decide +kernel
theorem dX9_collects_29 : decode cX9_collects 29 = .ok (.getfield 173, 3) := by decide +kernel
theorem dX9_collects_32 : decode cX9_collects 32 = .ok (.if_icmp .ge 34, 3) := by decide +kernel
theorem dX9_collects_35 : decode cX9_collects 35 = .ok (.iload_n 2, 1) := by decide +kernel
theorem dX9_collects_36 : decode cX9_collects 36 = .ok (.ifCond .eq 30, 3) := by decide +kernel
theorem dX9_collects_39 : decode cX9_collects 39 = .ok (.aload_n 0, 1) := by decide +kernel
theorem dX9_collects_40 : decode cX9_collects 40 = .ok (.getfield 48, 3) := by decide +kernel
theorem dX9_collects_43 : decode cX9_collects 43 = .ok (.iload_n 3, 1) := by decide +kernel
theorem dX9_collects_44 : decode cX9_collects 44 = .ok (.iaload, 1) := by decide +kernel
theorem dX9_collects_45 : decode cX9_collects 45 = .ok (.aload_n 0, 1) := by decide +kernel
theorem dX9_collects_46 : decode cX9_collects 46 = .ok (.getfield 35, 3) := by decide +kernel
theorem dX9_collects_49 : decode cX9_collects 49 = .ok (.iload_n 1, 1) := by decide +kernel
theorem dX9_collects_50 : decode cX9_collects 50 = .ok (.iaload, 1) := by decide +kernel
theorem dX9_collects_51 : decode cX9_collects 51 = .ok (.if_icmp .eq 7, 3) := by decide +kernel
theorem dX9_collects_54 : decode cX9_collects 54 = .ok (.iconst 1, 1) := by decide +kernel
theorem dX9_collects_55 : decode cX9_collects 55 = .ok (.goto 4, 3) := by decide +kernel
theorem dX9_collects_58 : decode cX9_collects 58 = .ok (.iconst 0, 1) := by decide +kernel
theorem dX9_collects_59 : decode cX9_collects 59 = .ok (.istore_n 2, 1) := by decide +kernel
theorem dX9_collects_60 : decode cX9_collects 60 = .ok (.iinc 3 1, 3) := by decide +kernel
theorem dX9_collects_63 : decode cX9_collects 63 = .ok (.goto (-36), 3) := by decide +kernel
theorem dX9_collects_66 : decode cX9_collects 66 = .ok (.iload_n 2, 1) := by decide +kernel
theorem dX9_collects_67 : decode cX9_collects 67 = .ok (.ifCond .eq 28, 3) := by decide +kernel
theorem dX9_collects_70 : decode cX9_collects 70 = .ok (.aload_n 0, 1) := by decide +kernel
theorem dX9_collects_71 : decode cX9_collects 71 = .ok (.getfield 48, 3) := by decide +kernel
theorem dX9_collects_74 : decode cX9_collects 74 = .ok (.aload_n 0, 1) := by decide +kernel
theorem dX9_collects_75 : decode cX9_collects 75 = .ok (.getfield 173, 3) := by decide +kernel
theorem dX9_collects_78 : decode cX9_collects 78 = .ok (.aload_n 0, 1) := by decide +kernel
theorem dX9_collects_79 : decode cX9_collects 79 = .ok (.getfield 35, 3) := by decide +kernel
theorem dX9_collects_82 : decode cX9_collects 82 = .ok (.iload_n 1, 1) := by decide +kernel
theorem dX9_collects_83 : decode cX9_collects 83 = .ok (.iaload, 1) := by decide +kernel
theorem dX9_collects_84 : decode cX9_collects 84 = .ok (.iastore, 1) := by decide +kernel
theorem dX9_collects_85 : decode cX9_collects 85 = .ok (.aload_n 0, 1) := by decide +kernel
theorem dX9_collects_86 : decode cX9_collects 86 = .ok (.dup, 1) := by decide +kernel
theorem dX9_collects_87 : decode cX9_collects 87 = .ok (.getfield 173, 3) := by decide +kernel
theorem dX9_collects_90 : decode cX9_collects 90 = .ok (.iconst 1, 1) := by decide +kernel
theorem dX9_collects_91 : decode cX9_collects 91 = .ok (.iadd, 1) := by decide +kernel
theorem dX9_collects_92 : decode cX9_collects 92 = .ok (.putfield 173, 3) := by decide +kernel
theorem dX9_collects_95 : decode cX9_collects 95 = .ok (.iinc 1 1, 3) := by decide +kernel
theorem dX9_collects_98 : decode cX9_collects 98 = .ok (.goto (-96), 3) := by decide +kernel
theorem dX9_collects_101 : decode cX9_collects 101 = .ok (.return_, 1) := by decide +kernel
theorem dX9_zugzwangs_0 : decode cX9_zugzwangs 0 = .ok (.aload_n 0, 1) := by decide +kernel
theorem dX9_zugzwangs_1 : decode cX9_zugzwangs 1 = .ok (.iconst 0, 1) := by decide +kernel
theorem dX9_zugzwangs_2 : decode cX9_zugzwangs 2 = .ok (.putfield 173, 3) := by decide +kernel
theorem dX9_zugzwangs_5 : decode cX9_zugzwangs 5 = .ok (.iconst 1, 1) := by decide +kernel
theorem dX9_zugzwangs_6 : decode cX9_zugzwangs 6 = .ok (.istore_n 1, 1) := by decide +kernel
theorem dX9_zugzwangs_7 : decode cX9_zugzwangs 7 = .ok (.iload_n 1, 1) := by decide +kernel
theorem dX9_zugzwangs_8 : decode cX9_zugzwangs 8 = .ok (.iconst 3, 1) := by decide +kernel
theorem dX9_zugzwangs_9 : decode cX9_zugzwangs 9 = .ok (.if_icmp .ge 30, 3) := by decide +kernel
theorem dX9_zugzwangs_12 : decode cX9_zugzwangs 12 = .ok (.aload_n 0, 1) := by decide +kernel
theorem dX9_zugzwangs_13 : decode cX9_zugzwangs 13 = .ok (.aload_n 0, 1) := by decide +kernel
theorem dX9_zugzwangs_14 : decode cX9_zugzwangs 14 = .ok (.iconst (-1), 1) := by decide +kernel
theorem dX9_zugzwangs_15 : decode cX9_zugzwangs 15 = .ok (.invokevirtual 150, 3) := by decide +kernel
theorem dX9_zugzwangs_18 : decode cX9_zugzwangs 18 = .ok (.iload_n 1, 1) := by decide +kernel
theorem dX9_zugzwangs_19 : decode cX9_zugzwangs 19 = .ok (.invokevirtual 167, 3) := by decide +kernel
theorem dX9_zugzwangs_22 : decode cX9_zugzwangs 22 = .ok (.ifCond .ge 7, 3) := by decide +kernel
theorem dX9_zugzwangs_25 : decode cX9_zugzwangs 25 = .ok (.sipush (-1004), 3) := by decide +kernel
theorem dX9_zugzwangs_28 : decode cX9_zugzwangs 28 = .ok (.ireturn, 1) := by decide +kernel
theorem dX9_zugzwangs_29 : decode cX9_zugzwangs 29 = .ok (.aload_n 0, 1) := by decide +kernel
theorem dX9_zugzwangs_30 : decode cX9_zugzwangs 30 = .ok (.invokevirtual 176, 3) := by decide +kernel
theorem dX9_zugzwangs_33 : decode cX9_zugzwangs 33 = .ok (.iinc 1 1, 3) := by decide +kernel
theorem dX9_zugzwangs_36 : decode cX9_zugzwangs 36 = .ok (.goto (-29), 3) := by decide +kernel
theorem dX9_zugzwangs_39 : decode cX9_zugzwangs 39 = .ok (.iconst 0, 1) := by decide +kernel
theorem dX9_zugzwangs_40 : decode cX9_zugzwangs 40 = .ok (.istore_n 1, 1) := by decide +kernel
theorem dX9_zugzwangs_41 : decode cX9_zugzwangs 41 = .ok (.iconst 0, 1) := by decide +kernel
theorem dX9_zugzwangs_42 : decode cX9_zugzwangs 42 = .ok (.istore_n 2, 1) := by decide +kernel
theorem dX9_zugzwangs_43 : decode cX9_zugzwangs 43 = .ok (.iload_n 2, 1) := by decide +kernel
theorem dX9_zugzwangs_44 : decode cX9_zugzwangs 44 = .ok (.aload_n 0, 1) := by decide +kernel
theorem dX9_zugzwangs_45 : decode cX9_zugzwangs 45 = .ok (.getfield 173, 3) := by decide +kernel
theorem dX9_zugzwangs_48 : decode cX9_zugzwangs 48 = .ok (.if_icmp .ge 64, 3) := by decide +kernel
theorem dX9_zugzwangs_51 : decode cX9_zugzwangs 51 = .ok (.iconst 0, 1) := by decide +kernel
theorem dX9_zugzwangs_52 : decode cX9_zugzwangs 52 = .ok (.istore_n 3, 1) := by decide +kernel
theorem dX9_zugzwangs_53 : decode cX9_zugzwangs 53 = .ok (.iload_n 3, 1) := by decide +kernel
theorem dX9_zugzwangs_54 : decode cX9_zugzwangs 54 = .ok (.aload_n 0, 1) := by decide +kernel
theorem dX9_zugzwangs_55 : decode cX9_zugzwangs 55 = .ok (.getfield 173, 3) := by decide +kernel
theorem dX9_zugzwangs_58 : decode cX9_zugzwangs 58 = .ok (.if_icmp .ge 48, 3) := by decide +kernel
theorem dX9_zugzwangs_61 : decode cX9_zugzwangs 61 = .ok (.aload_n 0, 1) := by decide +kernel
theorem dX9_zugzwangs_62 : decode cX9_zugzwangs 62 = .ok (.getfield 48, 3) := by decide +kernel
theorem dX9_zugzwangs_65 : decode cX9_zugzwangs 65 = .ok (.iload_n 2, 1) := by decide +kernel
theorem dX9_zugzwangs_66 : decode cX9_zugzwangs 66 = .ok (.iaload, 1) := by decide +kernel
theorem dX9_zugzwangs_67 : decode cX9_zugzwangs 67 = .ok (.invokestatic 141, 3) := by decide +kernel
theorem dX9_zugzwangs_70 : decode cX9_zugzwangs 70 = .ok (.iconst 1, 1) := by decide +kernel
theorem dX9_zugzwangs_71 : decode cX9_zugzwangs 71 = .ok (.if_icmp .ne 35, 3) := by decide +kernel
theorem dX9_zugzwangs_74 : decode cX9_zugzwangs 74 = .ok (.iload_n 1, 1) := by decide +kernel
theorem dX9_zugzwangs_75 : decode cX9_zugzwangs 75 = .ok (.aload_n 0, 1) := by decide +kernel
theorem dX9_zugzwangs_76 : decode cX9_zugzwangs 76 = .ok (.getfield 48, 3) := by decide +kernel
theorem dX9_zugzwangs_79 : decode cX9_zugzwangs 79 = .ok (.iload_n 3, 1) := by decide +kernel
theorem dX9_zugzwangs_80 : decode cX9_zugzwangs 80 = .ok (.iaload, 1) := by decide +kernel
theorem dX9_zugzwangs_81 : decode cX9_zugzwangs 81 = .ok (.aload_n 0, 1) := by decide +kernel
theorem dX9_zugzwangs_82 : decode cX9_zugzwangs 82 = .ok (.getfield 48, 3) := by decide +kernel
theorem dX9_zugzwangs_85 : decode cX9_zugzwangs 85 = .ok (.iload_n 2, 1) := by decide +kernel
theorem dX9_zugzwangs_86 : decode cX9_zugzwangs 86 = .ok (.iaload, 1) := by decide +kernel
theorem dX9_zugzwangs_87 : decode cX9_zugzwangs 87 = .ok (.ldc 179, 2) := by decide +kernel
theorem dX9_zugzwangs_89 : decode cX9_zugzwangs 89 = .ok (.ior, 1) := by decide +kernel
theorem dX9_zugzwangs_90 : decode cX9_zugzwangs 90 = .ok (.if_icmp .ne 7, 3) := by decide +kernel
theorem dX9_zugzwangs_93 : decode cX9_zugzwangs 93 = .ok (.iconst 1, 1) := by decide +kernel
theorem dX9_zugzwangs_94 : decode cX9_zugzwangs 94 = .ok (.goto 4, 3) := by decide +kernel
theorem dX9_zugzwangs_97 : decode cX9_zugzwangs 97 = .ok (.iconst 0, 1) := by decide +kernel
theorem dX9_zugzwangs_98 : decode cX9_zugzwangs 98 = .ok (.iadd, 1) := by decide +kernel
theorem dX9_zugzwangs_99 : decode cX9_zugzwangs 99 = .ok (.istore_n 1, 1) := by decide +kernel
theorem dX9_zugzwangs_100 : decode cX9_zugzwangs 100 = .ok (.iinc 3 1, 3) := by decide +kernel
theorem dX9_zugzwangs_103 : decode cX9_zugzwangs 103 = .ok (.goto (-50), 3) := by decide +kernel
theorem dX9_zugzwangs_106 : decode cX9_zugzwangs 106 = .ok (.iinc 2 1, 3) := by decide +kernel
theorem dX9_zugzwangs_109 : decode cX9_zugzwangs 109 = .ok (.goto (-66), 3) := by decide +kernel
theorem dX9_zugzwangs_112 : decode cX9_zugzwangs 112 = .ok (.iload_n 1, 1) := by decide +kernel
theorem dX9_zugzwangs_113 : decode cX9_zugzwangs 113 = .ok (.ireturn, 1) := by decide +kernel
theorem dX9_type_0 : decode cX9_type 0 = .ok (.iload_n 1, 1) := by decide +kernel
theorem dX9_type_1 : decode cX9_type 1 = .ok (.bipush 32, 2) := by decide +kernel
theorem dX9_type_3 : decode cX9_type 3 = .ok (.bipush 126, 2) := by decide +kernel
theorem dX9_type_5 : decode cX9_type 5 = .ok (.invokestatic 64, 3) := by decide +kernel
theorem dX9_type_8 : decode cX9_type 8 = .ok (.ifCond .ne 7, 3) := by decide +kernel
theorem dX9_type_11 : decode cX9_type 11 = .ok (.sipush (-1001), 3) := by decide +kernel
theorem dX9_type_14 : decode cX9_type 14 = .ok (.ireturn, 1) := by decide +kernel
theorem dX9_type_15 : decode cX9_type 15 = .ok (.aload_n 0, 1) := by decide +kernel
theorem dX9_type_16 : decode cX9_type 16 = .ok (.getfield 180, 3) := by decide +kernel
theorem dX9_type_19 : decode cX9_type 19 = .ok (.bipush 60, 2) := by decide +kernel
theorem dX9_type_21 : decode cX9_type 21 = .ok (.if_icmp .ne 7, 3) := by decide +kernel
theorem dX9_type_24 : decode cX9_type 24 = .ok (.sipush (-1003), 3) := by decide +kernel
theorem dX9_type_27 : decode cX9_type 27 = .ok (.ireturn, 1) := by decide +kernel
theorem dX9_type_28 : decode cX9_type 28 = .ok (.aload_n 0, 1) := by decide +kernel
theorem dX9_type_29 : decode cX9_type 29 = .ok (.getfield 54, 3) := by decide +kernel
theorem dX9_type_32 : decode cX9_type 32 = .ok (.aload_n 0, 1) := by decide +kernel
theorem dX9_type_33 : decode cX9_type 33 = .ok (.getfield 180, 3) := by decide +kernel
theorem dX9_type_36 : decode cX9_type 36 = .ok (.iload_n 1, 1) := by decide +kernel
theorem dX9_type_37 : decode cX9_type 37 = .ok (.iastore, 1) := by decide +kernel
theorem dX9_type_38 : decode cX9_type 38 = .ok (.aload_n 0, 1) := by decide +kernel
theorem dX9_type_39 : decode cX9_type 39 = .ok (.dup, 1) := by decide +kernel
theorem dX9_type_40 : decode cX9_type 40 = .ok (.getfield 180, 3) := by decide +kernel
theorem dX9_type_43 : decode cX9_type 43 = .ok (.iconst 1, 1) := by decide +kernel
theorem dX9_type_44 : decode cX9_type 44 = .ok (.iadd, 1) := by decide +kernel
theorem dX9_type_45 : decode cX9_type 45 = .ok (.putfield 180, 3) := by decide +kernel
theorem dX9_type_48 : decode cX9_type 48 = .ok (.aload_n 0, 1) := by decide +kernel
theorem dX9_type_49 : decode cX9_type 49 = .ok (.getfield 180, 3) := by decide +kernel
theorem dX9_type_52 : decode cX9_type 52 = .ok (.ireturn, 1) := by decide +kernel
theorem dX9_clearText_0 : decode cX9_clearText 0 = .ok (.aload_n 0, 1) := by decide +kernel
theorem dX9_clearText_1 : decode cX9_clearText 1 = .ok (.getfield 180, 3) := by decide +kernel
theorem dX9_clearText_4 : decode cX9_clearText 4 = .ok (.istore_n 1, 1) := by decide +kernel
theorem dX9_clearText_5 : decode cX9_clearText 5 = .ok (.aload_n 0, 1) := by decide +kernel
theorem dX9_clearText_6 : decode cX9_clearText 6 = .ok (.iconst 0, 1) := by decide +kernel
theorem dX9_clearText_7 : decode cX9_clearText 7 = .ok (.putfield 180, 3) := by decide +kernel
theorem dX9_clearText_10 : decode cX9_clearText 10 = .ok (.iload_n 1, 1) := by decide +kernel
theorem dX9_clearText_11 : decode cX9_clearText 11 = .ok (.ireturn, 1) := by decide +kernel
theorem dX9_charAt_0 : decode cX9_charAt 0 = .ok (.iload_n 1, 1) := by decide +kernel
theorem dX9_charAt_1 : decode cX9_charAt 1 = .ok (.aload_n 0, 1) := by decide +kernel
theorem dX9_charAt_2 : decode cX9_charAt 2 = .ok (.getfield 180, 3) := by decide +kernel
theorem dX9_charAt_5 : decode cX9_charAt 5 = .ok (.if_icmp .ge 12, 3) := by decide +kernel
theorem dX9_charAt_8 : decode cX9_charAt 8 = .ok (.aload_n 0, 1) := by decide +kernel
theorem dX9_charAt_9 : decode cX9_charAt 9 = .ok (.getfield 54, 3) := by decide +kernel
theorem dX9_charAt_12 : decode cX9_charAt 12 = .ok (.iload_n 1, 1) := by decide +kernel
theorem dX9_charAt_13 : decode cX9_charAt 13 = .ok (.iaload, 1) := by decide +kernel
theorem dX9_charAt_14 : decode cX9_charAt 14 = .ok (.goto 4, 3) := by decide +kernel
theorem dX9_charAt_17 : decode cX9_charAt 17 = .ok (.iconst 0, 1) := by decide +kernel
theorem dX9_charAt_18 : decode cX9_charAt 18 = .ok (.ireturn, 1) := by decide +kernel
theorem dX9_letters_0 : decode cX9_letters 0 = .ok (.iconst 0, 1) := by decide +kernel
theorem dX9_letters_1 : decode cX9_letters 1 = .ok (.istore_n 1, 1) := by decide +kernel
theorem dX9_letters_2 : decode cX9_letters 2 = .ok (.iconst 0, 1) := by decide +kernel
theorem dX9_letters_3 : decode cX9_letters 3 = .ok (.istore_n 2, 1) := by decide +kernel
theorem dX9_letters_4 : decode cX9_letters 4 = .ok (.aload_n 0, 1) := by decide +kernel
theorem dX9_letters_5 : decode cX9_letters 5 = .ok (.aload_n 0, 1) := by decide +kernel
theorem dX9_letters_6 : decode cX9_letters 6 = .ok (.getfield 183, 3) := by decide +kernel
theorem dX9_letters_9 : decode cX9_letters 9 = .ok (.invokevirtual 186, 3) := by decide +kernel
theorem dX9_letters_12 : decode cX9_letters 12 = .ok (.bipush 97, 2) := by decide +kernel
theorem dX9_letters_14 : decode cX9_letters 14 = .ok (.bipush 122, 2) := by decide +kernel
theorem dX9_letters_16 : decode cX9_letters 16 = .ok (.invokestatic 64, 3) := by decide +kernel
theorem dX9_letters_19 : decode cX9_letters 19 = .ok (.ifCond .eq 44, 3) := by decide +kernel
theorem dX9_letters_22 : decode cX9_letters 22 = .ok (.iload_n 2, 1) := by decide +kernel
theorem dX9_letters_23 : decode cX9_letters 23 = .ok (.iconst 5, 1) := by decide +kernel
theorem dX9_letters_24 : decode cX9_letters 24 = .ok (.if_icmp .ge 21, 3) := by decide +kernel
theorem dX9_letters_27 : decode cX9_letters 27 = .ok (.iload_n 1, 1) := by decide +kernel
theorem dX9_letters_28 : decode cX9_letters 28 = .ok (.iconst 5, 1) := by decide +kernel
theorem dX9_letters_29 : decode cX9_letters 29 = .ok (.ishl, 1) := by decide +kernel
theorem dX9_letters_30 : decode cX9_letters 30 = .ok (.aload_n 0, 1) := by decide +kernel
theorem dX9_letters_31 : decode cX9_letters 31 = .ok (.aload_n 0, 1) := by decide +kernel
theorem dX9_letters_32 : decode cX9_letters 32 = .ok (.getfield 183, 3) := by decide +kernel
theorem dX9_letters_35 : decode cX9_letters 35 = .ok (.invokevirtual 186, 3) := by decide +kernel
theorem dX9_letters_38 : decode cX9_letters 38 = .ok (.bipush 96, 2) := by decide +kernel
theorem dX9_letters_40 : decode cX9_letters 40 = .ok (.isub, 1) := by decide +kernel
theorem dX9_letters_41 : decode cX9_letters 41 = .ok (.ior, 1) := by decide +kernel
theorem dX9_letters_42 : decode cX9_letters 42 = .ok (.goto 4, 3) := by decide +kernel
theorem dX9_letters_45 : decode cX9_letters 45 = .ok (.iconst 0, 1) := by decide +kernel
theorem dX9_letters_46 : decode cX9_letters 46 = .ok (.istore_n 1, 1) := by decide +kernel
theorem dX9_letters_47 : decode cX9_letters 47 = .ok (.iinc 2 1, 3) := by decide +kernel
theorem dX9_letters_50 : decode cX9_letters 50 = .ok (.aload_n 0, 1) := by decide +kernel
theorem dX9_letters_51 : decode cX9_letters 51 = .ok (.dup, 1) := by decide +kernel
theorem dX9_letters_52 : decode cX9_letters 52 = .ok (.getfield 183, 3) := by decide +kernel
theorem dX9_letters_55 : decode cX9_letters 55 = .ok (.iconst 1, 1) := by decide +kernel
theorem dX9_letters_56 : decode cX9_letters 56 = .ok (.iadd, 1) := by decide +kernel
theorem dX9_letters_57 : decode cX9_letters 57 = .ok (.putfield 183, 3) := by decide +kernel
theorem dX9_letters_60 : decode cX9_letters 60 = .ok (.goto (-56), 3) := by decide +kernel
theorem dX9_letters_63 : decode cX9_letters 63 = .ok (.iload_n 2, 1) := by decide +kernel
theorem dX9_letters_64 : decode cX9_letters 64 = .ok (.iconst 5, 1) := by decide +kernel
theorem dX9_letters_65 : decode cX9_letters 65 = .ok (.if_icmp .le 7, 3) := by decide +kernel
theorem dX9_letters_68 : decode cX9_letters 68 = .ok (.iconst 0, 1) := by decide +kernel
theorem dX9_letters_69 : decode cX9_letters 69 = .ok (.goto 4, 3) := by decide +kernel
theorem dX9_letters_72 : decode cX9_letters 72 = .ok (.iload_n 1, 1) := by decide +kernel
theorem dX9_letters_73 : decode cX9_letters 73 = .ok (.ireturn, 1) := by decide +kernel
theorem dX9_packed_0 : decode cX9_packed 0 = .ok (.iload_n 0, 1) := by decide +kernel
theorem dX9_packed_1 : decode cX9_packed 1 = .ok (.bipush 96, 2) := by decide +kernel
theorem dX9_packed_3 : decode cX9_packed 3 = .ok (.isub, 1) := by decide +kernel
theorem dX9_packed_4 : decode cX9_packed 4 = .ok (.bipush 15, 2) := by decide +kernel
theorem dX9_packed_6 : decode cX9_packed 6 = .ok (.ishl, 1) := by decide +kernel
theorem dX9_packed_7 : decode cX9_packed 7 = .ok (.iload_n 1, 1) := by decide +kernel
theorem dX9_packed_8 : decode cX9_packed 8 = .ok (.bipush 96, 2) := by decide +kernel
theorem dX9_packed_10 : decode cX9_packed 10 = .ok (.isub, 1) := by decide +kernel
theorem dX9_packed_11 : decode cX9_packed 11 = .ok (.bipush 10, 2) := by decide +kernel
theorem dX9_packed_13 : decode cX9_packed 13 = .ok (.ishl, 1) := by decide +kernel
theorem dX9_packed_14 : decode cX9_packed 14 = .ok (.ior, 1) := by decide +kernel
theorem dX9_packed_15 : decode cX9_packed 15 = .ok (.iload_n 2, 1) := by decide +kernel
theorem dX9_packed_16 : decode cX9_packed 16 = .ok (.bipush 96, 2) := by decide +kernel
theorem dX9_packed_18 : decode cX9_packed 18 = .ok (.isub, 1) := by decide +kernel
theorem dX9_packed_19 : decode cX9_packed 19 = .ok (.iconst 5, 1) := by decide +kernel
theorem dX9_packed_20 : decode cX9_packed 20 = .ok (.ishl, 1) := by decide +kernel
theorem dX9_packed_21 : decode cX9_packed 21 = .ok (.ior, 1) := by decide +kernel
theorem dX9_packed_22 : decode cX9_packed 22 = .ok (.iload_n 3, 1) := by decide +kernel
theorem dX9_packed_23 : decode cX9_packed 23 = .ok (.bipush 96, 2) := by decide +kernel
theorem dX9_packed_25 : decode cX9_packed 25 = .ok (.isub, 1) := by decide +kernel
theorem dX9_packed_26 : decode cX9_packed 26 = .ok (.ior, 1) := by decide +kernel
theorem dX9_packed_27 : decode cX9_packed 27 = .ok (.istore 5, 2) := by decide +kernel
theorem dX9_packed_29 : decode cX9_packed 29 = .ok (.iload 4, 2) := by decide +kernel
theorem dX9_packed_31 : decode cX9_packed 31 = .ok (.ifCond .ne 8, 3) := by decide +kernel
theorem dX9_packed_34 : decode cX9_packed 34 = .ok (.iload 5, 2) := by decide +kernel
theorem dX9_packed_36 : decode cX9_packed 36 = .ok (.goto 13, 3) := by decide +kernel
theorem dX9_packed_39 : decode cX9_packed 39 = .ok (.iload 5, 2) := by decide +kernel
theorem dX9_packed_41 : decode cX9_packed 41 = .ok (.iconst 5, 1) := by decide +kernel
theorem dX9_packed_42 : decode cX9_packed 42 = .ok (.ishl, 1) := by decide +kernel
theorem dX9_packed_43 : decode cX9_packed 43 = .ok (.iload 4, 2) := by decide +kernel
theorem dX9_packed_45 : decode cX9_packed 45 = .ok (.bipush 96, 2) := by decide +kernel
theorem dX9_packed_47 : decode cX9_packed 47 = .ok (.isub, 1) := by decide +kernel
theorem dX9_packed_48 : decode cX9_packed 48 = .ok (.ior, 1) := by decide +kernel
theorem dX9_packed_49 : decode cX9_packed 49 = .ok (.ireturn, 1) := by decide +kernel
theorem dX9_commandOf_0 : decode cX9_commandOf 0 = .ok (.iload_n 0, 1) := by decide +kernel
theorem dX9_commandOf_1 : decode cX9_commandOf 1 = .ok (.bipush 102, 2) := by decide +kernel
theorem dX9_commandOf_3 : decode cX9_commandOf 3 = .ok (.bipush 114, 2) := by decide +kernel
theorem dX9_commandOf_5 : decode cX9_commandOf 5 = .ok (.bipush 101, 2) := by decide +kernel
theorem dX9_commandOf_7 : decode cX9_commandOf 7 = .ok (.bipush 101, 2) := by decide +kernel
theorem dX9_commandOf_9 : decode cX9_commandOf 9 = .ok (.iconst 0, 1) := by decide +kernel
theorem dX9_commandOf_10 : decode cX9_commandOf 10 = .ok (.invokestatic 189, 3) := by decide +kernel
theorem dX9_commandOf_13 : decode cX9_commandOf 13 = .ok (.if_icmp .ne 7, 3) := by decide +kernel
theorem dX9_commandOf_16 : decode cX9_commandOf 16 = .ok (.iconst 0, 1) := by decide +kernel
theorem dX9_commandOf_17 : decode cX9_commandOf 17 = .ok (.goto 105, 3) := by decide +kernel
theorem dX9_commandOf_20 : decode cX9_commandOf 20 = .ok (.iload_n 0, 1) := by decide +kernel
theorem dX9_commandOf_21 : decode cX9_commandOf 21 = .ok (.bipush 108, 2) := by decide +kernel
theorem dX9_commandOf_23 : decode cX9_commandOf 23 = .ok (.bipush 101, 2) := by decide +kernel
theorem dX9_commandOf_25 : decode cX9_commandOf 25 = .ok (.bipush 102, 2) := by decide +kernel
theorem dX9_commandOf_27 : decode cX9_commandOf 27 = .ok (.bipush 116, 2) := by decide +kernel
theorem dX9_commandOf_29 : decode cX9_commandOf 29 = .ok (.iconst 0, 1) := by decide +kernel
theorem dX9_commandOf_30 : decode cX9_commandOf 30 = .ok (.invokestatic 189, 3) := by decide +kernel
theorem dX9_commandOf_33 : decode cX9_commandOf 33 = .ok (.if_icmp .ne 7, 3) := by decide +kernel
theorem dX9_commandOf_36 : decode cX9_commandOf 36 = .ok (.iconst 1, 1) := by decide +kernel
theorem dX9_commandOf_37 : decode cX9_commandOf 37 = .ok (.goto 85, 3) := by decide +kernel
theorem dX9_commandOf_40 : decode cX9_commandOf 40 = .ok (.iload_n 0, 1) := by decide +kernel
theorem dX9_commandOf_41 : decode cX9_commandOf 41 = .ok (.bipush 114, 2) := by decide +kernel
theorem dX9_commandOf_43 : decode cX9_commandOf 43 = .ok (.bipush 105, 2) := by decide +kernel
theorem dX9_commandOf_45 : decode cX9_commandOf 45 = .ok (.bipush 103, 2) := by decide +kernel
theorem dX9_commandOf_47 : decode cX9_commandOf 47 = .ok (.bipush 104, 2) := by decide +kernel
theorem dX9_commandOf_49 : decode cX9_commandOf 49 = .ok (.bipush 116, 2) := by decide +kernel
theorem dX9_commandOf_51 : decode cX9_commandOf 51 = .ok (.invokestatic 189, 3) := by decide +kernel
theorem dX9_commandOf_54 : decode cX9_commandOf 54 = .ok (.if_icmp .ne 7, 3) := by decide +kernel
theorem dX9_commandOf_57 : decode cX9_commandOf 57 = .ok (.iconst 2, 1) := by decide +kernel
theorem dX9_commandOf_58 : decode cX9_commandOf 58 = .ok (.goto 64, 3) := by decide +kernel
theorem dX9_commandOf_61 : decode cX9_commandOf 61 = .ok (.iload_n 0, 1) := by decide +kernel
theorem dX9_commandOf_62 : decode cX9_commandOf 62 = .ok (.bipush 98, 2) := by decide +kernel
theorem dX9_commandOf_64 : decode cX9_commandOf 64 = .ok (.bipush 117, 2) := by decide +kernel
theorem dX9_commandOf_66 : decode cX9_commandOf 66 = .ok (.bipush 114, 2) := by decide +kernel
theorem dX9_commandOf_68 : decode cX9_commandOf 68 = .ok (.bipush 110, 2) := by decide +kernel
theorem dX9_commandOf_70 : decode cX9_commandOf 70 = .ok (.iconst 0, 1) := by decide +kernel
theorem dX9_commandOf_71 : decode cX9_commandOf 71 = .ok (.invokestatic 189, 3) := by decide +kernel
theorem dX9_commandOf_74 : decode cX9_commandOf 74 = .ok (.if_icmp .ne 7, 3) := by decide +kernel
theorem dX9_commandOf_77 : decode cX9_commandOf 77 = .ok (.iconst 3, 1) := by decide +kernel
theorem dX9_commandOf_78 : decode cX9_commandOf 78 = .ok (.goto 44, 3) := by decide +kernel
theorem dX9_commandOf_81 : decode cX9_commandOf 81 = .ok (.iload_n 0, 1) := by decide +kernel
theorem dX9_commandOf_82 : decode cX9_commandOf 82 = .ok (.bipush 109, 2) := by decide +kernel
theorem dX9_commandOf_84 : decode cX9_commandOf 84 = .ok (.bipush 111, 2) := by decide +kernel
theorem dX9_commandOf_86 : decode cX9_commandOf 86 = .ok (.bipush 118, 2) := by decide +kernel
theorem dX9_commandOf_88 : decode cX9_commandOf 88 = .ok (.bipush 101, 2) := by decide +kernel
theorem dX9_commandOf_90 : decode cX9_commandOf 90 = .ok (.iconst 0, 1) := by decide +kernel
theorem dX9_commandOf_91 : decode cX9_commandOf 91 = .ok (.invokestatic 189, 3) := by decide +kernel
theorem dX9_commandOf_94 : decode cX9_commandOf 94 = .ok (.if_icmp .ne 7, 3) := by decide +kernel
theorem dX9_commandOf_97 : decode cX9_commandOf 97 = .ok (.iconst 4, 1) := by decide +kernel
theorem dX9_commandOf_98 : decode cX9_commandOf 98 = .ok (.goto 24, 3) := by decide +kernel
theorem dX9_commandOf_101 : decode cX9_commandOf 101 = .ok (.iload_n 0, 1) := by decide +kernel
theorem dX9_commandOf_102 : decode cX9_commandOf 102 = .ok (.bipush 112, 2) := by decide +kernel
theorem dX9_commandOf_104 : decode cX9_commandOf 104 = .ok (.bipush 97, 2) := by decide +kernel
theorem dX9_commandOf_106 : decode cX9_commandOf 106 = .ok (.bipush 115, 2) := by decide +kernel
theorem dX9_commandOf_108 : decode cX9_commandOf 108 = .ok (.bipush 115, 2) := by decide +kernel
theorem dX9_commandOf_110 : decode cX9_commandOf 110 = .ok (.iconst 0, 1) := by decide +kernel
theorem dX9_commandOf_111 : decode cX9_commandOf 111 = .ok (.invokestatic 189, 3) := by decide +kernel
theorem dX9_commandOf_114 : decode cX9_commandOf 114 = .ok (.if_icmp .ne 7, 3) := by decide +kernel
theorem dX9_commandOf_117 : decode cX9_commandOf 117 = .ok (.iconst 5, 1) := by decide +kernel
theorem dX9_commandOf_118 : decode cX9_commandOf 118 = .ok (.goto 4, 3) := by decide +kernel
theorem dX9_commandOf_121 : decode cX9_commandOf 121 = .ok (.iconst (-1), 1) := by decide +kernel
theorem dX9_commandOf_122 : decode cX9_commandOf 122 = .ok (.ireturn, 1) := by decide +kernel
theorem dX9_isNumber_0 : decode cX9_isNumber 0 = .ok (.aload_n 0, 1) := by decide +kernel
theorem dX9_isNumber_1 : decode cX9_isNumber 1 = .ok (.dup, 1) := by decide +kernel
theorem dX9_isNumber_2 : decode cX9_isNumber 2 = .ok (.getfield 183, 3) := by decide +kernel
theorem dX9_isNumber_5 : decode cX9_isNumber 5 = .ok (.iconst 1, 1) := by decide +kernel
theorem dX9_isNumber_6 : decode cX9_isNumber 6 = .ok (.iadd, 1) := by decide +kernel
theorem dX9_isNumber_7 : decode cX9_isNumber 7 = .ok (.putfield 183, 3) := by decide +kernel
theorem dX9_isNumber_10 : decode cX9_isNumber 10 = .ok (.aload_n 0, 1) := by decide +kernel
theorem dX9_isNumber_11 : decode cX9_isNumber 11 = .ok (.aload_n 0, 1) := by decide +kernel
theorem dX9_isNumber_12 : decode cX9_isNumber 12 = .ok (.getfield 183, 3) := by decide +kernel
theorem dX9_isNumber_15 : decode cX9_isNumber 15 = .ok (.iconst 1, 1) := by decide +kernel
theorem dX9_isNumber_16 : decode cX9_isNumber 16 = .ok (.isub, 1) := by decide +kernel
theorem dX9_isNumber_17 : decode cX9_isNumber 17 = .ok (.invokevirtual 186, 3) := by decide +kernel
theorem dX9_isNumber_20 : decode cX9_isNumber 20 = .ok (.bipush 32, 2) := by decide +kernel
theorem dX9_isNumber_22 : decode cX9_isNumber 22 = .ok (.if_icmp .ne 7, 3) := by decide +kernel
theorem dX9_isNumber_25 : decode cX9_isNumber 25 = .ok (.iconst 1, 1) := by decide +kernel
theorem dX9_isNumber_26 : decode cX9_isNumber 26 = .ok (.goto 4, 3) := by decide +kernel
theorem dX9_isNumber_29 : decode cX9_isNumber 29 = .ok (.iconst 0, 1) := by decide +kernel
theorem dX9_isNumber_30 : decode cX9_isNumber 30 = .ok (.istore_n 2, 1) := by decide +kernel
theorem dX9_isNumber_31 : decode cX9_isNumber 31 = .ok (.iconst 0, 1) := by decide +kernel
theorem dX9_isNumber_32 : decode cX9_isNumber 32 = .ok (.istore_n 3, 1) := by decide +kernel
theorem dX9_isNumber_33 : decode cX9_isNumber 33 = .ok (.aload_n 0, 1) := by decide +kernel
theorem dX9_isNumber_34 : decode cX9_isNumber 34 = .ok (.getfield 57, 3) := by decide +kernel
theorem dX9_isNumber_37 : decode cX9_isNumber 37 = .ok (.iload_n 1, 1) := by decide +kernel
theorem dX9_isNumber_38 : decode cX9_isNumber 38 = .ok (.iconst 0, 1) := by decide +kernel
theorem dX9_isNumber_39 : decode cX9_isNumber 39 = .ok (.iastore, 1) := by decide +kernel
theorem dX9_isNumber_40 : decode cX9_isNumber 40 = .ok (.aload_n 0, 1) := by decide +kernel
theorem dX9_isNumber_41 : decode cX9_isNumber 41 = .ok (.aload_n 0, 1) := by decide +kernel
theorem dX9_isNumber_42 : decode cX9_isNumber 42 = .ok (.getfield 183, 3) := by decide +kernel
theorem dX9_isNumber_45 : decode cX9_isNumber 45 = .ok (.invokevirtual 186, 3) := by decide +kernel
theorem dX9_isNumber_48 : decode cX9_isNumber 48 = .ok (.bipush 48, 2) := by decide +kernel
theorem dX9_isNumber_50 : decode cX9_isNumber 50 = .ok (.bipush 57, 2) := by decide +kernel
theorem dX9_isNumber_52 : decode cX9_isNumber 52 = .ok (.invokestatic 64, 3) := by decide +kernel
theorem dX9_isNumber_55 : decode cX9_isNumber 55 = .ok (.ifCond .eq 51, 3) := by decide +kernel
theorem dX9_isNumber_58 : decode cX9_isNumber 58 = .ok (.iload_n 3, 1) := by decide +kernel
theorem dX9_isNumber_59 : decode cX9_isNumber 59 = .ok (.iconst 3, 1) := by decide +kernel
theorem dX9_isNumber_60 : decode cX9_isNumber 60 = .ok (.if_icmp .ge 46, 3) := by decide +kernel
theorem dX9_isNumber_63 : decode cX9_isNumber 63 = .ok (.aload_n 0, 1) := by decide +kernel
theorem dX9_isNumber_64 : decode cX9_isNumber 64 = .ok (.getfield 57, 3) := by decide +kernel
theorem dX9_isNumber_67 : decode cX9_isNumber 67 = .ok (.iload_n 1, 1) := by decide +kernel
theorem dX9_isNumber_68 : decode cX9_isNumber 68 = .ok (.bipush 10, 2) := by decide +kernel
theorem dX9_isNumber_70 : decode cX9_isNumber 70 = .ok (.aload_n 0, 1) := by decide +kernel
theorem dX9_isNumber_71 : decode cX9_isNumber 71 = .ok (.getfield 57, 3) := by decide +kernel
theorem dX9_isNumber_74 : decode cX9_isNumber 74 = .ok (.iload_n 1, 1) := by decide +kernel
theorem dX9_isNumber_75 : decode cX9_isNumber 75 = .ok (.iaload, 1) := by decide +kernel
theorem dX9_isNumber_76 : decode cX9_isNumber 76 = .ok (.imul, 1) := by decide +kernel
theorem dX9_isNumber_77 : decode cX9_isNumber 77 = .ok (.aload_n 0, 1) := by decide +kernel
theorem dX9_isNumber_78 : decode cX9_isNumber 78 = .ok (.aload_n 0, 1) := by decide +kernel
theorem dX9_isNumber_79 : decode cX9_isNumber 79 = .ok (.getfield 183, 3) := by decide +kernel
theorem dX9_isNumber_82 : decode cX9_isNumber 82 = .ok (.invokevirtual 186, 3) := by decide +kernel
theorem dX9_isNumber_85 : decode cX9_isNumber 85 = .ok (.iadd, 1) := by decide +kernel
theorem dX9_isNumber_86 : decode cX9_isNumber 86 = .ok (.bipush 48, 2) := by decide +kernel
theorem dX9_isNumber_88 : decode cX9_isNumber 88 = .ok (.isub, 1) := by decide +kernel
theorem dX9_isNumber_89 : decode cX9_isNumber 89 = .ok (.iastore, 1) := by decide +kernel
theorem dX9_isNumber_90 : decode cX9_isNumber 90 = .ok (.iinc 3 1, 3) := by decide +kernel
theorem dX9_isNumber_93 : decode cX9_isNumber 93 = .ok (.aload_n 0, 1) := by decide +kernel
theorem dX9_isNumber_94 : decode cX9_isNumber 94 = .ok (.dup, 1) := by decide +kernel
theorem dX9_isNumber_95 : decode cX9_isNumber 95 = .ok (.getfield 183, 3) := by decide +kernel
theorem dX9_isNumber_98 : decode cX9_isNumber 98 = .ok (.iconst 1, 1) := by decide +kernel
theorem dX9_isNumber_99 : decode cX9_isNumber 99 = .ok (.iadd, 1) := by decide +kernel
theorem dX9_isNumber_100 : decode cX9_isNumber 100 = .ok (.putfield 183, 3) := by decide +kernel
theorem dX9_isNumber_103 : decode cX9_isNumber 103 = .ok (.goto (-63), 3) := by decide +kernel
theorem dX9_isNumber_106 : decode cX9_isNumber 106 = .ok (.iload_n 2, 1) := by decide +kernel
theorem dX9_isNumber_107 : decode cX9_isNumber 107 = .ok (.ifCond .eq 16, 3) := by decide +kernel
theorem dX9_isNumber_110 : decode cX9_isNumber 110 = .ok (.iload_n 3, 1) := by decide +kernel
theorem dX9_isNumber_111 : decode cX9_isNumber 111 = .ok (.iconst 1, 1) := by decide +kernel
theorem dX9_isNumber_112 : decode cX9_isNumber 112 = .ok (.iconst 2, 1) := by decide +kernel
theorem dX9_isNumber_113 : decode cX9_isNumber 113 = .ok (.invokestatic 64, 3) := by decide +kernel
theorem dX9_isNumber_116 : decode cX9_isNumber 116 = .ok (.ifCond .eq 7, 3) := by decide +kernel
theorem dX9_isNumber_119 : decode cX9_isNumber 119 = .ok (.iconst 1, 1) := by decide +kernel
theorem dX9_isNumber_120 : decode cX9_isNumber 120 = .ok (.goto 4, 3) := by decide +kernel
theorem dX9_isNumber_123 : decode cX9_isNumber 123 = .ok (.iconst 0, 1) := by decide +kernel
theorem dX9_isNumber_124 : decode cX9_isNumber 124 = .ok (.ireturn, 1) := by decide +kernel
theorem dX9_isCommand_0 : decode cX9_isCommand 0 = .ok (.aload_n 0, 1) := by decide +kernel
theorem dX9_isCommand_1 : decode cX9_isCommand 1 = .ok (.aload_n 0, 1) := by decide +kernel
theorem dX9_isCommand_2 : decode cX9_isCommand 2 = .ok (.invokevirtual 193, 3) := by decide +kernel
theorem dX9_isCommand_5 : decode cX9_isCommand 5 = .ok (.invokestatic 196, 3) := by decide +kernel
theorem dX9_isCommand_8 : decode cX9_isCommand 8 = .ok (.putfield 199, 3) := by decide +kernel
theorem dX9_isCommand_11 : decode cX9_isCommand 11 = .ok (.aload_n 0, 1) := by decide +kernel
theorem dX9_isCommand_12 : decode cX9_isCommand 12 = .ok (.getfield 199, 3) := by decide +kernel
theorem dX9_isCommand_15 : decode cX9_isCommand 15 = .ok (.ifCond .lt 7, 3) := by decide +kernel
theorem dX9_isCommand_18 : decode cX9_isCommand 18 = .ok (.iconst 1, 1) := by decide +kernel
theorem dX9_isCommand_19 : decode cX9_isCommand 19 = .ok (.goto 4, 3) := by decide +kernel
theorem dX9_isCommand_22 : decode cX9_isCommand 22 = .ok (.iconst 0, 1) := by decide +kernel
theorem dX9_isCommand_23 : decode cX9_isCommand 23 = .ok (.istore_n 1, 1) := by decide +kernel
theorem dX9_isCommand_24 : decode cX9_isCommand 24 = .ok (.iconst 0, 1) := by decide +kernel
theorem dX9_isCommand_25 : decode cX9_isCommand 25 = .ok (.istore_n 2, 1) := by decide +kernel
theorem dX9_isCommand_26 : decode cX9_isCommand 26 = .ok (.iload_n 2, 1) := by decide +kernel
theorem dX9_isCommand_27 : decode cX9_isCommand 27 = .ok (.aload_n 0, 1) := by decide +kernel
theorem dX9_isCommand_28 : decode cX9_isCommand 28 = .ok (.getfield 199, 3) := by decide +kernel
theorem dX9_isCommand_31 : decode cX9_isCommand 31 = .ok (.iconst 4, 1) := by decide +kernel
theorem dX9_isCommand_32 : decode cX9_isCommand 32 = .ok (.if_icmp .ne 7, 3) := by decide +kernel
theorem dX9_isCommand_35 : decode cX9_isCommand 35 = .ok (.iconst 4, 1) := by decide +kernel
theorem dX9_isCommand_36 : decode cX9_isCommand 36 = .ok (.goto 16, 3) := by decide +kernel
theorem dX9_isCommand_39 : decode cX9_isCommand 39 = .ok (.aload_n 0, 1) := by decide +kernel
theorem dX9_isCommand_40 : decode cX9_isCommand 40 = .ok (.getfield 199, 3) := by decide +kernel
theorem dX9_isCommand_43 : decode cX9_isCommand 43 = .ok (.iconst 5, 1) := by decide +kernel
theorem dX9_isCommand_44 : decode cX9_isCommand 44 = .ok (.if_icmp .ne 7, 3) := by decide +kernel
theorem dX9_isCommand_47 : decode cX9_isCommand 47 = .ok (.iconst 0, 1) := by decide +kernel
theorem dX9_isCommand_48 : decode cX9_isCommand 48 = .ok (.goto 4, 3) := by decide +kernel
theorem dX9_isCommand_51 : decode cX9_isCommand 51 = .ok (.iconst 1, 1) := by decide +kernel
theorem dX9_isCommand_52 : decode cX9_isCommand 52 = .ok (.if_icmp .ge 19, 3) := by decide +kernel
theorem dX9_isCommand_55 : decode cX9_isCommand 55 = .ok (.iload_n 1, 1) := by decide +kernel
theorem dX9_isCommand_56 : decode cX9_isCommand 56 = .ok (.ifCond .eq 15, 3) := by decide +kernel
theorem dX9_isCommand_59 : decode cX9_isCommand 59 = .ok (.aload_n 0, 1) := by decide +kernel
theorem dX9_isCommand_60 : decode cX9_isCommand 60 = .ok (.iload_n 2, 1) := by decide +kernel
theorem dX9_isCommand_61 : decode cX9_isCommand 61 = .ok (.invokevirtual 202, 3) := by decide +kernel
theorem dX9_isCommand_64 : decode cX9_isCommand 64 = .ok (.istore_n 1, 1) := by decide +kernel
theorem dX9_isCommand_65 : decode cX9_isCommand 65 = .ok (.iinc 2 1, 3) := by decide +kernel
theorem dX9_isCommand_68 : decode cX9_isCommand 68 = .ok (.goto (-42), 3) := by decide +kernel
theorem dX9_isCommand_71 : decode cX9_isCommand 71 = .ok (.aload_n 0, 1) := by decide +kernel
theorem dX9_isCommand_72 : decode cX9_isCommand 72 = .ok (.dup, 1) := by decide +kernel
theorem dX9_isCommand_73 : decode cX9_isCommand 73 = .ok (.getfield 183, 3) := by decide +kernel
theorem dX9_isCommand_76 : decode cX9_isCommand 76 = .ok (.iconst 1, 1) := by decide +kernel
theorem dX9_isCommand_77 : decode cX9_isCommand 77 = .ok (.iadd, 1) := by decide +kernel
theorem dX9_isCommand_78 : decode cX9_isCommand 78 = .ok (.putfield 183, 3) := by decide +kernel
theorem dX9_isCommand_81 : decode cX9_isCommand 81 = .ok (.iload_n 1, 1) := by decide +kernel
theorem dX9_isCommand_82 : decode cX9_isCommand 82 = .ok (.ifCond .eq 22, 3) := by decide +kernel
theorem dX9_isCommand_85 : decode cX9_isCommand 85 = .ok (.aload_n 0, 1) := by decide +kernel
theorem dX9_isCommand_86 : decode cX9_isCommand 86 = .ok (.aload_n 0, 1) := by decide +kernel
theorem dX9_isCommand_87 : decode cX9_isCommand 87 = .ok (.getfield 183, 3) := by decide +kernel
theorem dX9_isCommand_90 : decode cX9_isCommand 90 = .ok (.iconst 1, 1) := by decide +kernel
theorem dX9_isCommand_91 : decode cX9_isCommand 91 = .ok (.isub, 1) := by decide +kernel
theorem dX9_isCommand_92 : decode cX9_isCommand 92 = .ok (.invokevirtual 186, 3) := by decide +kernel
theorem dX9_isCommand_95 : decode cX9_isCommand 95 = .ok (.bipush 59, 2) := by decide +kernel
theorem dX9_isCommand_97 : decode cX9_isCommand 97 = .ok (.if_icmp .ne 7, 3) := by decide +kernel
theorem dX9_isCommand_100 : decode cX9_isCommand 100 = .ok (.iconst 1, 1) := by decide +kernel
theorem dX9_isCommand_101 : decode cX9_isCommand 101 = .ok (.goto 4, 3) := by decide +kernel
theorem dX9_isCommand_104 : decode cX9_isCommand 104 = .ok (.iconst 0, 1) := by decide +kernel
theorem dX9_isCommand_105 : decode cX9_isCommand 105 = .ok (.ireturn, 1) := by decide +kernel
theorem dX9_faultOf_0 : decode cX9_faultOf 0 = .ok (.aload_n 0, 1) := by decide +kernel
theorem dX9_faultOf_1 : decode cX9_faultOf 1 = .ok (.iconst 0, 1) := by decide +kernel
theorem dX9_faultOf_2 : decode cX9_faultOf 2 = .ok (.putfield 183, 3) := by decide +kernel
theorem dX9_faultOf_5 : decode cX9_faultOf 5 = .ok (.aload_n 0, 1) := by decide +kernel
theorem dX9_faultOf_6 : decode cX9_faultOf 6 = .ok (.getfield 183, 3) := by decide +kernel
theorem dX9_faultOf_9 : decode cX9_faultOf 9 = .ok (.aload_n 0, 1) := by decide +kernel
theorem dX9_faultOf_10 : decode cX9_faultOf 10 = .ok (.getfield 180, 3) := by decide +kernel
theorem dX9_faultOf_13 : decode cX9_faultOf 13 = .ok (.if_icmp .ge 20, 3) := by decide +kernel
theorem dX9_faultOf_16 : decode cX9_faultOf 16 = .ok (.aload_n 0, 1) := by decide +kernel
theorem dX9_faultOf_17 : decode cX9_faultOf 17 = .ok (.getfield 183, 3) := by decide +kernel
theorem dX9_faultOf_20 : decode cX9_faultOf 20 = .ok (.istore_n 1, 1) := by decide +kernel
theorem dX9_faultOf_21 : decode cX9_faultOf 21 = .ok (.aload_n 0, 1) := by decide +kernel
theorem dX9_faultOf_22 : decode cX9_faultOf 22 = .ok (.invokevirtual 205, 3) := by decide +kernel
theorem dX9_faultOf_25 : decode cX9_faultOf 25 = .ok (.ifCond .ne 5, 3) := by decide +kernel
theorem dX9_faultOf_28 : decode cX9_faultOf 28 = .ok (.iload_n 1, 1) := by decide +kernel
theorem dX9_faultOf_29 : decode cX9_faultOf 29 = .ok (.ireturn, 1) := by decide +kernel
theorem dX9_faultOf_30 : decode cX9_faultOf 30 = .ok (.goto (-25), 3) := by decide +kernel
theorem dX9_faultOf_33 : decode cX9_faultOf 33 = .ok (.sipush (-1005), 3) := by decide +kernel
theorem dX9_faultOf_36 : decode cX9_faultOf 36 = .ok (.ireturn, 1) := by decide +kernel
theorem dX9_fault_0 : decode cX9_fault 0 = .ok (.aload_n 0, 1) := by decide +kernel
theorem dX9_fault_1 : decode cX9_fault 1 = .ok (.invokevirtual 209, 3) := by decide +kernel
theorem dX9_fault_4 : decode cX9_fault 4 = .ok (.ireturn, 1) := by decide +kernel
theorem dX9_does_0 : decode cX9_does 0 = .ok (.aload_n 0, 1) := by decide +kernel
theorem dX9_does_1 : decode cX9_does 1 = .ok (.getfield 199, 3) := by decide +kernel
theorem dX9_does_4 : decode cX9_does 4 = .ok (.iconst 5, 1) := by decide +kernel
theorem dX9_does_5 : decode cX9_does 5 = .ok (.if_icmp .ne 5, 3) := by decide +kernel
theorem dX9_does_8 : decode cX9_does 8 = .ok (.iconst 1, 1) := by decide +kernel
theorem dX9_does_9 : decode cX9_does 9 = .ok (.ireturn, 1) := by decide +kernel
theorem dX9_does_10 : decode cX9_does 10 = .ok (.aload_n 0, 1) := by decide +kernel
theorem dX9_does_11 : decode cX9_does 11 = .ok (.getfield 199, 3) := by decide +kernel
theorem dX9_does_14 : decode cX9_does 14 = .ok (.iconst 4, 1) := by decide +kernel
theorem dX9_does_15 : decode cX9_does 15 = .ok (.if_icmp .ge 39, 3) := by decide +kernel
theorem dX9_does_18 : decode cX9_does 18 = .ok (.aload_n 0, 1) := by decide +kernel
theorem dX9_does_19 : decode cX9_does 19 = .ok (.aload_n 0, 1) := by decide +kernel
theorem dX9_does_20 : decode cX9_does 20 = .ok (.getfield 57, 3) := by decide +kernel
theorem dX9_does_23 : decode cX9_does 23 = .ok (.iconst 0, 1) := by decide +kernel
theorem dX9_does_24 : decode cX9_does 24 = .ok (.iaload, 1) := by decide +kernel
theorem dX9_does_25 : decode cX9_does 25 = .ok (.aload_n 0, 1) := by decide +kernel
theorem dX9_does_26 : decode cX9_does 26 = .ok (.getfield 199, 3) := by decide +kernel
theorem dX9_does_29 : decode cX9_does 29 = .ok (.invokevirtual 88, 3) := by decide +kernel
theorem dX9_does_32 : decode cX9_does 32 = .ok (.ifCond .ge 5, 3) := by decide +kernel
theorem dX9_does_35 : decode cX9_does 35 = .ok (.iconst 0, 1) := by decide +kernel
theorem dX9_does_36 : decode cX9_does 36 = .ok (.ireturn, 1) := by decide +kernel
theorem dX9_does_37 : decode cX9_does 37 = .ok (.aload_n 0, 1) := by decide +kernel
theorem dX9_does_38 : decode cX9_does 38 = .ok (.aload_n 0, 1) := by decide +kernel
theorem dX9_does_39 : decode cX9_does 39 = .ok (.getfield 57, 3) := by decide +kernel
theorem dX9_does_42 : decode cX9_does 42 = .ok (.iconst 0, 1) := by decide +kernel
theorem dX9_does_43 : decode cX9_does 43 = .ok (.iaload, 1) := by decide +kernel
theorem dX9_does_44 : decode cX9_does 44 = .ok (.aload_n 0, 1) := by decide +kernel
theorem dX9_does_45 : decode cX9_does 45 = .ok (.getfield 199, 3) := by decide +kernel
theorem dX9_does_48 : decode cX9_does 48 = .ok (.invokevirtual 92, 3) := by decide +kernel
theorem dX9_does_51 : decode cX9_does 51 = .ok (.pop, 1) := by decide +kernel
theorem dX9_does_52 : decode cX9_does 52 = .ok (.iconst 1, 1) := by decide +kernel
theorem dX9_does_53 : decode cX9_does 53 = .ok (.ireturn, 1) := by decide +kernel
theorem dX9_does_54 : decode cX9_does 54 = .ok (.aload_n 0, 1) := by decide +kernel
theorem dX9_does_55 : decode cX9_does 55 = .ok (.aload_n 0, 1) := by decide +kernel
theorem dX9_does_56 : decode cX9_does 56 = .ok (.getfield 57, 3) := by decide +kernel
theorem dX9_does_59 : decode cX9_does 59 = .ok (.iconst 0, 1) := by decide +kernel
theorem dX9_does_60 : decode cX9_does 60 = .ok (.iaload, 1) := by decide +kernel
theorem dX9_does_61 : decode cX9_does 61 = .ok (.aload_n 0, 1) := by decide +kernel
theorem dX9_does_62 : decode cX9_does 62 = .ok (.getfield 57, 3) := by decide +kernel
theorem dX9_does_65 : decode cX9_does 65 = .ok (.iconst 1, 1) := by decide +kernel
theorem dX9_does_66 : decode cX9_does 66 = .ok (.iaload, 1) := by decide +kernel
theorem dX9_does_67 : decode cX9_does 67 = .ok (.aload_n 0, 1) := by decide +kernel
theorem dX9_does_68 : decode cX9_does 68 = .ok (.getfield 57, 3) := by decide +kernel
theorem dX9_does_71 : decode cX9_does 71 = .ok (.iconst 2, 1) := by decide +kernel
theorem dX9_does_72 : decode cX9_does 72 = .ok (.iaload, 1) := by decide +kernel
theorem dX9_does_73 : decode cX9_does 73 = .ok (.aload_n 0, 1) := by decide +kernel
theorem dX9_does_74 : decode cX9_does 74 = .ok (.getfield 57, 3) := by decide +kernel
theorem dX9_does_77 : decode cX9_does 77 = .ok (.iconst 3, 1) := by decide +kernel
theorem dX9_does_78 : decode cX9_does 78 = .ok (.iaload, 1) := by decide +kernel
theorem dX9_does_79 : decode cX9_does 79 = .ok (.invokevirtual 112, 3) := by decide +kernel
theorem dX9_does_82 : decode cX9_does 82 = .ok (.ifCond .ge 5, 3) := by decide +kernel
theorem dX9_does_85 : decode cX9_does 85 = .ok (.iconst 0, 1) := by decide +kernel
theorem dX9_does_86 : decode cX9_does 86 = .ok (.ireturn, 1) := by decide +kernel
theorem dX9_does_87 : decode cX9_does 87 = .ok (.aload_n 0, 1) := by decide +kernel
theorem dX9_does_88 : decode cX9_does 88 = .ok (.aload_n 0, 1) := by decide +kernel
theorem dX9_does_89 : decode cX9_does 89 = .ok (.getfield 57, 3) := by decide +kernel
theorem dX9_does_92 : decode cX9_does 92 = .ok (.iconst 0, 1) := by decide +kernel
theorem dX9_does_93 : decode cX9_does 93 = .ok (.iaload, 1) := by decide +kernel
theorem dX9_does_94 : decode cX9_does 94 = .ok (.aload_n 0, 1) := by decide +kernel
theorem dX9_does_95 : decode cX9_does 95 = .ok (.getfield 57, 3) := by decide +kernel
theorem dX9_does_98 : decode cX9_does 98 = .ok (.iconst 1, 1) := by decide +kernel
theorem dX9_does_99 : decode cX9_does 99 = .ok (.iaload, 1) := by decide +kernel
theorem dX9_does_100 : decode cX9_does 100 = .ok (.aload_n 0, 1) := by decide +kernel
theorem dX9_does_101 : decode cX9_does 101 = .ok (.getfield 57, 3) := by decide +kernel
theorem dX9_does_104 : decode cX9_does 104 = .ok (.iconst 2, 1) := by decide +kernel
theorem dX9_does_105 : decode cX9_does 105 = .ok (.iaload, 1) := by decide +kernel
theorem dX9_does_106 : decode cX9_does 106 = .ok (.aload_n 0, 1) := by decide +kernel
theorem dX9_does_107 : decode cX9_does 107 = .ok (.getfield 57, 3) := by decide +kernel
theorem dX9_does_110 : decode cX9_does 110 = .ok (.iconst 3, 1) := by decide +kernel
theorem dX9_does_111 : decode cX9_does 111 = .ok (.iaload, 1) := by decide +kernel
theorem dX9_does_112 : decode cX9_does 112 = .ok (.invokevirtual 116, 3) := by decide +kernel
theorem dX9_does_115 : decode cX9_does 115 = .ok (.pop, 1) := by decide +kernel
theorem dX9_does_116 : decode cX9_does 116 = .ok (.iconst 1, 1) := by decide +kernel
theorem dX9_does_117 : decode cX9_does 117 = .ok (.ireturn, 1) := by decide +kernel
theorem dX9_run_0 : decode cX9_run 0 = .ok (.aload_n 0, 1) := by decide +kernel
theorem dX9_run_1 : decode cX9_run 1 = .ok (.invokevirtual 209, 3) := by decide +kernel
theorem dX9_run_4 : decode cX9_run 4 = .ok (.sipush (-1005), 3) := by decide +kernel
theorem dX9_run_7 : decode cX9_run 7 = .ok (.if_icmp .eq 7, 3) := by decide +kernel
theorem dX9_run_10 : decode cX9_run 10 = .ok (.sipush (-1002), 3) := by decide +kernel
theorem dX9_run_13 : decode cX9_run 13 = .ok (.ireturn, 1) := by decide +kernel
theorem dX9_run_14 : decode cX9_run 14 = .ok (.aload_n 0, 1) := by decide +kernel
theorem dX9_run_15 : decode cX9_run 15 = .ok (.invokevirtual 71, 3) := by decide +kernel
theorem dX9_run_18 : decode cX9_run 18 = .ok (.aload_n 0, 1) := by decide +kernel
theorem dX9_run_19 : decode cX9_run 19 = .ok (.iconst 0, 1) := by decide +kernel
theorem dX9_run_20 : decode cX9_run 20 = .ok (.putfield 183, 3) := by decide +kernel
theorem dX9_run_23 : decode cX9_run 23 = .ok (.iconst 0, 1) := by decide +kernel
theorem dX9_run_24 : decode cX9_run 24 = .ok (.istore_n 1, 1) := by decide +kernel
theorem dX9_run_25 : decode cX9_run 25 = .ok (.aload_n 0, 1) := by decide +kernel
theorem dX9_run_26 : decode cX9_run 26 = .ok (.getfield 183, 3) := by decide +kernel
theorem dX9_run_29 : decode cX9_run 29 = .ok (.aload_n 0, 1) := by decide +kernel
theorem dX9_run_30 : decode cX9_run 30 = .ok (.getfield 180, 3) := by decide +kernel
theorem dX9_run_33 : decode cX9_run 33 = .ok (.if_icmp .ge 23, 3) := by decide +kernel
theorem dX9_run_36 : decode cX9_run 36 = .ok (.aload_n 0, 1) := by decide +kernel
theorem dX9_run_37 : decode cX9_run 37 = .ok (.invokevirtual 205, 3) := by decide +kernel
theorem dX9_run_40 : decode cX9_run 40 = .ok (.ifCond .eq 16, 3) := by decide +kernel
theorem dX9_run_43 : decode cX9_run 43 = .ok (.aload_n 0, 1) := by decide +kernel
theorem dX9_run_44 : decode cX9_run 44 = .ok (.invokevirtual 212, 3) := by decide +kernel
theorem dX9_run_47 : decode cX9_run 47 = .ok (.ifCond .eq 9, 3) := by decide +kernel
theorem dX9_run_50 : decode cX9_run 50 = .ok (.iinc 1 1, 3) := by decide +kernel
theorem dX9_run_53 : decode cX9_run 53 = .ok (.goto (-28), 3) := by decide +kernel
theorem dX9_run_56 : decode cX9_run 56 = .ok (.iload_n 1, 1) := by decide +kernel
theorem dX9_run_57 : decode cX9_run 57 = .ok (.ireturn, 1) := by decide +kernel
theorem dJ6_bitCount_0f7a4_0 : decode cJ6_bitCount_0f7a4 0 = .ok (.iload_n 0, 1) := by decide +kernel
theorem dJ6_bitCount_0f7a4_1 : decode cJ6_bitCount_0f7a4 1 = .ok (.iload_n 0, 1) := by decide +kernel
theorem dJ6_bitCount_0f7a4_2 : decode cJ6_bitCount_0f7a4 2 = .ok (.iconst 1, 1) := by decide +kernel
theorem dJ6_bitCount_0f7a4_3 : decode cJ6_bitCount_0f7a4 3 = .ok (.iushr, 1) := by decide +kernel
theorem dJ6_bitCount_0f7a4_4 : decode cJ6_bitCount_0f7a4 4 = .ok (.ldc_w 265, 3) := by decide +kernel
theorem dJ6_bitCount_0f7a4_7 : decode cJ6_bitCount_0f7a4 7 = .ok (.iand, 1) := by decide +kernel
theorem dJ6_bitCount_0f7a4_8 : decode cJ6_bitCount_0f7a4 8 = .ok (.isub, 1) := by decide +kernel
theorem dJ6_bitCount_0f7a4_9 : decode cJ6_bitCount_0f7a4 9 = .ok (.istore_n 0, 1) := by decide +kernel
theorem dJ6_bitCount_0f7a4_10 : decode cJ6_bitCount_0f7a4 10 = .ok (.iload_n 0, 1) := by decide +kernel
theorem dJ6_bitCount_0f7a4_11 : decode cJ6_bitCount_0f7a4 11 = .ok (.ldc_w 266, 3) := by decide +kernel
theorem dJ6_bitCount_0f7a4_14 : decode cJ6_bitCount_0f7a4 14 = .ok (.iand, 1) := by decide +kernel
theorem dJ6_bitCount_0f7a4_15 : decode cJ6_bitCount_0f7a4 15 = .ok (.iload_n 0, 1) := by decide +kernel
theorem dJ6_bitCount_0f7a4_16 : decode cJ6_bitCount_0f7a4 16 = .ok (.iconst 2, 1) := by decide +kernel
theorem dJ6_bitCount_0f7a4_17 : decode cJ6_bitCount_0f7a4 17 = .ok (.iushr, 1) := by decide +kernel
theorem dJ6_bitCount_0f7a4_18 : decode cJ6_bitCount_0f7a4 18 = .ok (.ldc_w 266, 3) := by decide +kernel
theorem dJ6_bitCount_0f7a4_21 : decode cJ6_bitCount_0f7a4 21 = .ok (.iand, 1) := by decide +kernel
theorem dJ6_bitCount_0f7a4_22 : decode cJ6_bitCount_0f7a4 22 = .ok (.iadd, 1) := by decide +kernel
theorem dJ6_bitCount_0f7a4_23 : decode cJ6_bitCount_0f7a4 23 = .ok (.istore_n 0, 1) := by decide +kernel
theorem dJ6_bitCount_0f7a4_24 : decode cJ6_bitCount_0f7a4 24 = .ok (.iload_n 0, 1) := by decide +kernel
theorem dJ6_bitCount_0f7a4_25 : decode cJ6_bitCount_0f7a4 25 = .ok (.iload_n 0, 1) := by decide +kernel
theorem dJ6_bitCount_0f7a4_26 : decode cJ6_bitCount_0f7a4 26 = .ok (.iconst 4, 1) := by decide +kernel
theorem dJ6_bitCount_0f7a4_27 : decode cJ6_bitCount_0f7a4 27 = .ok (.iushr, 1) := by decide +kernel
theorem dJ6_bitCount_0f7a4_28 : decode cJ6_bitCount_0f7a4 28 = .ok (.iadd, 1) := by decide +kernel
theorem dJ6_bitCount_0f7a4_29 : decode cJ6_bitCount_0f7a4 29 = .ok (.ldc_w 267, 3) := by decide +kernel
theorem dJ6_bitCount_0f7a4_32 : decode cJ6_bitCount_0f7a4 32 = .ok (.iand, 1) := by decide +kernel
theorem dJ6_bitCount_0f7a4_33 : decode cJ6_bitCount_0f7a4 33 = .ok (.istore_n 0, 1) := by decide +kernel
theorem dJ6_bitCount_0f7a4_34 : decode cJ6_bitCount_0f7a4 34 = .ok (.iload_n 0, 1) := by decide +kernel
theorem dJ6_bitCount_0f7a4_35 : decode cJ6_bitCount_0f7a4 35 = .ok (.iload_n 0, 1) := by decide +kernel
theorem dJ6_bitCount_0f7a4_36 : decode cJ6_bitCount_0f7a4 36 = .ok (.bipush 8, 2) := by decide +kernel
theorem dJ6_bitCount_0f7a4_38 : decode cJ6_bitCount_0f7a4 38 = .ok (.iushr, 1) := by decide +kernel
theorem dJ6_bitCount_0f7a4_39 : decode cJ6_bitCount_0f7a4 39 = .ok (.iadd, 1) := by decide +kernel
theorem dJ6_bitCount_0f7a4_40 : decode cJ6_bitCount_0f7a4 40 = .ok (.istore_n 0, 1) := by decide +kernel
theorem dJ6_bitCount_0f7a4_41 : decode cJ6_bitCount_0f7a4 41 = .ok (.iload_n 0, 1) := by decide +kernel
theorem dJ6_bitCount_0f7a4_42 : decode cJ6_bitCount_0f7a4 42 = .ok (.iload_n 0, 1) := by decide +kernel
theorem dJ6_bitCount_0f7a4_43 : decode cJ6_bitCount_0f7a4 43 = .ok (.bipush 16, 2) := by decide +kernel
theorem dJ6_bitCount_0f7a4_45 : decode cJ6_bitCount_0f7a4 45 = .ok (.iushr, 1) := by decide +kernel
theorem dJ6_bitCount_0f7a4_46 : decode cJ6_bitCount_0f7a4 46 = .ok (.iadd, 1) := by decide +kernel
theorem dJ6_bitCount_0f7a4_47 : decode cJ6_bitCount_0f7a4 47 = .ok (.istore_n 0, 1) := by decide +kernel
theorem dJ6_bitCount_0f7a4_48 : decode cJ6_bitCount_0f7a4 48 = .ok (.iload_n 0, 1) := by decide +kernel
theorem dJ6_bitCount_0f7a4_49 : decode cJ6_bitCount_0f7a4 49 = .ok (.bipush 63, 2) := by decide +kernel
theorem dJ6_bitCount_0f7a4_51 : decode cJ6_bitCount_0f7a4 51 = .ok (.iand, 1) := by decide +kernel
theorem dJ6_bitCount_0f7a4_52 : decode cJ6_bitCount_0f7a4 52 = .ok (.ireturn, 1) := by decide +kernel
theorem dJ9_max_7cf53_0 : decode cJ9_max_7cf53 0 = .ok (.iload_n 0, 1) := by decide +kernel
theorem dJ9_max_7cf53_1 : decode cJ9_max_7cf53 1 = .ok (.iload_n 1, 1) := by decide +kernel
theorem dJ9_max_7cf53_2 : decode cJ9_max_7cf53 2 = .ok (.if_icmp .lt 7, 3) := by decide +kernel
theorem dJ9_max_7cf53_5 : decode cJ9_max_7cf53 5 = .ok (.iload_n 0, 1) := by decide +kernel
theorem dJ9_max_7cf53_6 : decode cJ9_max_7cf53 6 = .ok (.goto 4, 3) := by decide +kernel
theorem dJ9_max_7cf53_9 : decode cJ9_max_7cf53 9 = .ok (.iload_n 1, 1) := by decide +kernel
theorem dJ9_max_7cf53_10 : decode cJ9_max_7cf53 10 = .ok (.ireturn, 1) := by decide +kernel
theorem dJ9_min_7cf53_0 : decode cJ9_min_7cf53 0 = .ok (.iload_n 0, 1) := by decide +kernel
theorem dJ9_min_7cf53_1 : decode cJ9_min_7cf53 1 = .ok (.iload_n 1, 1) := by decide +kernel
theorem dJ9_min_7cf53_2 : decode cJ9_min_7cf53 2 = .ok (.if_icmp .gt 7, 3) := by decide +kernel
theorem dJ9_min_7cf53_5 : decode cJ9_min_7cf53 5 = .ok (.iload_n 0, 1) := by decide +kernel
theorem dJ9_min_7cf53_6 : decode cJ9_min_7cf53 6 = .ok (.goto 4, 3) := by decide +kernel
theorem dJ9_min_7cf53_9 : decode cJ9_min_7cf53 9 = .ok (.iload_n 1, 1) := by decide +kernel
theorem dJ9_min_7cf53_10 : decode cJ9_min_7cf53 10 = .ok (.ireturn, 1) := by decide +kernel
theorem dJ0_length_8abf5_0 : decode cJ0_length_8abf5 0 = .ok (.aload_n 0, 1) := by decide +kernel
theorem dJ0_length_8abf5_1 : decode cJ0_length_8abf5 1 = .ok (.getfield 9, 3) := by decide +kernel
theorem dJ0_length_8abf5_4 : decode cJ0_length_8abf5 4 = .ok (.arraylength, 1) := by decide +kernel
theorem dJ0_length_8abf5_5 : decode cJ0_length_8abf5 5 = .ok (.aload_n 0, 1) := by decide +kernel
theorem dJ0_length_8abf5_6 : decode cJ0_length_8abf5 6 = .ok (.invokevirtual 335, 3) := by decide +kernel
theorem dJ0_length_8abf5_9 : decode cJ0_length_8abf5 9 = .ok (.ishr, 1) := by decide +kernel
theorem dJ0_length_8abf5_10 : decode cJ0_length_8abf5 10 = .ok (.ireturn, 1) := by decide +kernel
theorem dJ0_charAt_5068e_0 : decode cJ0_charAt_5068e 0 = .ok (.aload_n 0, 1) := by decide +kernel
theorem dJ0_charAt_5068e_1 : decode cJ0_charAt_5068e 1 = .ok (.invokevirtual 492, 3) := by decide +kernel
theorem dJ0_charAt_5068e_4 : decode cJ0_charAt_5068e 4 = .ok (.ifCond .eq 12, 3) := by decide +kernel
theorem dJ0_charAt_5068e_7 : decode cJ0_charAt_5068e 7 = .ok (.aload_n 0, 1) := by decide +kernel
theorem dJ0_charAt_5068e_8 : decode cJ0_charAt_5068e 8 = .ok (.getfield 9, 3) := by decide +kernel
theorem dJ0_charAt_5068e_11 : decode cJ0_charAt_5068e 11 = .ok (.iload_n 1, 1) := by decide +kernel
theorem dJ0_charAt_5068e_12 : decode cJ0_charAt_5068e 12 = .ok (.invokestatic 495, 3) := by decide +kernel
theorem dJ0_charAt_5068e_15 : decode cJ0_charAt_5068e 15 = .ok (.ireturn, 1) := by decide +kernel
theorem dJ0_charAt_5068e_16 : decode cJ0_charAt_5068e 16 = .ok (.aload_n 0, 1) := by decide +kernel
theorem dJ0_charAt_5068e_17 : decode cJ0_charAt_5068e 17 = .ok (.getfield 9, 3) := by decide +kernel
theorem dJ0_charAt_5068e_20 : decode cJ0_charAt_5068e 20 = .ok (.iload_n 1, 1) := by decide +kernel
theorem dJ0_charAt_5068e_21 : decode cJ0_charAt_5068e 21 = .ok (.invokestatic 498, 3) := by decide +kernel
theorem dJ0_charAt_5068e_24 : decode cJ0_charAt_5068e 24 = .ok (.ireturn, 1) := by decide +kernel
theorem dJ0_coder_7d493_0 : decode cJ0_coder_7d493 0 = .ok (.getstatic 38, 3) := by decide +kernel
theorem dJ0_coder_7d493_3 : decode cJ0_coder_7d493 3 = .ok (.ifCond .eq 10, 3) := by decide +kernel
theorem dJ0_coder_7d493_6 : decode cJ0_coder_7d493 6 = .ok (.aload_n 0, 1) := by decide +kernel
theorem dJ0_coder_7d493_7 : decode cJ0_coder_7d493 7 = .ok (.getfield 15, 3) := by decide +kernel
theorem dJ0_coder_7d493_10 : decode cJ0_coder_7d493 10 = .ok (.goto 4, 3) := by decide +kernel
theorem dJ0_coder_7d493_13 : decode cJ0_coder_7d493 13 = .ok (.iconst 1, 1) := by decide +kernel
theorem dJ0_coder_7d493_14 : decode cJ0_coder_7d493 14 = .ok (.ireturn, 1) := by decide +kernel
theorem dJ0_isLatin1_aae02_0 : decode cJ0_isLatin1_aae02 0 = .ok (.getstatic 38, 3) := by decide +kernel
theorem dJ0_isLatin1_aae02_3 : decode cJ0_isLatin1_aae02 3 = .ok (.ifCond .eq 14, 3) := by decide +kernel
theorem dJ0_isLatin1_aae02_6 : decode cJ0_isLatin1_aae02 6 = .ok (.aload_n 0, 1) := by decide +kernel
theorem dJ0_isLatin1_aae02_7 : decode cJ0_isLatin1_aae02 7 = .ok (.getfield 15, 3) := by decide +kernel
theorem dJ0_isLatin1_aae02_10 : decode cJ0_isLatin1_aae02 10 = .ok (.ifCond .ne 7, 3) := by decide +kernel
theorem dJ0_isLatin1_aae02_13 : decode cJ0_isLatin1_aae02 13 = .ok (.iconst 1, 1) := by decide +kernel
theorem dJ0_isLatin1_aae02_14 : decode cJ0_isLatin1_aae02 14 = .ok (.goto 4, 3) := by decide +kernel
theorem dJ0_isLatin1_aae02_17 : decode cJ0_isLatin1_aae02 17 = .ok (.iconst 0, 1) := by decide +kernel
theorem dJ0_isLatin1_aae02_18 : decode cJ0_isLatin1_aae02 18 = .ok (.ireturn, 1) := by decide +kernel
theorem dJ0_checkIndex_df160_0 : decode cJ0_checkIndex_df160 0 = .ok (.iload_n 0, 1) := by decide +kernel
theorem dJ0_checkIndex_df160_1 : decode cJ0_checkIndex_df160 1 = .ok (.iload_n 1, 1) := by decide +kernel
theorem dJ0_checkIndex_df160_2 : decode cJ0_checkIndex_df160 2 = .ok (.getstatic 1053, 3) := by decide +kernel
theorem dJ0_checkIndex_df160_5 : decode cJ0_checkIndex_df160 5 = .ok (.invokestatic 1059, 3) := by decide +kernel
theorem dJ0_checkIndex_df160_8 : decode cJ0_checkIndex_df160 8 = .ok (.pop, 1) := by decide +kernel
theorem dJ0_checkIndex_df160_9 : decode cJ0_checkIndex_df160 9 = .ok (.return_, 1) := by decide +kernel
theorem dJ1_charAt_3b067_0 : decode cJ1_charAt_3b067 0 = .ok (.iload_n 1, 1) := by decide +kernel
theorem dJ1_charAt_3b067_1 : decode cJ1_charAt_3b067 1 = .ok (.aload_n 0, 1) := by decide +kernel
theorem dJ1_charAt_3b067_2 : decode cJ1_charAt_3b067 2 = .ok (.arraylength, 1) := by decide +kernel
theorem dJ1_charAt_3b067_3 : decode cJ1_charAt_3b067 3 = .ok (.invokestatic 9, 3) := by decide +kernel
theorem dJ1_charAt_3b067_6 : decode cJ1_charAt_3b067 6 = .ok (.aload_n 0, 1) := by decide +kernel
theorem dJ1_charAt_3b067_7 : decode cJ1_charAt_3b067 7 = .ok (.iload_n 1, 1) := by decide +kernel
theorem dJ1_charAt_3b067_8 : decode cJ1_charAt_3b067 8 = .ok (.baload, 1) := by decide +kernel
theorem dJ1_charAt_3b067_9 : decode cJ1_charAt_3b067 9 = .ok (.sipush 255, 3) := by decide +kernel
theorem dJ1_charAt_3b067_12 : decode cJ1_charAt_3b067 12 = .ok (.iand, 1) := by decide +kernel
theorem dJ1_charAt_3b067_13 : decode cJ1_charAt_3b067 13 = .ok (.i2c, 1) := by decide +kernel
theorem dJ1_charAt_3b067_14 : decode cJ1_charAt_3b067 14 = .ok (.ireturn, 1) := by decide +kernel
theorem dJ2_getChar_3b067_0 : decode cJ2_getChar_3b067 0 = .ok (.getstatic 44, 3) := by decide +kernel
theorem dJ2_getChar_3b067_3 : decode cJ2_getChar_3b067 3 = .ok (.ifCond .ne 25, 3) := by decide +kernel
theorem dJ2_getChar_3b067_6 : decode cJ2_getChar_3b067 6 = .ok (.iload_n 1, 1) := by decide +kernel
theorem dJ2_getChar_3b067_7 : decode cJ2_getChar_3b067 7 = .ok (.ifCond .lt 11, 3) := by decide +kernel
theorem dJ2_getChar_3b067_10 : decode cJ2_getChar_3b067 10 = .ok (.iload_n 1, 1) := by decide +kernel
theorem dJ2_getChar_3b067_11 : decode cJ2_getChar_3b067 11 = .ok (.aload_n 0, 1) := by decide +kernel
theorem dJ2_getChar_3b067_12 : decode cJ2_getChar_3b067 12 = .ok (.invokestatic 48, 3) := by decide +kernel
theorem dJ2_getChar_3b067_15 : decode cJ2_getChar_3b067 15 = .ok (.if_icmp .lt 13, 3) := by decide +kernel
theorem dJ2_getChar_3b067_18 : decode cJ2_getChar_3b067 18 = .ok (.new 52, 3) := by decide +kernel
theorem dJ2_getChar_3b067_21 : decode cJ2_getChar_3b067 21 = .ok (.dup, 1) := by decide +kernel
theorem dJ2_getChar_3b067_22 : decode cJ2_getChar_3b067 22 = .ok (.ldc 54, 2) := by decide +kernel
theorem dJ2_getChar_3b067_24 : decode cJ2_getChar_3b067 24 = .ok (.invokespecial 56, 3) := by decide +kernel
theorem dJ2_getChar_3b067_27 : decode cJ2_getChar_3b067 27 = .ok (.athrow, 1) := by decide +kernel
theorem dJ2_getChar_3b067_28 : decode cJ2_getChar_3b067 28 = .ok (.iload_n 1, 1) := by decide +kernel
theorem dJ2_getChar_3b067_29 : decode cJ2_getChar_3b067 29 = .ok (.iconst 1, 1) := by decide +kernel
theorem dJ2_getChar_3b067_30 : decode cJ2_getChar_3b067 30 = .ok (.ishl, 1) := by decide +kernel
theorem dJ2_getChar_3b067_31 : decode cJ2_getChar_3b067 31 = .ok (.istore_n 1, 1) := by decide +kernel
theorem dJ2_getChar_3b067_32 : decode cJ2_getChar_3b067 32 = .ok (.aload_n 0, 1) := by decide +kernel
theorem dJ2_getChar_3b067_33 : decode cJ2_getChar_3b067 33 = .ok (.iload_n 1, 1) := by decide +kernel
theorem dJ2_getChar_3b067_34 : decode cJ2_getChar_3b067 34 = .ok (.iinc 1 1, 3) := by decide +kernel
theorem dJ2_getChar_3b067_37 : decode cJ2_getChar_3b067 37 = .ok (.baload, 1) := by decide +kernel
theorem dJ2_getChar_3b067_38 : decode cJ2_getChar_3b067 38 = .ok (.sipush 255, 3) := by decide +kernel
theorem dJ2_getChar_3b067_41 : decode cJ2_getChar_3b067 41 = .ok (.iand, 1) := by decide +kernel
theorem dJ2_getChar_3b067_42 : decode cJ2_getChar_3b067 42 = .ok (.getstatic 59, 3) := by decide +kernel
theorem dJ2_getChar_3b067_45 : decode cJ2_getChar_3b067 45 = .ok (.ishl, 1) := by decide +kernel
theorem dJ2_getChar_3b067_46 : decode cJ2_getChar_3b067 46 = .ok (.aload_n 0, 1) := by decide +kernel
theorem dJ2_getChar_3b067_47 : decode cJ2_getChar_3b067 47 = .ok (.iload_n 1, 1) := by decide +kernel
theorem dJ2_getChar_3b067_48 : decode cJ2_getChar_3b067 48 = .ok (.baload, 1) := by decide +kernel
theorem dJ2_getChar_3b067_49 : decode cJ2_getChar_3b067 49 = .ok (.sipush 255, 3) := by decide +kernel
theorem dJ2_getChar_3b067_52 : decode cJ2_getChar_3b067 52 = .ok (.iand, 1) := by decide +kernel
theorem dJ2_getChar_3b067_53 : decode cJ2_getChar_3b067 53 = .ok (.getstatic 63, 3) := by decide +kernel
theorem dJ2_getChar_3b067_56 : decode cJ2_getChar_3b067 56 = .ok (.ishl, 1) := by decide +kernel
theorem dJ2_getChar_3b067_57 : decode cJ2_getChar_3b067 57 = .ok (.ior, 1) := by decide +kernel
theorem dJ2_getChar_3b067_58 : decode cJ2_getChar_3b067 58 = .ok (.i2c, 1) := by decide +kernel
theorem dJ2_getChar_3b067_59 : decode cJ2_getChar_3b067 59 = .ok (.ireturn, 1) := by decide +kernel
theorem dJ2_length_9d52b_0 : decode cJ2_length_9d52b 0 = .ok (.aload_n 0, 1) := by decide +kernel
theorem dJ2_length_9d52b_1 : decode cJ2_length_9d52b 1 = .ok (.arraylength, 1) := by decide +kernel
theorem dJ2_length_9d52b_2 : decode cJ2_length_9d52b 2 = .ok (.iconst 1, 1) := by decide +kernel
theorem dJ2_length_9d52b_3 : decode cJ2_length_9d52b 3 = .ok (.ishr, 1) := by decide +kernel
theorem dJ2_length_9d52b_4 : decode cJ2_length_9d52b 4 = .ok (.ireturn, 1) := by decide +kernel
theorem dJ2_charAt_3b067_0 : decode cJ2_charAt_3b067 0 = .ok (.iload_n 1, 1) := by decide +kernel
theorem dJ2_charAt_3b067_1 : decode cJ2_charAt_3b067 1 = .ok (.aload_n 0, 1) := by decide +kernel
theorem dJ2_charAt_3b067_2 : decode cJ2_charAt_3b067 2 = .ok (.invokestatic 67, 3) := by decide +kernel
theorem dJ2_charAt_3b067_5 : decode cJ2_charAt_3b067 5 = .ok (.aload_n 0, 1) := by decide +kernel
theorem dJ2_charAt_3b067_6 : decode cJ2_charAt_3b067 6 = .ok (.iload_n 1, 1) := by decide +kernel
theorem dJ2_charAt_3b067_7 : decode cJ2_charAt_3b067 7 = .ok (.invokestatic 71, 3) := by decide +kernel
theorem dJ2_charAt_3b067_10 : decode cJ2_charAt_3b067 10 = .ok (.ireturn, 1) := by decide +kernel
theorem dJ2_checkIndex_2214a_0 : decode cJ2_checkIndex_2214a 0 = .ok (.iload_n 0, 1) := by decide +kernel
theorem dJ2_checkIndex_2214a_1 : decode cJ2_checkIndex_2214a 1 = .ok (.aload_n 1, 1) := by decide +kernel
theorem dJ2_checkIndex_2214a_2 : decode cJ2_checkIndex_2214a 2 = .ok (.invokestatic 48, 3) := by decide +kernel
theorem dJ2_checkIndex_2214a_5 : decode cJ2_checkIndex_2214a 5 = .ok (.invokestatic 414, 3) := by decide +kernel
theorem dJ2_checkIndex_2214a_8 : decode cJ2_checkIndex_2214a 8 = .ok (.return_, 1) := by decide +kernel
theorem dJ3_checkIndex_8e157_0 : decode cJ3_checkIndex_8e157 0 = .ok (.iload_n 0, 1) := by decide +kernel
theorem dJ3_checkIndex_8e157_1 : decode cJ3_checkIndex_8e157 1 = .ok (.ifCond .lt 8, 3) := by decide +kernel
theorem dJ3_checkIndex_8e157_4 : decode cJ3_checkIndex_8e157 4 = .ok (.iload_n 0, 1) := by decide +kernel
theorem dJ3_checkIndex_8e157_5 : decode cJ3_checkIndex_8e157 5 = .ok (.iload_n 1, 1) := by decide +kernel
theorem dJ3_checkIndex_8e157_6 : decode cJ3_checkIndex_8e157 6 = .ok (.if_icmp .lt 10, 3) := by decide +kernel
theorem dJ3_checkIndex_8e157_9 : decode cJ3_checkIndex_8e157 9 = .ok (.aload_n 2, 1) := by decide +kernel
theorem dJ3_checkIndex_8e157_10 : decode cJ3_checkIndex_8e157 10 = .ok (.iload_n 0, 1) := by decide +kernel
theorem dJ3_checkIndex_8e157_11 : decode cJ3_checkIndex_8e157 11 = .ok (.iload_n 1, 1) := by decide +kernel
theorem dJ3_checkIndex_8e157_12 : decode cJ3_checkIndex_8e157 12 = .ok (.invokestatic 95, 3) := by decide +kernel
theorem dJ3_checkIndex_8e157_15 : decode cJ3_checkIndex_8e157 15 = .ok (.athrow, 1) := by decide +kernel
theorem dJ3_checkIndex_8e157_16 : decode cJ3_checkIndex_8e157 16 = .ok (.iload_n 0, 1) := by decide +kernel
theorem dJ3_checkIndex_8e157_17 : decode cJ3_checkIndex_8e157 17 = .ok (.ireturn, 1) := by decide +kernel
theorem dL_law_0 : decode cL_law 0 = .ok (.new 7, 3) := by decide +kernel
theorem dL_law_3 : decode cL_law 3 = .ok (.dup, 1) := by decide +kernel
theorem dL_law_4 : decode cL_law 4 = .ok (.invokespecial 9, 3) := by decide +kernel
theorem dL_law_7 : decode cL_law 7 = .ok (.astore_n 1, 1) := by decide +kernel
theorem dL_law_8 : decode cL_law 8 = .ok (.new 10, 3) := by decide +kernel
theorem dL_law_11 : decode cL_law 11 = .ok (.dup, 1) := by decide +kernel
theorem dL_law_12 : decode cL_law 12 = .ok (.invokespecial 12, 3) := by decide +kernel
theorem dL_law_15 : decode cL_law 15 = .ok (.astore_n 2, 1) := by decide +kernel
theorem dL_law_16 : decode cL_law 16 = .ok (.iconst 0, 1) := by decide +kernel
theorem dL_law_17 : decode cL_law 17 = .ok (.istore_n 3, 1) := by decide +kernel
theorem dL_law_18 : decode cL_law 18 = .ok (.iload_n 3, 1) := by decide +kernel
theorem dL_law_19 : decode cL_law 19 = .ok (.aload_n 0, 1) := by decide +kernel
theorem dL_law_20 : decode cL_law 20 = .ok (.arraylength, 1) := by decide +kernel
theorem dL_law_21 : decode cL_law 21 = .ok (.iconst 5, 1) := by decide +kernel
theorem dL_law_22 : decode cL_law 22 = .ok (.isub, 1) := by decide +kernel
theorem dL_law_23 : decode cL_law 23 = .ok (.if_icmp .gt 743, 3) := by decide +kernel
theorem dL_law_26 : decode cL_law 26 = .ok (.aload_n 0, 1) := by decide +kernel
theorem dL_law_27 : decode cL_law 27 = .ok (.iload_n 3, 1) := by decide +kernel
theorem dL_law_28 : decode cL_law 28 = .ok (.iaload, 1) := by decide +kernel
theorem dL_law_29 : decode cL_law 29 = .ok (.bipush 31, 2) := by decide +kernel
theorem dL_law_31 : decode cL_law 31 = .ok (.iand, 1) := by decide +kernel
theorem dL_law_32 : decode cL_law 32 = .ok (.tableswitch 728 0 25 #[120, 153, 186, 209, 232, 265, 278, 331, 354, 397, 410, 433, 466, 489, 502, 525, 548, 571, 584, 607, 630, 653, 666, 689, 702, 715], 120) := by decide +kernel
theorem dL_law_152 : decode cL_law 152 = .ok (.aload_n 1, 1) := by decide +kernel
theorem dL_law_153 : decode cL_law 153 = .ok (.aload_n 0, 1) := by decide +kernel
theorem dL_law_154 : decode cL_law 154 = .ok (.iload_n 3, 1) := by decide +kernel
theorem dL_law_155 : decode cL_law 155 = .ok (.iconst 1, 1) := by decide +kernel
theorem dL_law_156 : decode cL_law 156 = .ok (.iadd, 1) := by decide +kernel
theorem dL_law_157 : decode cL_law 157 = .ok (.iaload, 1) := by decide +kernel
theorem dL_law_158 : decode cL_law 158 = .ok (.aload_n 0, 1) := by decide +kernel
theorem dL_law_159 : decode cL_law 159 = .ok (.iload_n 3, 1) := by decide +kernel
theorem dL_law_160 : decode cL_law 160 = .ok (.iconst 2, 1) := by decide +kernel
theorem dL_law_161 : decode cL_law 161 = .ok (.iadd, 1) := by decide +kernel
theorem dL_law_162 : decode cL_law 162 = .ok (.iaload, 1) := by decide +kernel
theorem dL_law_163 : decode cL_law 163 = .ok (.invokevirtual 13, 3) := by decide +kernel
theorem dL_law_166 : decode cL_law 166 = .ok (.aload_n 2, 1) := by decide +kernel
theorem dL_law_167 : decode cL_law 167 = .ok (.aload_n 0, 1) := by decide +kernel
theorem dL_law_168 : decode cL_law 168 = .ok (.iload_n 3, 1) := by decide +kernel
theorem dL_law_169 : decode cL_law 169 = .ok (.iconst 1, 1) := by decide +kernel
theorem dL_law_170 : decode cL_law 170 = .ok (.iadd, 1) := by decide +kernel
theorem dL_law_171 : decode cL_law 171 = .ok (.iaload, 1) := by decide +kernel
theorem dL_law_172 : decode cL_law 172 = .ok (.aload_n 0, 1) := by decide +kernel
theorem dL_law_173 : decode cL_law 173 = .ok (.iload_n 3, 1) := by decide +kernel
theorem dL_law_174 : decode cL_law 174 = .ok (.iconst 2, 1) := by decide +kernel
theorem dL_law_175 : decode cL_law 175 = .ok (.iadd, 1) := by decide +kernel
theorem dL_law_176 : decode cL_law 176 = .ok (.iaload, 1) := by decide +kernel
theorem dL_law_177 : decode cL_law 177 = .ok (.invokevirtual 17, 3) := by decide +kernel
theorem dL_law_180 : decode cL_law 180 = .ok (.if_icmp .eq 580, 3) := by decide +kernel
theorem dL_law_183 : decode cL_law 183 = .ok (.iconst 0, 1) := by decide +kernel
theorem dL_law_184 : decode cL_law 184 = .ok (.ireturn, 1) := by decide +kernel
theorem dL_law_185 : decode cL_law 185 = .ok (.aload_n 1, 1) := by decide +kernel
theorem dL_law_186 : decode cL_law 186 = .ok (.aload_n 0, 1) := by decide +kernel
theorem dL_law_187 : decode cL_law 187 = .ok (.iload_n 3, 1) := by decide +kernel
theorem dL_law_188 : decode cL_law 188 = .ok (.iconst 1, 1) := by decide +kernel
theorem dL_law_189 : decode cL_law 189 = .ok (.iadd, 1) := by decide +kernel
theorem dL_law_190 : decode cL_law 190 = .ok (.iaload, 1) := by decide +kernel
theorem dL_law_191 : decode cL_law 191 = .ok (.aload_n 0, 1) := by decide +kernel
theorem dL_law_192 : decode cL_law 192 = .ok (.iload_n 3, 1) := by decide +kernel
theorem dL_law_193 : decode cL_law 193 = .ok (.iconst 2, 1) := by decide +kernel
theorem dL_law_194 : decode cL_law 194 = .ok (.iadd, 1) := by decide +kernel
theorem dL_law_195 : decode cL_law 195 = .ok (.iaload, 1) := by decide +kernel
theorem dL_law_196 : decode cL_law 196 = .ok (.invokevirtual 18, 3) := by decide +kernel
theorem dL_law_199 : decode cL_law 199 = .ok (.aload_n 2, 1) := by decide +kernel
theorem dL_law_200 : decode cL_law 200 = .ok (.aload_n 0, 1) := by decide +kernel
theorem dL_law_201 : decode cL_law 201 = .ok (.iload_n 3, 1) := by decide +kernel
theorem dL_law_202 : decode cL_law 202 = .ok (.iconst 1, 1) := by decide +kernel
theorem dL_law_203 : decode cL_law 203 = .ok (.iadd, 1) := by decide +kernel
theorem dL_law_204 : decode cL_law 204 = .ok (.iaload, 1) := by decide +kernel
theorem dL_law_205 : decode cL_law 205 = .ok (.aload_n 0, 1) := by decide +kernel
theorem dL_law_206 : decode cL_law 206 = .ok (.iload_n 3, 1) := by decide +kernel
theorem dL_law_207 : decode cL_law 207 = .ok (.iconst 2, 1) := by decide +kernel
theorem dL_law_208 : decode cL_law 208 = .ok (.iadd, 1) := by decide +kernel
theorem dL_law_209 : decode cL_law 209 = .ok (.iaload, 1) := by decide +kernel
theorem dL_law_210 : decode cL_law 210 = .ok (.invokevirtual 21, 3) := by decide +kernel
theorem dL_law_213 : decode cL_law 213 = .ok (.if_icmp .eq 547, 3) := by decide +kernel
theorem dL_law_216 : decode cL_law 216 = .ok (.iconst 0, 1) := by decide +kernel
theorem dL_law_217 : decode cL_law 217 = .ok (.ireturn, 1) := by decide +kernel
theorem dL_law_218 : decode cL_law 218 = .ok (.aload_n 1, 1) := by decide +kernel
theorem dL_law_219 : decode cL_law 219 = .ok (.aload_n 0, 1) := by decide +kernel
theorem dL_law_220 : decode cL_law 220 = .ok (.iload_n 3, 1) := by decide +kernel
theorem dL_law_221 : decode cL_law 221 = .ok (.iconst 1, 1) := by decide +kernel
theorem dL_law_222 : decode cL_law 222 = .ok (.iadd, 1) := by decide +kernel
theorem dL_law_223 : decode cL_law 223 = .ok (.iaload, 1) := by decide +kernel
theorem dL_law_224 : decode cL_law 224 = .ok (.invokevirtual 22, 3) := by decide +kernel
theorem dL_law_227 : decode cL_law 227 = .ok (.aload_n 2, 1) := by decide +kernel
theorem dL_law_228 : decode cL_law 228 = .ok (.aload_n 0, 1) := by decide +kernel
theorem dL_law_229 : decode cL_law 229 = .ok (.iload_n 3, 1) := by decide +kernel
theorem dL_law_230 : decode cL_law 230 = .ok (.iconst 1, 1) := by decide +kernel
theorem dL_law_231 : decode cL_law 231 = .ok (.iadd, 1) := by decide +kernel
theorem dL_law_232 : decode cL_law 232 = .ok (.iaload, 1) := by decide +kernel
theorem dL_law_233 : decode cL_law 233 = .ok (.invokevirtual 26, 3) := by decide +kernel
theorem dL_law_236 : decode cL_law 236 = .ok (.if_icmp .eq 524, 3) := by decide +kernel
theorem dL_law_239 : decode cL_law 239 = .ok (.iconst 0, 1) := by decide +kernel
theorem dL_law_240 : decode cL_law 240 = .ok (.ireturn, 1) := by decide +kernel
theorem dL_law_241 : decode cL_law 241 = .ok (.aload_n 1, 1) := by decide +kernel
theorem dL_law_242 : decode cL_law 242 = .ok (.aload_n 0, 1) := by decide +kernel
theorem dL_law_243 : decode cL_law 243 = .ok (.iload_n 3, 1) := by decide +kernel
theorem dL_law_244 : decode cL_law 244 = .ok (.iconst 1, 1) := by decide +kernel
theorem dL_law_245 : decode cL_law 245 = .ok (.iadd, 1) := by decide +kernel
theorem dL_law_246 : decode cL_law 246 = .ok (.iaload, 1) := by decide +kernel
theorem dL_law_247 : decode cL_law 247 = .ok (.invokevirtual 27, 3) := by decide +kernel
theorem dL_law_250 : decode cL_law 250 = .ok (.aload_n 2, 1) := by decide +kernel
theorem dL_law_251 : decode cL_law 251 = .ok (.aload_n 0, 1) := by decide +kernel
theorem dL_law_252 : decode cL_law 252 = .ok (.iload_n 3, 1) := by decide +kernel
theorem dL_law_253 : decode cL_law 253 = .ok (.iconst 1, 1) := by decide +kernel
theorem dL_law_254 : decode cL_law 254 = .ok (.iadd, 1) := by decide +kernel
theorem dL_law_255 : decode cL_law 255 = .ok (.iaload, 1) := by decide +kernel
theorem dL_law_256 : decode cL_law 256 = .ok (.invokevirtual 30, 3) := by decide +kernel
theorem dL_law_259 : decode cL_law 259 = .ok (.if_icmp .eq 501, 3) := by decide +kernel
theorem dL_law_262 : decode cL_law 262 = .ok (.iconst 0, 1) := by decide +kernel
theorem dL_law_263 : decode cL_law 263 = .ok (.ireturn, 1) := by decide +kernel
theorem dL_law_264 : decode cL_law 264 = .ok (.aload_n 1, 1) := by decide +kernel
theorem dL_law_265 : decode cL_law 265 = .ok (.aload_n 0, 1) := by decide +kernel
theorem dL_law_266 : decode cL_law 266 = .ok (.iload_n 3, 1) := by decide +kernel
theorem dL_law_267 : decode cL_law 267 = .ok (.iconst 1, 1) := by decide +kernel
theorem dL_law_268 : decode cL_law 268 = .ok (.iadd, 1) := by decide +kernel
theorem dL_law_269 : decode cL_law 269 = .ok (.iaload, 1) := by decide +kernel
theorem dL_law_270 : decode cL_law 270 = .ok (.aload_n 0, 1) := by decide +kernel
theorem dL_law_271 : decode cL_law 271 = .ok (.iload_n 3, 1) := by decide +kernel
theorem dL_law_272 : decode cL_law 272 = .ok (.iconst 2, 1) := by decide +kernel
theorem dL_law_273 : decode cL_law 273 = .ok (.iadd, 1) := by decide +kernel
theorem dL_law_274 : decode cL_law 274 = .ok (.iaload, 1) := by decide +kernel
theorem dL_law_275 : decode cL_law 275 = .ok (.invokevirtual 31, 3) := by decide +kernel
theorem dL_law_278 : decode cL_law 278 = .ok (.aload_n 2, 1) := by decide +kernel
theorem dL_law_279 : decode cL_law 279 = .ok (.aload_n 0, 1) := by decide +kernel
theorem dL_law_280 : decode cL_law 280 = .ok (.iload_n 3, 1) := by decide +kernel
theorem dL_law_281 : decode cL_law 281 = .ok (.iconst 1, 1) := by decide +kernel
theorem dL_law_282 : decode cL_law 282 = .ok (.iadd, 1) := by decide +kernel
theorem dL_law_283 : decode cL_law 283 = .ok (.iaload, 1) := by decide +kernel
theorem dL_law_284 : decode cL_law 284 = .ok (.aload_n 0, 1) := by decide +kernel
theorem dL_law_285 : decode cL_law 285 = .ok (.iload_n 3, 1) := by decide +kernel
theorem dL_law_286 : decode cL_law 286 = .ok (.iconst 2, 1) := by decide +kernel
theorem dL_law_287 : decode cL_law 287 = .ok (.iadd, 1) := by decide +kernel
theorem dL_law_288 : decode cL_law 288 = .ok (.iaload, 1) := by decide +kernel
theorem dL_law_289 : decode cL_law 289 = .ok (.invokevirtual 34, 3) := by decide +kernel
theorem dL_law_292 : decode cL_law 292 = .ok (.if_icmp .eq 468, 3) := by decide +kernel
theorem dL_law_295 : decode cL_law 295 = .ok (.iconst 0, 1) := by decide +kernel
theorem dL_law_296 : decode cL_law 296 = .ok (.ireturn, 1) := by decide +kernel
theorem dL_law_297 : decode cL_law 297 = .ok (.aload_n 1, 1) := by decide +kernel
theorem dL_law_298 : decode cL_law 298 = .ok (.invokevirtual 35, 3) := by decide +kernel
theorem dL_law_301 : decode cL_law 301 = .ok (.aload_n 2, 1) := by decide +kernel
theorem dL_law_302 : decode cL_law 302 = .ok (.invokevirtual 39, 3) := by decide +kernel
theorem dL_law_305 : decode cL_law 305 = .ok (.if_icmp .eq 455, 3) := by decide +kernel
theorem dL_law_308 : decode cL_law 308 = .ok (.iconst 0, 1) := by decide +kernel
theorem dL_law_309 : decode cL_law 309 = .ok (.ireturn, 1) := by decide +kernel
theorem dL_law_310 : decode cL_law 310 = .ok (.aload_n 1, 1) := by decide +kernel
theorem dL_law_311 : decode cL_law 311 = .ok (.aload_n 0, 1) := by decide +kernel
theorem dL_law_312 : decode cL_law 312 = .ok (.iload_n 3, 1) := by decide +kernel
theorem dL_law_313 : decode cL_law 313 = .ok (.iconst 1, 1) := by decide +kernel
theorem dL_law_314 : decode cL_law 314 = .ok (.iadd, 1) := by decide +kernel
theorem dL_law_315 : decode cL_law 315 = .ok (.iaload, 1) := by decide +kernel
theorem dL_law_316 : decode cL_law 316 = .ok (.aload_n 0, 1) := by decide +kernel
theorem dL_law_317 : decode cL_law 317 = .ok (.iload_n 3, 1) := by decide +kernel
theorem dL_law_318 : decode cL_law 318 = .ok (.iconst 2, 1) := by decide +kernel
theorem dL_law_319 : decode cL_law 319 = .ok (.iadd, 1) := by decide +kernel
theorem dL_law_320 : decode cL_law 320 = .ok (.iaload, 1) := by decide +kernel
theorem dL_law_321 : decode cL_law 321 = .ok (.aload_n 0, 1) := by decide +kernel
theorem dL_law_322 : decode cL_law 322 = .ok (.iload_n 3, 1) := by decide +kernel
theorem dL_law_323 : decode cL_law 323 = .ok (.iconst 3, 1) := by decide +kernel
theorem dL_law_324 : decode cL_law 324 = .ok (.iadd, 1) := by decide +kernel
theorem dL_law_325 : decode cL_law 325 = .ok (.iaload, 1) := by decide +kernel
theorem dL_law_326 : decode cL_law 326 = .ok (.aload_n 0, 1) := by decide +kernel
theorem dL_law_327 : decode cL_law 327 = .ok (.iload_n 3, 1) := by decide +kernel
theorem dL_law_328 : decode cL_law 328 = .ok (.iconst 4, 1) := by decide +kernel
theorem dL_law_329 : decode cL_law 329 = .ok (.iadd, 1) := by decide +kernel
theorem dL_law_330 : decode cL_law 330 = .ok (.iaload, 1) := by decide +kernel
theorem dL_law_331 : decode cL_law 331 = .ok (.invokevirtual 40, 3) := by decide +kernel
theorem dL_law_334 : decode cL_law 334 = .ok (.aload_n 2, 1) := by decide +kernel
theorem dL_law_335 : decode cL_law 335 = .ok (.aload_n 0, 1) := by decide +kernel
theorem dL_law_336 : decode cL_law 336 = .ok (.iload_n 3, 1) := by decide +kernel
theorem dL_law_337 : decode cL_law 337 = .ok (.iconst 1, 1) := by decide +kernel
theorem dL_law_338 : decode cL_law 338 = .ok (.iadd, 1) := by decide +kernel
theorem dL_law_339 : decode cL_law 339 = .ok (.iaload, 1) := by decide +kernel
theorem dL_law_340 : decode cL_law 340 = .ok (.aload_n 0, 1) := by decide +kernel
theorem dL_law_341 : decode cL_law 341 = .ok (.iload_n 3, 1) := by decide +kernel
theorem dL_law_342 : decode cL_law 342 = .ok (.iconst 2, 1) := by decide +kernel
theorem dL_law_343 : decode cL_law 343 = .ok (.iadd, 1) := by decide +kernel
theorem dL_law_344 : decode cL_law 344 = .ok (.iaload, 1) := by decide +kernel
theorem dL_law_345 : decode cL_law 345 = .ok (.aload_n 0, 1) := by decide +kernel
theorem dL_law_346 : decode cL_law 346 = .ok (.iload_n 3, 1) := by decide +kernel
theorem dL_law_347 : decode cL_law 347 = .ok (.iconst 3, 1) := by decide +kernel
theorem dL_law_348 : decode cL_law 348 = .ok (.iadd, 1) := by decide +kernel
theorem dL_law_349 : decode cL_law 349 = .ok (.iaload, 1) := by decide +kernel
theorem dL_law_350 : decode cL_law 350 = .ok (.aload_n 0, 1) := by decide +kernel
theorem dL_law_351 : decode cL_law 351 = .ok (.iload_n 3, 1) := by decide +kernel
theorem dL_law_352 : decode cL_law 352 = .ok (.iconst 4, 1) := by decide +kernel
theorem dL_law_353 : decode cL_law 353 = .ok (.iadd, 1) := by decide +kernel
theorem dL_law_354 : decode cL_law 354 = .ok (.iaload, 1) := by decide +kernel
theorem dL_law_355 : decode cL_law 355 = .ok (.invokevirtual 44, 3) := by decide +kernel
theorem dL_law_358 : decode cL_law 358 = .ok (.if_icmp .eq 402, 3) := by decide +kernel
theorem dL_law_361 : decode cL_law 361 = .ok (.iconst 0, 1) := by decide +kernel
theorem dL_law_362 : decode cL_law 362 = .ok (.ireturn, 1) := by decide +kernel
theorem dL_law_363 : decode cL_law 363 = .ok (.aload_n 1, 1) := by decide +kernel
theorem dL_law_364 : decode cL_law 364 = .ok (.aload_n 0, 1) := by decide +kernel
theorem dL_law_365 : decode cL_law 365 = .ok (.iload_n 3, 1) := by decide +kernel
theorem dL_law_366 : decode cL_law 366 = .ok (.iconst 1, 1) := by decide +kernel
theorem dL_law_367 : decode cL_law 367 = .ok (.iadd, 1) := by decide +kernel
theorem dL_law_368 : decode cL_law 368 = .ok (.iaload, 1) := by decide +kernel
theorem dL_law_369 : decode cL_law 369 = .ok (.invokevirtual 45, 3) := by decide +kernel
theorem dL_law_372 : decode cL_law 372 = .ok (.aload_n 2, 1) := by decide +kernel
theorem dL_law_373 : decode cL_law 373 = .ok (.aload_n 0, 1) := by decide +kernel
theorem dL_law_374 : decode cL_law 374 = .ok (.iload_n 3, 1) := by decide +kernel
theorem dL_law_375 : decode cL_law 375 = .ok (.iconst 1, 1) := by decide +kernel
theorem dL_law_376 : decode cL_law 376 = .ok (.iadd, 1) := by decide +kernel
theorem dL_law_377 : decode cL_law 377 = .ok (.iaload, 1) := by decide +kernel
theorem dL_law_378 : decode cL_law 378 = .ok (.invokevirtual 48, 3) := by decide +kernel
theorem dL_law_381 : decode cL_law 381 = .ok (.if_icmp .eq 379, 3) := by decide +kernel
theorem dL_law_384 : decode cL_law 384 = .ok (.iconst 0, 1) := by decide +kernel
theorem dL_law_385 : decode cL_law 385 = .ok (.ireturn, 1) := by decide +kernel
theorem dL_law_386 : decode cL_law 386 = .ok (.aload_n 1, 1) := by decide +kernel
theorem dL_law_387 : decode cL_law 387 = .ok (.aload_n 0, 1) := by decide +kernel
theorem dL_law_388 : decode cL_law 388 = .ok (.iload_n 3, 1) := by decide +kernel
theorem dL_law_389 : decode cL_law 389 = .ok (.iconst 1, 1) := by decide +kernel
theorem dL_law_390 : decode cL_law 390 = .ok (.iadd, 1) := by decide +kernel
theorem dL_law_391 : decode cL_law 391 = .ok (.iaload, 1) := by decide +kernel
theorem dL_law_392 : decode cL_law 392 = .ok (.aload_n 0, 1) := by decide +kernel
theorem dL_law_393 : decode cL_law 393 = .ok (.iload_n 3, 1) := by decide +kernel
theorem dL_law_394 : decode cL_law 394 = .ok (.iconst 2, 1) := by decide +kernel
theorem dL_law_395 : decode cL_law 395 = .ok (.iadd, 1) := by decide +kernel
theorem dL_law_396 : decode cL_law 396 = .ok (.iaload, 1) := by decide +kernel
theorem dL_law_397 : decode cL_law 397 = .ok (.aload_n 0, 1) := by decide +kernel
theorem dL_law_398 : decode cL_law 398 = .ok (.iload_n 3, 1) := by decide +kernel
theorem dL_law_399 : decode cL_law 399 = .ok (.iconst 3, 1) := by decide +kernel
theorem dL_law_400 : decode cL_law 400 = .ok (.iadd, 1) := by decide +kernel
theorem dL_law_401 : decode cL_law 401 = .ok (.iaload, 1) := by decide +kernel
theorem dL_law_402 : decode cL_law 402 = .ok (.invokevirtual 49, 3) := by decide +kernel
theorem dL_law_405 : decode cL_law 405 = .ok (.aload_n 2, 1) := by decide +kernel
theorem dL_law_406 : decode cL_law 406 = .ok (.aload_n 0, 1) := by decide +kernel
theorem dL_law_407 : decode cL_law 407 = .ok (.iload_n 3, 1) := by decide +kernel
theorem dL_law_408 : decode cL_law 408 = .ok (.iconst 1, 1) := by decide +kernel
theorem dL_law_409 : decode cL_law 409 = .ok (.iadd, 1) := by decide +kernel
theorem dL_law_410 : decode cL_law 410 = .ok (.iaload, 1) := by decide +kernel
theorem dL_law_411 : decode cL_law 411 = .ok (.aload_n 0, 1) := by decide +kernel
theorem dL_law_412 : decode cL_law 412 = .ok (.iload_n 3, 1) := by decide +kernel
theorem dL_law_413 : decode cL_law 413 = .ok (.iconst 2, 1) := by decide +kernel
theorem dL_law_414 : decode cL_law 414 = .ok (.iadd, 1) := by decide +kernel
theorem dL_law_415 : decode cL_law 415 = .ok (.iaload, 1) := by decide +kernel
theorem dL_law_416 : decode cL_law 416 = .ok (.aload_n 0, 1) := by decide +kernel
theorem dL_law_417 : decode cL_law 417 = .ok (.iload_n 3, 1) := by decide +kernel
theorem dL_law_418 : decode cL_law 418 = .ok (.iconst 3, 1) := by decide +kernel
theorem dL_law_419 : decode cL_law 419 = .ok (.iadd, 1) := by decide +kernel
theorem dL_law_420 : decode cL_law 420 = .ok (.iaload, 1) := by decide +kernel
theorem dL_law_421 : decode cL_law 421 = .ok (.invokevirtual 53, 3) := by decide +kernel
theorem dL_law_424 : decode cL_law 424 = .ok (.if_icmp .eq 336, 3) := by decide +kernel
theorem dL_law_427 : decode cL_law 427 = .ok (.iconst 0, 1) := by decide +kernel
theorem dL_law_428 : decode cL_law 428 = .ok (.ireturn, 1) := by decide +kernel
theorem dL_law_429 : decode cL_law 429 = .ok (.aload_n 1, 1) := by decide +kernel
theorem dL_law_430 : decode cL_law 430 = .ok (.invokevirtual 54, 3) := by decide +kernel
theorem dL_law_433 : decode cL_law 433 = .ok (.aload_n 2, 1) := by decide +kernel
theorem dL_law_434 : decode cL_law 434 = .ok (.invokevirtual 57, 3) := by decide +kernel
theorem dL_law_437 : decode cL_law 437 = .ok (.if_icmp .eq 323, 3) := by decide +kernel
theorem dL_law_440 : decode cL_law 440 = .ok (.iconst 0, 1) := by decide +kernel
theorem dL_law_441 : decode cL_law 441 = .ok (.ireturn, 1) := by decide +kernel
theorem dL_law_442 : decode cL_law 442 = .ok (.aload_n 1, 1) := by decide +kernel
theorem dL_law_443 : decode cL_law 443 = .ok (.aload_n 0, 1) := by decide +kernel
theorem dL_law_444 : decode cL_law 444 = .ok (.iload_n 3, 1) := by decide +kernel
theorem dL_law_445 : decode cL_law 445 = .ok (.iconst 1, 1) := by decide +kernel
theorem dL_law_446 : decode cL_law 446 = .ok (.iadd, 1) := by decide +kernel
theorem dL_law_447 : decode cL_law 447 = .ok (.iaload, 1) := by decide +kernel
theorem dL_law_448 : decode cL_law 448 = .ok (.invokevirtual 58, 3) := by decide +kernel
theorem dL_law_451 : decode cL_law 451 = .ok (.aload_n 2, 1) := by decide +kernel
theorem dL_law_452 : decode cL_law 452 = .ok (.aload_n 0, 1) := by decide +kernel
theorem dL_law_453 : decode cL_law 453 = .ok (.iload_n 3, 1) := by decide +kernel
theorem dL_law_454 : decode cL_law 454 = .ok (.iconst 1, 1) := by decide +kernel
theorem dL_law_455 : decode cL_law 455 = .ok (.iadd, 1) := by decide +kernel
theorem dL_law_456 : decode cL_law 456 = .ok (.iaload, 1) := by decide +kernel
theorem dL_law_457 : decode cL_law 457 = .ok (.invokevirtual 61, 3) := by decide +kernel
theorem dL_law_460 : decode cL_law 460 = .ok (.if_icmp .eq 300, 3) := by decide +kernel
theorem dL_law_463 : decode cL_law 463 = .ok (.iconst 0, 1) := by decide +kernel
theorem dL_law_464 : decode cL_law 464 = .ok (.ireturn, 1) := by decide +kernel
theorem dL_law_465 : decode cL_law 465 = .ok (.aload_n 1, 1) := by decide +kernel
theorem dL_law_466 : decode cL_law 466 = .ok (.aload_n 0, 1) := by decide +kernel
theorem dL_law_467 : decode cL_law 467 = .ok (.iload_n 3, 1) := by decide +kernel
theorem dL_law_468 : decode cL_law 468 = .ok (.iconst 1, 1) := by decide +kernel
theorem dL_law_469 : decode cL_law 469 = .ok (.iadd, 1) := by decide +kernel
theorem dL_law_470 : decode cL_law 470 = .ok (.iaload, 1) := by decide +kernel
theorem dL_law_471 : decode cL_law 471 = .ok (.aload_n 0, 1) := by decide +kernel
theorem dL_law_472 : decode cL_law 472 = .ok (.iload_n 3, 1) := by decide +kernel
theorem dL_law_473 : decode cL_law 473 = .ok (.iconst 2, 1) := by decide +kernel
theorem dL_law_474 : decode cL_law 474 = .ok (.iadd, 1) := by decide +kernel
theorem dL_law_475 : decode cL_law 475 = .ok (.iaload, 1) := by decide +kernel
theorem dL_law_476 : decode cL_law 476 = .ok (.invokevirtual 62, 3) := by decide +kernel
theorem dL_law_479 : decode cL_law 479 = .ok (.aload_n 2, 1) := by decide +kernel
theorem dL_law_480 : decode cL_law 480 = .ok (.aload_n 0, 1) := by decide +kernel
theorem dL_law_481 : decode cL_law 481 = .ok (.iload_n 3, 1) := by decide +kernel
theorem dL_law_482 : decode cL_law 482 = .ok (.iconst 1, 1) := by decide +kernel
theorem dL_law_483 : decode cL_law 483 = .ok (.iadd, 1) := by decide +kernel
theorem dL_law_484 : decode cL_law 484 = .ok (.iaload, 1) := by decide +kernel
theorem dL_law_485 : decode cL_law 485 = .ok (.aload_n 0, 1) := by decide +kernel
theorem dL_law_486 : decode cL_law 486 = .ok (.iload_n 3, 1) := by decide +kernel
theorem dL_law_487 : decode cL_law 487 = .ok (.iconst 2, 1) := by decide +kernel
theorem dL_law_488 : decode cL_law 488 = .ok (.iadd, 1) := by decide +kernel
theorem dL_law_489 : decode cL_law 489 = .ok (.iaload, 1) := by decide +kernel
theorem dL_law_490 : decode cL_law 490 = .ok (.invokevirtual 65, 3) := by decide +kernel
theorem dL_law_493 : decode cL_law 493 = .ok (.if_icmp .eq 267, 3) := by decide +kernel
theorem dL_law_496 : decode cL_law 496 = .ok (.iconst 0, 1) := by decide +kernel
theorem dL_law_497 : decode cL_law 497 = .ok (.ireturn, 1) := by decide +kernel
theorem dL_law_498 : decode cL_law 498 = .ok (.aload_n 1, 1) := by decide +kernel
theorem dL_law_499 : decode cL_law 499 = .ok (.aload_n 0, 1) := by decide +kernel
theorem dL_law_500 : decode cL_law 500 = .ok (.iload_n 3, 1) := by decide +kernel
theorem dL_law_501 : decode cL_law 501 = .ok (.iconst 1, 1) := by decide +kernel
theorem dL_law_502 : decode cL_law 502 = .ok (.iadd, 1) := by decide +kernel
theorem dL_law_503 : decode cL_law 503 = .ok (.iaload, 1) := by decide +kernel
theorem dL_law_504 : decode cL_law 504 = .ok (.invokevirtual 66, 3) := by decide +kernel
theorem dL_law_507 : decode cL_law 507 = .ok (.aload_n 2, 1) := by decide +kernel
theorem dL_law_508 : decode cL_law 508 = .ok (.aload_n 0, 1) := by decide +kernel
theorem dL_law_509 : decode cL_law 509 = .ok (.iload_n 3, 1) := by decide +kernel
theorem dL_law_510 : decode cL_law 510 = .ok (.iconst 1, 1) := by decide +kernel
theorem dL_law_511 : decode cL_law 511 = .ok (.iadd, 1) := by decide +kernel
theorem dL_law_512 : decode cL_law 512 = .ok (.iaload, 1) := by decide +kernel
theorem dL_law_513 : decode cL_law 513 = .ok (.invokevirtual 69, 3) := by decide +kernel
theorem dL_law_516 : decode cL_law 516 = .ok (.if_icmp .eq 244, 3) := by decide +kernel
theorem dL_law_519 : decode cL_law 519 = .ok (.iconst 0, 1) := by decide +kernel
theorem dL_law_520 : decode cL_law 520 = .ok (.ireturn, 1) := by decide +kernel
theorem dL_law_521 : decode cL_law 521 = .ok (.aload_n 1, 1) := by decide +kernel
theorem dL_law_522 : decode cL_law 522 = .ok (.invokevirtual 70, 3) := by decide +kernel
theorem dL_law_525 : decode cL_law 525 = .ok (.aload_n 2, 1) := by decide +kernel
theorem dL_law_526 : decode cL_law 526 = .ok (.invokevirtual 73, 3) := by decide +kernel
theorem dL_law_529 : decode cL_law 529 = .ok (.if_icmp .eq 231, 3) := by decide +kernel
theorem dL_law_532 : decode cL_law 532 = .ok (.iconst 0, 1) := by decide +kernel
theorem dL_law_533 : decode cL_law 533 = .ok (.ireturn, 1) := by decide +kernel
theorem dL_law_534 : decode cL_law 534 = .ok (.aload_n 1, 1) := by decide +kernel
theorem dL_law_535 : decode cL_law 535 = .ok (.aload_n 0, 1) := by decide +kernel
theorem dL_law_536 : decode cL_law 536 = .ok (.iload_n 3, 1) := by decide +kernel
theorem dL_law_537 : decode cL_law 537 = .ok (.iconst 1, 1) := by decide +kernel
theorem dL_law_538 : decode cL_law 538 = .ok (.iadd, 1) := by decide +kernel
theorem dL_law_539 : decode cL_law 539 = .ok (.iaload, 1) := by decide +kernel
theorem dL_law_540 : decode cL_law 540 = .ok (.invokevirtual 74, 3) := by decide +kernel
theorem dL_law_543 : decode cL_law 543 = .ok (.aload_n 2, 1) := by decide +kernel
theorem dL_law_544 : decode cL_law 544 = .ok (.aload_n 0, 1) := by decide +kernel
theorem dL_law_545 : decode cL_law 545 = .ok (.iload_n 3, 1) := by decide +kernel
theorem dL_law_546 : decode cL_law 546 = .ok (.iconst 1, 1) := by decide +kernel
theorem dL_law_547 : decode cL_law 547 = .ok (.iadd, 1) := by decide +kernel
theorem dL_law_548 : decode cL_law 548 = .ok (.iaload, 1) := by decide +kernel
theorem dL_law_549 : decode cL_law 549 = .ok (.invokevirtual 77, 3) := by decide +kernel
theorem dL_law_552 : decode cL_law 552 = .ok (.if_icmp .eq 208, 3) := by decide +kernel
theorem dL_law_555 : decode cL_law 555 = .ok (.iconst 0, 1) := by decide +kernel
theorem dL_law_556 : decode cL_law 556 = .ok (.ireturn, 1) := by decide +kernel
theorem dL_law_557 : decode cL_law 557 = .ok (.aload_n 1, 1) := by decide +kernel
theorem dL_law_558 : decode cL_law 558 = .ok (.aload_n 0, 1) := by decide +kernel
theorem dL_law_559 : decode cL_law 559 = .ok (.iload_n 3, 1) := by decide +kernel
theorem dL_law_560 : decode cL_law 560 = .ok (.iconst 1, 1) := by decide +kernel
theorem dL_law_561 : decode cL_law 561 = .ok (.iadd, 1) := by decide +kernel
theorem dL_law_562 : decode cL_law 562 = .ok (.iaload, 1) := by decide +kernel
theorem dL_law_563 : decode cL_law 563 = .ok (.invokevirtual 78, 3) := by decide +kernel
theorem dL_law_566 : decode cL_law 566 = .ok (.aload_n 2, 1) := by decide +kernel
theorem dL_law_567 : decode cL_law 567 = .ok (.aload_n 0, 1) := by decide +kernel
theorem dL_law_568 : decode cL_law 568 = .ok (.iload_n 3, 1) := by decide +kernel
theorem dL_law_569 : decode cL_law 569 = .ok (.iconst 1, 1) := by decide +kernel
theorem dL_law_570 : decode cL_law 570 = .ok (.iadd, 1) := by decide +kernel
theorem dL_law_571 : decode cL_law 571 = .ok (.iaload, 1) := by decide +kernel
theorem dL_law_572 : decode cL_law 572 = .ok (.invokevirtual 81, 3) := by decide +kernel
theorem dL_law_575 : decode cL_law 575 = .ok (.if_icmp .eq 185, 3) := by decide +kernel
theorem dL_law_578 : decode cL_law 578 = .ok (.iconst 0, 1) := by decide +kernel
theorem dL_law_579 : decode cL_law 579 = .ok (.ireturn, 1) := by decide +kernel
theorem dL_law_580 : decode cL_law 580 = .ok (.aload_n 1, 1) := by decide +kernel
theorem dL_law_581 : decode cL_law 581 = .ok (.aload_n 0, 1) := by decide +kernel
theorem dL_law_582 : decode cL_law 582 = .ok (.iload_n 3, 1) := by decide +kernel
theorem dL_law_583 : decode cL_law 583 = .ok (.iconst 1, 1) := by decide +kernel
theorem dL_law_584 : decode cL_law 584 = .ok (.iadd, 1) := by decide +kernel
theorem dL_law_585 : decode cL_law 585 = .ok (.iaload, 1) := by decide +kernel
theorem dL_law_586 : decode cL_law 586 = .ok (.invokevirtual 82, 3) := by decide +kernel
theorem dL_law_589 : decode cL_law 589 = .ok (.aload_n 2, 1) := by decide +kernel
theorem dL_law_590 : decode cL_law 590 = .ok (.aload_n 0, 1) := by decide +kernel
theorem dL_law_591 : decode cL_law 591 = .ok (.iload_n 3, 1) := by decide +kernel
theorem dL_law_592 : decode cL_law 592 = .ok (.iconst 1, 1) := by decide +kernel
theorem dL_law_593 : decode cL_law 593 = .ok (.iadd, 1) := by decide +kernel
theorem dL_law_594 : decode cL_law 594 = .ok (.iaload, 1) := by decide +kernel
theorem dL_law_595 : decode cL_law 595 = .ok (.invokevirtual 85, 3) := by decide +kernel
theorem dL_law_598 : decode cL_law 598 = .ok (.if_icmp .eq 162, 3) := by decide +kernel
theorem dL_law_601 : decode cL_law 601 = .ok (.iconst 0, 1) := by decide +kernel
theorem dL_law_602 : decode cL_law 602 = .ok (.ireturn, 1) := by decide +kernel
theorem dL_law_603 : decode cL_law 603 = .ok (.aload_n 1, 1) := by decide +kernel
theorem dL_law_604 : decode cL_law 604 = .ok (.invokevirtual 86, 3) := by decide +kernel
theorem dL_law_607 : decode cL_law 607 = .ok (.aload_n 2, 1) := by decide +kernel
theorem dL_law_608 : decode cL_law 608 = .ok (.invokevirtual 89, 3) := by decide +kernel
theorem dL_law_611 : decode cL_law 611 = .ok (.if_icmp .eq 149, 3) := by decide +kernel
theorem dL_law_614 : decode cL_law 614 = .ok (.iconst 0, 1) := by decide +kernel
theorem dL_law_615 : decode cL_law 615 = .ok (.ireturn, 1) := by decide +kernel
theorem dL_law_616 : decode cL_law 616 = .ok (.aload_n 1, 1) := by decide +kernel
theorem dL_law_617 : decode cL_law 617 = .ok (.aload_n 0, 1) := by decide +kernel
theorem dL_law_618 : decode cL_law 618 = .ok (.iload_n 3, 1) := by decide +kernel
theorem dL_law_619 : decode cL_law 619 = .ok (.iconst 1, 1) := by decide +kernel
theorem dL_law_620 : decode cL_law 620 = .ok (.iadd, 1) := by decide +kernel
theorem dL_law_621 : decode cL_law 621 = .ok (.iaload, 1) := by decide +kernel
theorem dL_law_622 : decode cL_law 622 = .ok (.invokevirtual 90, 3) := by decide +kernel
theorem dL_law_625 : decode cL_law 625 = .ok (.aload_n 2, 1) := by decide +kernel
theorem dL_law_626 : decode cL_law 626 = .ok (.aload_n 0, 1) := by decide +kernel
theorem dL_law_627 : decode cL_law 627 = .ok (.iload_n 3, 1) := by decide +kernel
theorem dL_law_628 : decode cL_law 628 = .ok (.iconst 1, 1) := by decide +kernel
theorem dL_law_629 : decode cL_law 629 = .ok (.iadd, 1) := by decide +kernel
theorem dL_law_630 : decode cL_law 630 = .ok (.iaload, 1) := by decide +kernel
theorem dL_law_631 : decode cL_law 631 = .ok (.invokevirtual 93, 3) := by decide +kernel
theorem dL_law_634 : decode cL_law 634 = .ok (.if_icmp .eq 126, 3) := by decide +kernel
theorem dL_law_637 : decode cL_law 637 = .ok (.iconst 0, 1) := by decide +kernel
theorem dL_law_638 : decode cL_law 638 = .ok (.ireturn, 1) := by decide +kernel
theorem dL_law_639 : decode cL_law 639 = .ok (.aload_n 1, 1) := by decide +kernel
theorem dL_law_640 : decode cL_law 640 = .ok (.aload_n 0, 1) := by decide +kernel
theorem dL_law_641 : decode cL_law 641 = .ok (.iload_n 3, 1) := by decide +kernel
theorem dL_law_642 : decode cL_law 642 = .ok (.iconst 1, 1) := by decide +kernel
theorem dL_law_643 : decode cL_law 643 = .ok (.iadd, 1) := by decide +kernel
theorem dL_law_644 : decode cL_law 644 = .ok (.iaload, 1) := by decide +kernel
theorem dL_law_645 : decode cL_law 645 = .ok (.invokevirtual 94, 3) := by decide +kernel
theorem dL_law_648 : decode cL_law 648 = .ok (.aload_n 2, 1) := by decide +kernel
theorem dL_law_649 : decode cL_law 649 = .ok (.aload_n 0, 1) := by decide +kernel
theorem dL_law_650 : decode cL_law 650 = .ok (.iload_n 3, 1) := by decide +kernel
theorem dL_law_651 : decode cL_law 651 = .ok (.iconst 1, 1) := by decide +kernel
theorem dL_law_652 : decode cL_law 652 = .ok (.iadd, 1) := by decide +kernel
theorem dL_law_653 : decode cL_law 653 = .ok (.iaload, 1) := by decide +kernel
theorem dL_law_654 : decode cL_law 654 = .ok (.invokevirtual 97, 3) := by decide +kernel
theorem dL_law_657 : decode cL_law 657 = .ok (.if_icmp .eq 103, 3) := by decide +kernel
theorem dL_law_660 : decode cL_law 660 = .ok (.iconst 0, 1) := by decide +kernel
theorem dL_law_661 : decode cL_law 661 = .ok (.ireturn, 1) := by decide +kernel
theorem dL_law_662 : decode cL_law 662 = .ok (.aload_n 1, 1) := by decide +kernel
theorem dL_law_663 : decode cL_law 663 = .ok (.aload_n 0, 1) := by decide +kernel
theorem dL_law_664 : decode cL_law 664 = .ok (.iload_n 3, 1) := by decide +kernel
theorem dL_law_665 : decode cL_law 665 = .ok (.iconst 1, 1) := by decide +kernel
theorem dL_law_666 : decode cL_law 666 = .ok (.iadd, 1) := by decide +kernel
theorem dL_law_667 : decode cL_law 667 = .ok (.iaload, 1) := by decide +kernel
theorem dL_law_668 : decode cL_law 668 = .ok (.invokevirtual 98, 3) := by decide +kernel
theorem dL_law_671 : decode cL_law 671 = .ok (.aload_n 2, 1) := by decide +kernel
theorem dL_law_672 : decode cL_law 672 = .ok (.aload_n 0, 1) := by decide +kernel
theorem dL_law_673 : decode cL_law 673 = .ok (.iload_n 3, 1) := by decide +kernel
theorem dL_law_674 : decode cL_law 674 = .ok (.iconst 1, 1) := by decide +kernel
theorem dL_law_675 : decode cL_law 675 = .ok (.iadd, 1) := by decide +kernel
theorem dL_law_676 : decode cL_law 676 = .ok (.iaload, 1) := by decide +kernel
theorem dL_law_677 : decode cL_law 677 = .ok (.invokevirtual 101, 3) := by decide +kernel
theorem dL_law_680 : decode cL_law 680 = .ok (.if_icmp .eq 80, 3) := by decide +kernel
theorem dL_law_683 : decode cL_law 683 = .ok (.iconst 0, 1) := by decide +kernel
theorem dL_law_684 : decode cL_law 684 = .ok (.ireturn, 1) := by decide +kernel
theorem dL_law_685 : decode cL_law 685 = .ok (.aload_n 1, 1) := by decide +kernel
theorem dL_law_686 : decode cL_law 686 = .ok (.invokevirtual 102, 3) := by decide +kernel
theorem dL_law_689 : decode cL_law 689 = .ok (.aload_n 2, 1) := by decide +kernel
theorem dL_law_690 : decode cL_law 690 = .ok (.invokevirtual 105, 3) := by decide +kernel
theorem dL_law_693 : decode cL_law 693 = .ok (.if_icmp .eq 67, 3) := by decide +kernel
theorem dL_law_696 : decode cL_law 696 = .ok (.iconst 0, 1) := by decide +kernel
theorem dL_law_697 : decode cL_law 697 = .ok (.ireturn, 1) := by decide +kernel
theorem dL_law_698 : decode cL_law 698 = .ok (.aload_n 1, 1) := by decide +kernel
theorem dL_law_699 : decode cL_law 699 = .ok (.aload_n 0, 1) := by decide +kernel
theorem dL_law_700 : decode cL_law 700 = .ok (.iload_n 3, 1) := by decide +kernel
theorem dL_law_701 : decode cL_law 701 = .ok (.iconst 1, 1) := by decide +kernel
theorem dL_law_702 : decode cL_law 702 = .ok (.iadd, 1) := by decide +kernel
theorem dL_law_703 : decode cL_law 703 = .ok (.iaload, 1) := by decide +kernel
theorem dL_law_704 : decode cL_law 704 = .ok (.invokevirtual 106, 3) := by decide +kernel
theorem dL_law_707 : decode cL_law 707 = .ok (.aload_n 2, 1) := by decide +kernel
theorem dL_law_708 : decode cL_law 708 = .ok (.aload_n 0, 1) := by decide +kernel
theorem dL_law_709 : decode cL_law 709 = .ok (.iload_n 3, 1) := by decide +kernel
theorem dL_law_710 : decode cL_law 710 = .ok (.iconst 1, 1) := by decide +kernel
theorem dL_law_711 : decode cL_law 711 = .ok (.iadd, 1) := by decide +kernel
theorem dL_law_712 : decode cL_law 712 = .ok (.iaload, 1) := by decide +kernel
theorem dL_law_713 : decode cL_law 713 = .ok (.invokevirtual 109, 3) := by decide +kernel
theorem dL_law_716 : decode cL_law 716 = .ok (.if_icmp .eq 44, 3) := by decide +kernel
theorem dL_law_719 : decode cL_law 719 = .ok (.iconst 0, 1) := by decide +kernel
theorem dL_law_720 : decode cL_law 720 = .ok (.ireturn, 1) := by decide +kernel
theorem dL_law_721 : decode cL_law 721 = .ok (.aload_n 1, 1) := by decide +kernel
theorem dL_law_722 : decode cL_law 722 = .ok (.invokevirtual 110, 3) := by decide +kernel
theorem dL_law_725 : decode cL_law 725 = .ok (.aload_n 2, 1) := by decide +kernel
theorem dL_law_726 : decode cL_law 726 = .ok (.invokevirtual 113, 3) := by decide +kernel
theorem dL_law_729 : decode cL_law 729 = .ok (.if_icmp .eq 31, 3) := by decide +kernel
theorem dL_law_732 : decode cL_law 732 = .ok (.iconst 0, 1) := by decide +kernel
theorem dL_law_733 : decode cL_law 733 = .ok (.ireturn, 1) := by decide +kernel
theorem dL_law_734 : decode cL_law 734 = .ok (.aload_n 1, 1) := by decide +kernel
theorem dL_law_735 : decode cL_law 735 = .ok (.invokevirtual 114, 3) := by decide +kernel
theorem dL_law_738 : decode cL_law 738 = .ok (.aload_n 2, 1) := by decide +kernel
theorem dL_law_739 : decode cL_law 739 = .ok (.invokevirtual 117, 3) := by decide +kernel
theorem dL_law_742 : decode cL_law 742 = .ok (.if_icmp .eq 18, 3) := by decide +kernel
theorem dL_law_745 : decode cL_law 745 = .ok (.iconst 0, 1) := by decide +kernel
theorem dL_law_746 : decode cL_law 746 = .ok (.ireturn, 1) := by decide +kernel
theorem dL_law_747 : decode cL_law 747 = .ok (.aload_n 1, 1) := by decide +kernel
theorem dL_law_748 : decode cL_law 748 = .ok (.invokevirtual 118, 3) := by decide +kernel
theorem dL_law_751 : decode cL_law 751 = .ok (.aload_n 2, 1) := by decide +kernel
theorem dL_law_752 : decode cL_law 752 = .ok (.invokevirtual 121, 3) := by decide +kernel
theorem dL_law_755 : decode cL_law 755 = .ok (.if_icmp .eq 5, 3) := by decide +kernel
theorem dL_law_758 : decode cL_law 758 = .ok (.iconst 0, 1) := by decide +kernel
theorem dL_law_759 : decode cL_law 759 = .ok (.ireturn, 1) := by decide +kernel
theorem dL_law_760 : decode cL_law 760 = .ok (.iinc 3 5, 3) := by decide +kernel
theorem dL_law_763 : decode cL_law 763 = .ok (.goto (-745), 3) := by decide +kernel
theorem dL_law_766 : decode cL_law 766 = .ok (.iconst 1, 1) := by decide +kernel
theorem dL_law_767 : decode cL_law 767 = .ok (.ireturn, 1) := by decide +kernel
end
section
/-! numbers: every int of the machine is written Int32.ofInt z, every long Int64.ofInt z -/
abbrev iV (z : Int) : Value := .int (Int32.ofInt z)
abbrev jV (z : Int) : Value := .long (Int64.ofInt z)
abbrev R32 (a : Int) : Prop := -2147483648 ≤ a ∧ a < 2147483648
abbrev R64 (a : Int) : Prop := -9223372036854775808 ≤ a ∧ a < 9223372036854775808
theorem gi_bm {z : Int} (h : R32 z) : z.bmod (2 ^ 32) = z := by
  obtain ⟨h1, h2⟩ := h
  rw [Int.bmod_eq_of_le (by omega) (by omega)]
theorem gj_bm {z : Int} (h : R64 z) : z.bmod (2 ^ 64) = z := by
  obtain ⟨h1, h2⟩ := h
  rw [Int.bmod_eq_of_le (by omega) (by omega)]
theorem gi_ti {z : Int} (h : R32 z) : (Int32.ofInt z).toInt = z := by rw [Int32.toInt_ofInt, gi_bm h]
theorem gj_ti {z : Int} (h : R64 z) : (Int64.ofInt z).toInt = z := by rw [Int64.toInt_ofInt, gj_bm h]
theorem gi_lt {a b : Int} (ha : R32 a) (hb : R32 b) : Int32.ofInt a < Int32.ofInt b ↔ a < b := by rw [Int32.lt_iff_toInt_lt, gi_ti ha, gi_ti hb]
theorem gi_le {a b : Int} (ha : R32 a) (hb : R32 b) : Int32.ofInt a ≤ Int32.ofInt b ↔ a ≤ b := by rw [Int32.le_iff_toInt_le, gi_ti ha, gi_ti hb]
theorem gi_eq {a b : Int} (ha : R32 a) (hb : R32 b) : Int32.ofInt a = Int32.ofInt b ↔ a = b := by rw [← Int32.toInt_inj, gi_ti ha, gi_ti hb]
theorem gj_lt {a b : Int} (ha : R64 a) (hb : R64 b) : Int64.ofInt a < Int64.ofInt b ↔ a < b := by rw [Int64.lt_iff_toInt_lt, gj_ti ha, gj_ti hb]
theorem gj_eq {a b : Int} (ha : R64 a) (hb : R64 b) : Int64.ofInt a = Int64.ofInt b ↔ a = b := by rw [← Int64.toInt_inj, gj_ti ha, gj_ti hb]
theorem gi_add (a b : Int) : Int32.ofInt a + Int32.ofInt b = Int32.ofInt (a + b) := by first | exact (Int32.ofInt_add a b).symm | (apply Int32.toInt_inj.1; simp)
theorem gi_sub (a b : Int) : Int32.ofInt a - Int32.ofInt b = Int32.ofInt (a - b) := by first | exact (Int32.ofInt_sub a b).symm | (apply Int32.toInt_inj.1; simp)
theorem gi_mul (a b : Int) : Int32.ofInt a * Int32.ofInt b = Int32.ofInt (a * b) := by first | exact (Int32.ofInt_mul a b).symm | (apply Int32.toInt_inj.1; simp)
theorem gi_neg (a : Int) : -Int32.ofInt a = Int32.ofInt (-a) := by first | exact (Int32.ofInt_neg a).symm | (apply Int32.toInt_inj.1; simp)
theorem gj_add (a b : Int) : Int64.ofInt a + Int64.ofInt b = Int64.ofInt (a + b) := by first | exact (Int64.ofInt_add a b).symm | (apply Int64.toInt_inj.1; simp)
theorem gj_mul (a b : Int) : Int64.ofInt a * Int64.ofInt b = Int64.ofInt (a * b) := by first | exact (Int64.ofInt_mul a b).symm | (apply Int64.toInt_inj.1; simp)
theorem gi_nat (n : Nat) : Int32.ofInt (n : Int) = nI n := by first | exact Int32.ofInt_eq_ofNat | rfl | (apply Int32.toBitVec_inj.1; simp [nI])
theorem gj_nat (n : Nat) : Int64.ofInt (n : Int) = lN n := by first | exact Int64.ofInt_eq_ofNat | rfl | (apply Int64.toBitVec_inj.1; simp [lN])
theorem gi_cl {k : Nat} (h : k < 2147483648) : (Int32.ofInt (k : Int)).toNatClampNeg = k := by rw [gi_nat]; exact nI_clamp (by omega)
theorem gi_in {k n : Nat} (h : k < n) (hn : n < 2147483648) : vp_in (Int32.ofInt (k : Int)) n := by rw [gi_nat]; exact vp_in_nI h (by omega)
theorem gi_of (x : Int32) : ∃ z : Int, R32 z ∧ x = Int32.ofInt z := ⟨x.toInt, ⟨by have := Int32.le_toInt x; omega, by have := Int32.toInt_lt x; omega⟩, (Int32.ofInt_toInt x).symm⟩
theorem gi_div {a b : Nat} (ha : a < 2147483648) (h0 : 0 < b) (hb : b < 2147483648) : Int32.ofInt (a : Int) / Int32.ofInt (b : Int) = Int32.ofInt ((a / b : Nat) : Int) := by
  rw [gi_nat, gi_nat, gi_nat, pk_div (by omega) h0 (by omega)]
theorem gi_rem {a b : Nat} (ha : a < 2147483648) (h0 : 0 < b) (hb : b < 2147483648) : Int32.ofInt (a : Int) - Int32.ofInt (a : Int) / Int32.ofInt (b : Int) * Int32.ofInt (b : Int) = Int32.ofInt ((a % b : Nat) : Int) := by
  rw [gi_nat, gi_nat, gi_nat, pk_rem (by omega) h0 (by omega)]
theorem gi_z0 {a : Int} (ha : R32 a) : Int32.ofInt a = 0 ↔ a = 0 := by
  rw [show (0 : Int32) = Int32.ofInt 0 from rfl, gi_eq ha ⟨by omega, by omega⟩]
theorem gi_zl {a : Int} (ha : R32 a) : Int32.ofInt a < 0 ↔ a < 0 := by
  rw [show (0 : Int32) = Int32.ofInt 0 from rfl, gi_lt ha ⟨by omega, by omega⟩]
theorem gi_zg {a : Int} (ha : R32 a) : 0 < Int32.ofInt a ↔ 0 < a := by
  rw [show (0 : Int32) = Int32.ofInt 0 from rfl, gi_lt ⟨by omega, by omega⟩ ha]
theorem gi_zle {a : Int} (ha : R32 a) : Int32.ofInt a ≤ 0 ↔ a ≤ 0 := by
  rw [show (0 : Int32) = Int32.ofInt 0 from rfl, gi_le ha ⟨by omega, by omega⟩]
theorem gi_zge {a : Int} (ha : R32 a) : 0 ≤ Int32.ofInt a ↔ 0 ≤ a := by
  rw [show (0 : Int32) = Int32.ofInt 0 from rfl, gi_le ⟨by omega, by omega⟩ ha]
/-! the state: variable, place -/
abbrev gS : Type := Nat → Nat → Int
def upS (S : gS) (v j : Nat) (z : Int) : gS := fun a b => cond (Nat.beq a v) (cond (Nat.beq b j) z (S a b)) (S a b)
theorem upS_eq (S : gS) (v j : Nat) (z : Int) : upS S v j z v j = z := by simp [upS]
theorem upS_v (S : gS) {v j a b : Nat} (z : Int) (h : a ≠ v) : upS S v j z a b = S a b := by
  have h1 : Nat.beq a v = false := by cases q : Nat.beq a v with | false => rfl | true => exact absurd (Nat.eq_of_beq_eq_true q) h
  simp [upS, h1]
theorem upS_j (S : gS) {v j a b : Nat} (z : Int) (h : b ≠ j) : upS S v j z a b = S a b := by
  have h1 : Nat.beq b j = false := by cases q : Nat.beq b j with | false => rfl | true => exact absurd (Nat.eq_of_beq_eq_true q) h
  simp [upS, h1]
theorem upS_if (S : gS) (v j a b : Nat) (z : Int) : upS S v j z a b = if a = v ∧ b = j then z else S a b := by
  by_cases h1 : a = v
  · by_cases h2 : b = j
    · subst h1; subst h2; simp [upS]
    · rw [upS_j S z h2, if_neg (fun h => h2 h.2)]
  · rw [upS_v S z h1, if_neg (fun h => h1 h.1)]
/-! cells: an object (class, slots: 0 an int variable, 1 a long variable, 2 a cell), an array (type, length, variable) -/
abbrev gC : Type := (Nat × List (Nat × Nat)) ⊕ (Nat × Nat × Nat)
abbrev gE : Type := Launch × va_G × (Nat → ClassId) × (Nat → Nat)
def gad (E : gE) (k : Nat) : Nat := E.2.2.2 k
def g_sl (E : gE) (S : gS) (q : Nat × Nat) : Value := match q.1 with
  | 0 => iV (S q.2 0)
  | 1 => jV (S q.2 0)
  | _ => .ref (gad E q.2)
def g_row (t v : Nat) (S : gS) : (Nat → Int32) ⊕ (Nat → Int64) ⊕ (Nat → UInt32) ⊕ (Nat → UInt64) ⊕ (Nat → Option Nat) := cond (Nat.beq t 1) (.inr (.inl fun j => Int64.ofInt (S v j))) (.inl fun j => Int32.ofInt (S v j))
def g_el (E : gE) (S : gS) (c : gC) : va_E := match c with
  | .inl (ci, sl) => .inr (ci, sl.map (g_sl E S))
  | .inr (t, len, v) => .inl (E.2.2.1 t, len, g_row t v S)
def g_wl (E : gE) (S : gS) (lay : List gC) : va_W := lay.mapIdx fun k c => (gad E k, g_el E S c)
def g_vs (c : gC) : List Nat := match c with
  | .inl (_, sl) => (sl.filter fun q => Nat.ble q.1 1).map (·.2)
  | .inr (_, _, v) => [v]
/-- every variable has one place -/
def g_ok (lay : List gC) : Prop := (∀ (i j : Nat) (c d : gC) (v : Nat), lay[i]? = some c → lay[j]? = some d → v ∈ g_vs c → v ∈ g_vs d → i = j) ∧ ∀ (i : Nat) (ci : Nat) (sl : List (Nat × Nat)) (a b : Nat) (p q : Nat × Nat), lay[i]? = some (.inl (ci, sl)) → sl[a]? = some p → sl[b]? = some q → p.1 ≤ 1 → q.1 ≤ 1 → p.2 = q.2 → a = b
def g_okb (lay : List gC) : Bool :=
  ((List.range lay.length).all fun i => (List.range lay.length).all fun j => Nat.beq i j || ((g_vs (lay.getD i (.inr (0, 0, 0)))).all fun v => !((g_vs (lay.getD j (.inr (0, 0, 0)))).contains v))) &&
  ((List.range lay.length).all fun i => match lay.getD i (.inr (0, 0, 0)) with
    | .inl (_, sl) => (List.range sl.length).all fun a => (List.range sl.length).all fun b => Nat.beq a b || !(Nat.ble (sl.getD a (2, 0)).1 1 && Nat.ble (sl.getD b (2, 0)).1 1 && Nat.beq (sl.getD a (2, 0)).2 (sl.getD b (2, 0)).2)
    | .inr _ => true)
theorem g_ok_of {lay : List gC} (h : g_okb lay = true) : g_ok lay := by
  unfold g_okb at h
  rw [Bool.and_eq_true] at h
  obtain ⟨h1, h2⟩ := h
  constructor
  · intro i j c d v hi hj hc hd
    have li := (List.getElem?_eq_some_iff.mp hi).1
    have lj := (List.getElem?_eq_some_iff.mp hj).1
    have q := List.all_eq_true.mp (List.all_eq_true.mp h1 i (List.mem_range.mpr li)) j (List.mem_range.mpr lj)
    rw [List.getD_eq_getElem?_getD, List.getD_eq_getElem?_getD, hi, hj] at q
    simp only [Option.getD_some, Bool.or_eq_true, List.all_eq_true] at q
    rcases q with q | q
    · exact Nat.eq_of_beq_eq_true q
    · have q2 := q v hc
      simp [hd] at q2
  · intro i ci sl a b p q hi ha hb hp hq he
    have li := (List.getElem?_eq_some_iff.mp hi).1
    have la := (List.getElem?_eq_some_iff.mp ha).1
    have lb := (List.getElem?_eq_some_iff.mp hb).1
    have z := List.all_eq_true.mp h2 i (List.mem_range.mpr li)
    rw [List.getD_eq_getElem?_getD, hi] at z
    simp only [Option.getD_some] at z
    have z2 := List.all_eq_true.mp (List.all_eq_true.mp z a (List.mem_range.mpr la)) b (List.mem_range.mpr lb)
    rw [List.getD_eq_getElem?_getD, List.getD_eq_getElem?_getD, ha, hb] at z2
    simp only [Option.getD_some, Bool.or_eq_true] at z2
    rcases z2 with z2 | z2
    · exact Nat.eq_of_beq_eq_true z2
    · have e1 : Nat.ble p.1 1 = true := Nat.ble_eq_true_of_le hp
      have e2 : Nat.ble q.1 1 = true := Nat.ble_eq_true_of_le hq
      have e3 : Nat.beq p.2 q.2 = true := by rw [he]; simp
      rw [e1, e2, e3] at z2
      simp at z2
theorem g_wl_get {E : gE} {S : gS} {lay : List gC} {k : Nat} {c : gC} (h : lay[k]? = some c) : (g_wl E S lay)[k]? = some (gad E k, g_el E S c) := by
  unfold g_wl; rw [List.getElem?_mapIdx, h]; rfl
theorem g_el_up {E : gE} {S : gS} {c : gC} {v j : Nat} {z : Int} (h : v ∉ g_vs c) : g_el E (upS S v j z) c = g_el E S c := by
  obtain ⟨ci, sl⟩ | ⟨t, len, u⟩ := c
  · show (Sum.inr (ci, sl.map (g_sl E (upS S v j z))) : va_E) = .inr (ci, sl.map (g_sl E S))
    have : sl.map (g_sl E (upS S v j z)) = sl.map (g_sl E S) := by
      refine List.map_congr_left fun q hq => ?_
      obtain ⟨a, b⟩ := q
      have hn : a ≤ 1 → b ≠ v := fun ha e => h (by
        show v ∈ (sl.filter fun q => Nat.ble q.1 1).map (·.2)
        exact List.mem_map.mpr ⟨(a, b), List.mem_filter.mpr ⟨hq, Nat.ble_eq_true_of_le ha⟩, e⟩)
      match a, hn with
      | 0, hn => show iV _ = iV _; rw [upS_v S z (hn (by omega))]
      | 1, hn => show jV _ = jV _; rw [upS_v S z (hn (by omega))]
      | a + 2, hn => rfl
    rw [this]
  · have hn : u ≠ v := fun e => h (by show v ∈ [u]; simp [e])
    show (Sum.inl (E.2.2.1 t, len, g_row t u (upS S v j z)) : va_E) = .inl (E.2.2.1 t, len, g_row t u S)
    have e1 : (fun j' => Int32.ofInt (upS S v j z u j')) = fun j' => Int32.ofInt (S u j') := funext fun j' => by rw [upS_v S z hn]
    have e2 : (fun j' => Int64.ofInt (upS S v j z u j')) = fun j' => Int64.ofInt (S u j') := funext fun j' => by rw [upS_v S z hn]
    unfold g_row; rw [e1, e2]
/-- a write to one cell is a change of one variable -/
theorem g_wl_set {E : gE} {S : gS} {lay : List gC} {k v j : Nat} {z : Int} {c : gC} {e : va_E} (ho : g_ok lay) (h : lay[k]? = some c) (hv : v ∈ g_vs c) (he : g_el E (upS S v j z) c = e) : (g_wl E S lay).set k (gad E k, e) = g_wl E (upS S v j z) lay := by
  have hk := (List.getElem?_eq_some_iff.mp h).1
  apply List.ext_getElem?
  intro i
  by_cases hi : i = k
  · subst hi
    rw [List.getElem?_set_self (by unfold g_wl; simpa using hk), g_wl_get h, he]
  · rw [List.getElem?_set_ne (fun q => hi q.symm)]
    unfold g_wl
    rw [List.getElem?_mapIdx, List.getElem?_mapIdx]
    cases hc : lay[i]? with
    | none => rfl
    | some d =>
      have hn : v ∉ g_vs d := fun hd => hi (ho.1 i k d c v hc h hd hv)
      show some (gad E i, g_el E S d) = some (gad E i, g_el E (upS S v j z) d)
      rw [g_el_up hn]
theorem g_el_f {E : gE} {S : gS} {ci k t v : Nat} {sl : List (Nat × Nat)} {lay : List gC} {i : Nat} {z : Int} {x : Value} (ho : g_ok lay) (hl : lay[i]? = some (.inl (ci, sl))) (hk : sl[k]? = some (t, v)) (ht : t ≤ 1) (hx : g_sl E (upS S v 0 z) (t, v) = x) : g_el E (upS S v 0 z) (.inl (ci, sl)) = .inr (ci, (sl.map (g_sl E S)).set k x) := by
  show (Sum.inr (ci, sl.map (g_sl E (upS S v 0 z))) : va_E) = .inr (ci, (sl.map (g_sl E S)).set k x)
  have hkl := (List.getElem?_eq_some_iff.mp hk).1
  congr 2
  apply List.ext_getElem?
  intro a
  by_cases ha : a = k
  · subst ha
    rw [List.getElem?_set_self (by simpa using hkl), List.getElem?_map, hk, ← hx]; rfl
  · rw [List.getElem?_set_ne (fun q => ha q.symm), List.getElem?_map, List.getElem?_map]
    cases hq : sl[a]? with
    | none => rfl
    | some q =>
      obtain ⟨t2, u⟩ := q
      have hn : t2 ≤ 1 → u ≠ v := fun h1 e => ha (ho.2 i ci sl a k (t2, u) (t, v) hl hq hk h1 ht e)
      show some (g_sl E (upS S v 0 z) (t2, u)) = some (g_sl E S (t2, u))
      match t2, hn with
      | 0, hn => show some (iV _) = some (iV _); rw [upS_v S z (hn (by omega))]
      | 1, hn => show some (jV _) = some (jV _); rw [upS_v S z (hn (by omega))]
      | t2 + 2, hn => rfl
theorem g_mem_f {ci k t v : Nat} {sl : List (Nat × Nat)} (hk : sl[k]? = some (t, v)) (ht : t ≤ 1) : v ∈ g_vs (.inl (ci, sl)) := by
  show v ∈ (sl.filter fun q => Nat.ble q.1 1).map (·.2)
  exact List.mem_map.mpr ⟨(t, v), List.mem_filter.mpr ⟨List.mem_of_getElem? hk, Nat.ble_eq_true_of_le ht⟩, rfl⟩
theorem g_el_a {E : gE} {S : gS} {t len v k : Nat} {z : Int} (ht : Nat.beq t 1 = false) : g_el E (upS S v k z) (.inr (t, len, v)) = .inl (E.2.2.1 t, len, .inl (upd (fun j => Int32.ofInt (S v j)) k (Int32.ofInt z))) := by
  show (Sum.inl (E.2.2.1 t, len, g_row t v (upS S v k z)) : va_E) = _
  unfold g_row
  rw [ht]
  have e : (fun j => Int32.ofInt (upS S v k z v j)) = upd (fun j => Int32.ofInt (S v j)) k (Int32.ofInt z) := by
    funext j
    by_cases hj : j = k
    · subst hj; rw [upS_eq, pk_us]
    · rw [upS_j S z hj, pk_un hj]
  rw [e]; rfl
theorem g_el_l {E : gE} {S : gS} {len v k : Nat} {z : Int} : g_el E (upS S v k z) (.inr (1, len, v)) = .inl (E.2.2.1 1, len, .inr (.inl (vp_updL (fun j => Int64.ofInt (S v j)) k (Int64.ofInt z)))) := by
  show (Sum.inl (E.2.2.1 1, len, g_row 1 v (upS S v k z)) : va_E) = _
  have e : (fun j => Int64.ofInt (upS S v k z v j)) = vp_updL (fun j => Int64.ofInt (S v j)) k (Int64.ofInt z) := by
    funext j
    by_cases hj : j = k
    · subst hj; rw [upS_eq, pk_uLs]
    · rw [upS_j S z hj, pk_uLn hj]
  show (Sum.inl (E.2.2.1 1, len, Sum.inr (Sum.inl (fun j => Int64.ofInt (upS S v k z v j)))) : va_E) = _
  rw [e]
/-! the classes, the tables' words -/
abbrev gcl : List vw_C := [(RX1, TX1, 5), (RX2, TX2, 4), (RX3, TX3, 3), (RX4, TX4, 8), (RX5, TX5, 2), (RX6, TX6, 4), (RX7, TX7, 4), (RX8, TX8, 9), (RX9, TX9, 25)]
def gty (E : gE) : List (ClassId × FieldType) := [(E.2.2.1 0, .int), (E.2.2.1 1, .long), (E.2.2.1 2, .boolean), (E.2.2.1 3, .char)]
def TS : List Cond := lw_tbl.filter goodWord
theorem TS_good : TS.all goodWord = true := List.all_eq_true.mpr fun _ h => (List.mem_filter.mp h).2
theorem TS_in {w : Cond} (i : Nat) (h : lw_tbl[i]? = some w) (hg : goodWord w = true) : w ∈ TS := List.mem_filter.mpr ⟨List.mem_of_getElem? h, hg⟩
/-! locals -/
def lkeep (L : List (Nat × Value)) (ks : List Nat) : List (Nat × Value) := L.filter fun q => ks.any fun k => Nat.beq k q.1
def lget (L : List (Nat × Value)) (i : Nat) : Option Value := match L with
  | [] => none
  | (j, v) :: r => cond (Nat.beq j i) (some v) (lget r i)
theorem lget_mem {L : List (Nat × Value)} {i : Nat} {v : Value} (h : lget L i = some v) : (i, v) ∈ L := by
  induction L with
  | nil => cases h
  | cons q r ih =>
    obtain ⟨j, w⟩ := q
    rw [lget] at h
    cases hj : Nat.beq j i with
    | true =>
      rw [hj] at h
      have e : j = i := Nat.eq_of_beq_eq_true hj
      cases h; subst e
      exact List.mem_cons_self
    | false =>
      rw [hj] at h
      exact List.mem_cons_of_mem _ (ih h)
def lins (L : List (Nat × Value)) (i : Nat) (v : Value) : List (Nat × Value) := match L with
  | [] => [(i, v)]
  | (j, w) :: r => cond (Nat.blt i j) ((i, v) :: (j, w) :: r) ((j, w) :: lins r i v)
theorem lins_mem {L : List (Nat × Value)} {i : Nat} {v : Value} {q : Nat × Value} (h : q ∈ lins L i v) : q = (i, v) ∨ q ∈ L := by
  induction L with
  | nil => exact Or.inl (List.mem_singleton.mp h)
  | cons x r ih =>
    obtain ⟨j, w⟩ := x
    rw [lins] at h
    cases hj : Nat.blt i j with
    | true =>
      rw [hj] at h
      rcases List.mem_cons.mp h with e | h
      · exact Or.inl e
      · exact Or.inr h
    | false =>
      rw [hj] at h
      rcases List.mem_cons.mp h with e | h
      · exact Or.inr (e ▸ List.mem_cons_self)
      · rcases ih h with e | h
        · exact Or.inl e
        · exact Or.inr (List.mem_cons_of_mem _ h)
def lclr1 (i : Nat) (q : Nat × Value) : Bool := !(q.1 == i) && !(q.1 + 1 == i && q.2.category == 2)
def lclr2 (i : Nat) (q : Nat × Value) : Bool := !(q.1 == i) && (!(q.1 == i + 1) && !(q.1 + 1 == i && q.2.category == 2))
def lset (L : List (Nat × Value)) (i : Nat) (v : Value) : List (Nat × Value) := lins (L.filter (lclr1 i)) i v
def lset2 (L : List (Nat × Value)) (i : Nat) (v : Value) : List (Nat × Value) := lins (L.filter (lclr2 i)) i v
theorem lv_mono {ls : Array Slot} {n : Nat} {L L' : List (Nat × Value)} (h : lv_has ls n L) (hs : ∀ q ∈ L', q ∈ L) : lv_has ls n L' := ⟨h.1, h.2.1, fun q hq => h.2.2 q (hs q hq)⟩
theorem lv_lget {ls : Array Slot} {n : Nat} {L : List (Nat × Value)} {i : Nat} {v : Value} (h : lv_has ls n L) (hg : lget L i = some v) : ls[i]? = some (.val v) := h.2.2 (i, v) (lget_mem hg)
/-! methods: name, code, locals, what it returns, frames, room of locals -/
abbrev gM : Type := MethodName × ByteArray × Nat × Option FieldType × Nat × Nat
def gRm (M : gM) : Room := { frames := M.2.2.2.2.1, cells := 0, slots := 0, locals := M.2.2.2.2.2 }
def gws (M : gM) : List Cond := Cond.code M.1 M.2.1 M.2.2.1 M.2.2.2.1 :: TS
def g_pre (E : gE) (lay : List gC) (sz : Nat) (S : gS) (U : State) : Prop := U.heap.size = sz ∧ va_P E.2.1 gcl (g_wl E S lay) U.heap ∧ va_K E.2.1 gcl (gty E) U ∧ va_D (fun _ => True) (g_wl E S lay)
def g_post (E : gE) (lay : List gC) (A : Nat → Prop) (Post : Option Value → gS → Prop) (_ : Array Value) (st : State) (oc : Outcome) (t : State) : Prop := (∃ (v : Option Value) (S' : gS), oc = .returned v ∧ Post v S' ∧ va_P E.2.1 gcl (g_wl E S' lay) t.heap) ∧ va_F A st t
/-- the cells of the world, and what is new -/
def g_A (E : gE) (lay : List gC) (sz : Nat) : Nat → Prop := fun q => (∃ k, k < lay.length ∧ q = gad E k) ∨ sz ≤ q
/-- a method's contract: called so in a state, it returns, and Post -/
def Ct (E : gE) (lay : List gC) (M : gM) (av : List Value) (S : gS) (Post : Option Value → gS → Prop) : Prop :=
  ∀ sz : Nat, Met E.1 M.1 (gws M) (gRm M) (va_Pc av (g_pre E lay sz S)) (g_post E lay (g_A E lay sz) Post) 0 0 (g_A E lay sz)
theorem g_D {E : gE} {lay : List gC} {S S' : gS} {A : Nat → Prop} (h : va_D A (g_wl E S lay)) : va_D A (g_wl E S' lay) := by
  have key : ∀ (k : Nat) (q : Nat × va_E), (g_wl E S' lay)[k]? = some q → ∃ q0, (g_wl E S lay)[k]? = some q0 ∧ q0.1 = q.1 := by
    intro k q hq
    unfold g_wl at hq ⊢
    rw [List.getElem?_mapIdx] at hq
    cases hc : lay[k]? with
    | none => rw [hc] at hq; cases hq
    | some c =>
      rw [hc] at hq
      refine ⟨(gad E k, g_el E S c), by rw [List.getElem?_mapIdx, hc]; rfl, ?_⟩
      cases hq; rfl
  constructor
  · intro i j p q hi hj e
    obtain ⟨p0, h1, h2⟩ := key i p hi
    obtain ⟨q0, h3, h4⟩ := key j q hj
    exact h.1 i j p0 q0 h1 h3 (by rw [h2, h4, e])
  · intro k q hq
    obtain ⟨q0, h1, h2⟩ := key k q hq
    rw [← h2]
    exact h.2 k q0 h1
theorem g_A_in {E : gE} {lay : List gC} {sz : Nat} {S : gS} {k : Nat} {q : Nat × va_E} (h : (g_wl E S lay)[k]? = some q) : g_A E lay sz q.1 := by
  unfold g_wl at h
  rw [List.getElem?_mapIdx] at h
  cases hc : lay[k]? with
  | none => rw [hc] at h; cases h
  | some c =>
    rw [hc] at h
    cases h
    exact Or.inl ⟨k, (List.getElem?_eq_some_iff.mp hc).1, rfl⟩
theorem g_A_of {E : gE} {lay : List gC} {A : Nat → Prop} {S : gS} {sz : Nat} (hD : va_D A (g_wl E S lay)) (hA : ∀ q, sz ≤ q → A q) : ∀ q, g_A E lay sz q → A q := by
  rintro q (⟨k, hk, rfl⟩ | h)
  · obtain ⟨c, hc⟩ : ∃ c, lay[k]? = some c := ⟨_, List.getElem?_eq_getElem hk⟩
    exact hD.2 k _ (g_wl_get hc)
  · exact hA q h
theorem g_blind {E : gE} {lay : List gC} {sz : Nat} {S : gS} {av : List Value} : FrameBlind (va_Pc av (g_pre E lay sz S)) := by
  intro a U g mk q
  obtain ⟨q0, q1, qP, qK, qD⟩ := q
  exact ⟨q0, q1, qP, va_K.moved (u := U) (U := U.calling g mk a) (Vm.Alike.refl U.vm) qK, qD⟩
/-- the judgement of a method's body: Z S L pc st: from state S, locals L, at pc with operands st, all goes well -/
def Cx (Z : gS → List (Nat × Value) → Nat → List Value → Prop) (E : gE) (lay : List gC) (M : gM) (Rt : Option Value → gS → Prop) : Prop :=
  ∃ (p : Program) (e : Env) (R : Room) (s : State) (m : MethodId) (args : Array Value) (below : List Frame) (meth : Method) (c : Code) (A : Nat → Prop) (H0 : Heap) (cells slots : Nat) (Q : State → Prop),
    Z = (fun S L pc st => ∀ (H : Heap) (locs : List Loc) (ls : Array Slot), va_P E.2.1 gcl (g_wl E S lay) H → va_D A (g_wl E S lay) → va_S A H0 H locs → lv_has ls M.2.2.1 L → W p E.1 e R s m args below meth c H locs cells slots Q (F0 m pc ls st)) ∧
    p.tables.exec = Jvm.exec ∧ c.code = M.2.1 ∧ c.maxLocals = M.2.2.1 ∧ s.vm.findClass M.1.cls = some m.cls ∧ (∀ w ∈ TS, w.before args s = true) ∧ va_K E.2.1 gcl (gty E) s ∧ (∀ q, H0.size ≤ q → A q) ∧ g_ok lay ∧ (R.frames = M.2.2.2.2.1 ∧ R.locals = M.2.2.2.2.2 ∧ cells ≤ R.cells ∧ slots ≤ R.slots) ∧
    (∀ (pc : Nat) (S : gS) (L : List (Nat × Value)) (z : Int), decode M.2.1 pc = .ok (.ireturn, 1) → (M.2.2.2.1 = some .int ∨ (M.2.2.2.1 = some .boolean ∧ (z = 0 ∨ z = 1))) → Rt (some (iV z)) S → Z S L pc [iV z]) ∧
    (∀ (pc : Nat) (S : gS) (L : List (Nat × Value)) (z : Int), decode M.2.1 pc = .ok (.lreturn, 1) → M.2.2.2.1 = some .long → Rt (some (jV z)) S → Z S L pc [jV z]) ∧
    (∀ (pc : Nat) (S : gS) (L : List (Nat × Value)), decode M.2.1 pc = .ok (.return_, 1) → M.2.2.2.1 = none → Rt none S → Z S L pc []) ∧
    (∀ (pc : Nat) (S : gS) (L : List (Nat × Value)) (a : Nat), decode M.2.1 pc = .ok (.areturn, 1) → (∃ n, M.2.2.2.1 = some (.object n)) → Rt (some (.ref a)) S → Z S L pc [.ref a])
section GRULES
variable {Z : gS → List (Nat × Value) → Nat → List Value → Prop} {E : gE} {lay : List gC} {M : gM} {Rt : Option Value → gS → Prop} {S : gS} {L : List (Nat × Value)} {pc : Nat} {st : List Value}

theorem g_iconst (hZ : Cx Z E lay M Rt) {n : Int} (d : decode M.2.1 pc = .ok (.iconst n, 1)) (k : Z S L (pc + 1) (iV n :: st)) : Z S L pc st := by
  obtain ⟨p, e, R, s, m, args, below, meth, c, A, H0, cells, slots, Q, rfl, hx, hb, hml, hown, hts, hK, hA, ho, hR, -, -, -, -⟩ := hZ
  intro H locs ls hP hD hS hl
  exact lv_iconst hx hb d rfl (k H locs ls hP hD hS hl)

theorem g_bipush (hZ : Cx Z E lay M Rt) {n z : Int} (d : decode M.2.1 pc = .ok (.bipush n, 2)) (hz : (Int8.ofInt n).toInt32 = Int32.ofInt z) (k : Z S L (pc + 2) (iV z :: st)) : Z S L pc st := by
  obtain ⟨p, e, R, s, m, args, below, meth, c, A, H0, cells, slots, Q, rfl, hx, hb, hml, hown, hts, hK, hA, ho, hR, -, -, -, -⟩ := hZ
  intro H locs ls hP hD hS hl
  exact lv_bipush hx hb d hz (k H locs ls hP hD hS hl)

theorem g_sipush (hZ : Cx Z E lay M Rt) {n z : Int} (d : decode M.2.1 pc = .ok (.sipush n, 3)) (hz : (Int16.ofInt n).toInt32 = Int32.ofInt z) (k : Z S L (pc + 3) (iV z :: st)) : Z S L pc st := by
  obtain ⟨p, e, R, s, m, args, below, meth, c, A, H0, cells, slots, Q, rfl, hx, hb, hml, hown, hts, hK, hA, ho, hR, -, -, -, -⟩ := hZ
  intro H locs ls hP hD hS hl
  exact lv_sipush hx hb d hz (k H locs ls hP hD hS hl)

theorem g_ldc (hZ : Cx Z E lay M Rt) {i : Nat} {z : Int} (d : decode M.2.1 pc = .ok (.ldc i, 2)) (hw : Cond.constant M.1.cls i (Int32.ofInt z) ∈ TS) (k : Z S L (pc + 2) (iV z :: st)) : Z S L pc st := by
  obtain ⟨p, e, R, s, m, args, below, meth, c, A, H0, cells, slots, Q, rfl, hx, hb, hml, hown, hts, hK, hA, ho, hR, -, -, -, -⟩ := hZ
  intro H locs ls hP hD hS hl
  exact lv_ldc hx hb hown (hts _ hw) d (k H locs ls hP hD hS hl)

theorem g_ldc2 (hZ : Cx Z E lay M Rt) {i : Nat} {z : Int} (d : decode M.2.1 pc = .ok (.ldc2_w i, 3)) (hw : Cond.constantLong M.1.cls i (Int64.ofInt z) ∈ TS) (k : Z S L (pc + 3) (jV z :: st)) : Z S L pc st := by
  obtain ⟨p, e, R, s, m, args, below, meth, c, A, H0, cells, slots, Q, rfl, hx, hb, hml, hown, hts, hK, hA, ho, hR, -, -, -, -⟩ := hZ
  intro H locs ls hP hD hS hl
  exact lv_ldc2 hx hb hown (hts _ hw) d (k H locs ls hP hD hS hl)

theorem g_lconst (hZ : Cx Z E lay M Rt) {n : Fin 2} {z : Int} (d : decode M.2.1 pc = .ok (.lconst n, 1)) (hz : Int64.ofNat (n : Nat) = Int64.ofInt z) (k : Z S L (pc + 1) (jV z :: st)) : Z S L pc st := by
  obtain ⟨p, e, R, s, m, args, below, meth, c, A, H0, cells, slots, Q, rfl, hx, hb, hml, hown, hts, hK, hA, ho, hR, -, -, -, -⟩ := hZ
  intro H locs ls hP hD hS hl
  exact lv_lconst hx hb d hz (k H locs ls hP hD hS hl)

theorem g_iload_n (hZ : Cx Z E lay M Rt) {k0 : Fin 4} {x : Int32} (d : decode M.2.1 pc = .ok (.iload_n k0, 1)) (h : lget L k0 = some (.int x)) (k : Z S L (pc + 1) (.int x :: st)) : Z S L pc st := by
  obtain ⟨p, e, R, s, m, args, below, meth, c, A, H0, cells, slots, Q, rfl, hx, hb, hml, hown, hts, hK, hA, ho, hR, -, -, -, -⟩ := hZ
  intro H locs ls hP hD hS hl
  exact lv_iload_n hx hb d rfl (lv_lget hl h) (k H locs ls hP hD hS hl)

theorem g_iload (hZ : Cx Z E lay M Rt) {i : Nat} {x : Int32} (d : decode M.2.1 pc = .ok (.iload i, 2)) (h : lget L i = some (.int x)) (k : Z S L (pc + 2) (.int x :: st)) : Z S L pc st := by
  obtain ⟨p, e, R, s, m, args, below, meth, c, A, H0, cells, slots, Q, rfl, hx, hb, hml, hown, hts, hK, hA, ho, hR, -, -, -, -⟩ := hZ
  intro H locs ls hP hD hS hl
  exact lv_iload hx hb d (lv_lget hl h) (k H locs ls hP hD hS hl)

theorem g_lload_n (hZ : Cx Z E lay M Rt) {k0 : Fin 4} {x : Int64} (d : decode M.2.1 pc = .ok (.lload_n k0, 1)) (h : lget L k0 = some (.long x)) (k : Z S L (pc + 1) (.long x :: st)) : Z S L pc st := by
  obtain ⟨p, e, R, s, m, args, below, meth, c, A, H0, cells, slots, Q, rfl, hx, hb, hml, hown, hts, hK, hA, ho, hR, -, -, -, -⟩ := hZ
  intro H locs ls hP hD hS hl
  exact lv_lload_n hx hb d rfl (lv_lget hl h) (k H locs ls hP hD hS hl)

theorem g_lload (hZ : Cx Z E lay M Rt) {i : Nat} {x : Int64} (d : decode M.2.1 pc = .ok (.lload i, 2)) (h : lget L i = some (.long x)) (k : Z S L (pc + 2) (.long x :: st)) : Z S L pc st := by
  obtain ⟨p, e, R, s, m, args, below, meth, c, A, H0, cells, slots, Q, rfl, hx, hb, hml, hown, hts, hK, hA, ho, hR, -, -, -, -⟩ := hZ
  intro H locs ls hP hD hS hl
  exact lv_lload hx hb d (lv_lget hl h) (k H locs ls hP hD hS hl)

theorem g_aload_n (hZ : Cx Z E lay M Rt) {k0 : Fin 4} {x : Nat} (d : decode M.2.1 pc = .ok (.aload_n k0, 1)) (h : lget L k0 = some (.ref x)) (k : Z S L (pc + 1) (.ref x :: st)) : Z S L pc st := by
  obtain ⟨p, e, R, s, m, args, below, meth, c, A, H0, cells, slots, Q, rfl, hx, hb, hml, hown, hts, hK, hA, ho, hR, -, -, -, -⟩ := hZ
  intro H locs ls hP hD hS hl
  exact lv_aload_n hx hb d rfl (lv_lget hl h) (k H locs ls hP hD hS hl)

theorem g_aload (hZ : Cx Z E lay M Rt) {i : Nat} {x : Nat} (d : decode M.2.1 pc = .ok (.aload i, 2)) (h : lget L i = some (.ref x)) (k : Z S L (pc + 2) (.ref x :: st)) : Z S L pc st := by
  obtain ⟨p, e, R, s, m, args, below, meth, c, A, H0, cells, slots, Q, rfl, hx, hb, hml, hown, hts, hK, hA, ho, hR, -, -, -, -⟩ := hZ
  intro H locs ls hP hD hS hl
  exact lv_aload hx hb d (lv_lget hl h) (k H locs ls hP hD hS hl)

theorem g_istore_n (hZ : Cx Z E lay M Rt) {k0 : Fin 4} {x : Int32} (d : decode M.2.1 pc = .ok (.istore_n k0, 1)) (hn : (k0 : Nat) < M.2.2.1) (k : Z S (lset L k0 (.int x)) (pc + 1) st) : Z S L pc (.int x :: st) := by
  obtain ⟨p, e, R, s, m, args, below, meth, c, A, H0, cells, slots, Q, rfl, hx, hb, hml, hown, hts, hK, hA, ho, hR, -, -, -, -⟩ := hZ
  intro H locs ls hP hD hS hl
  exact lv_istore_n (lv' := ((k0 : Nat), Value.int x) :: L.filter (lclr1 k0)) hx hb d rfl hl hn rfl fun ls' hl' => k H locs ls' hP hD hS (lv_mono hl' fun q hq => by rcases lins_mem hq with h | h; exact h ▸ List.mem_cons_self; exact List.mem_cons_of_mem _ h)

theorem g_istore (hZ : Cx Z E lay M Rt) {i : Nat} {x : Int32} (d : decode M.2.1 pc = .ok (.istore i, 2)) (hn : i < M.2.2.1) (k : Z S (lset L i (.int x)) (pc + 2) st) : Z S L pc (.int x :: st) := by
  obtain ⟨p, e, R, s, m, args, below, meth, c, A, H0, cells, slots, Q, rfl, hx, hb, hml, hown, hts, hK, hA, ho, hR, -, -, -, -⟩ := hZ
  intro H locs ls hP hD hS hl
  exact lv_istore (lv' := (i, Value.int x) :: L.filter (lclr1 i)) hx hb d hl hn rfl fun ls' hl' => k H locs ls' hP hD hS (lv_mono hl' fun q hq => by rcases lins_mem hq with h | h; exact h ▸ List.mem_cons_self; exact List.mem_cons_of_mem _ h)

theorem g_lstore_n (hZ : Cx Z E lay M Rt) {k0 : Fin 4} {x : Int64} (d : decode M.2.1 pc = .ok (.lstore_n k0, 1)) (hn : (k0 : Nat) + 1 < M.2.2.1) (k : Z S (lset2 L k0 (.long x)) (pc + 1) st) : Z S L pc (.long x :: st) := by
  obtain ⟨p, e, R, s, m, args, below, meth, c, A, H0, cells, slots, Q, rfl, hx, hb, hml, hown, hts, hK, hA, ho, hR, -, -, -, -⟩ := hZ
  intro H locs ls hP hD hS hl
  exact lv_lstore_n (lv' := ((k0 : Nat), Value.long x) :: L.filter (lclr2 k0)) hx hb d rfl hl hn rfl fun ls' hl' => k H locs ls' hP hD hS (lv_mono hl' fun q hq => by rcases lins_mem hq with h | h; exact h ▸ List.mem_cons_self; exact List.mem_cons_of_mem _ h)

theorem g_lstore (hZ : Cx Z E lay M Rt) {i : Nat} {x : Int64} (d : decode M.2.1 pc = .ok (.lstore i, 2)) (hn : i + 1 < M.2.2.1) (k : Z S (lset2 L i (.long x)) (pc + 2) st) : Z S L pc (.long x :: st) := by
  obtain ⟨p, e, R, s, m, args, below, meth, c, A, H0, cells, slots, Q, rfl, hx, hb, hml, hown, hts, hK, hA, ho, hR, -, -, -, -⟩ := hZ
  intro H locs ls hP hD hS hl
  exact lv_lstore (lv' := (i, Value.long x) :: L.filter (lclr2 i)) hx hb d hl hn rfl fun ls' hl' => k H locs ls' hP hD hS (lv_mono hl' fun q hq => by rcases lins_mem hq with h | h; exact h ▸ List.mem_cons_self; exact List.mem_cons_of_mem _ h)

theorem g_astore_n (hZ : Cx Z E lay M Rt) {k0 : Fin 4} {x : Nat} (d : decode M.2.1 pc = .ok (.astore_n k0, 1)) (hn : (k0 : Nat) < M.2.2.1) (k : Z S (lset L k0 (.ref x)) (pc + 1) st) : Z S L pc (.ref x :: st) := by
  obtain ⟨p, e, R, s, m, args, below, meth, c, A, H0, cells, slots, Q, rfl, hx, hb, hml, hown, hts, hK, hA, ho, hR, -, -, -, -⟩ := hZ
  intro H locs ls hP hD hS hl
  exact lv_astore_n (lv' := ((k0 : Nat), Value.ref x) :: L.filter (lclr1 k0)) hx hb d rfl hl hn rfl fun ls' hl' => k H locs ls' hP hD hS (lv_mono hl' fun q hq => by rcases lins_mem hq with h | h; exact h ▸ List.mem_cons_self; exact List.mem_cons_of_mem _ h)

theorem g_astore (hZ : Cx Z E lay M Rt) {i : Nat} {x : Nat} (d : decode M.2.1 pc = .ok (.astore i, 2)) (hn : i < M.2.2.1) (k : Z S (lset L i (.ref x)) (pc + 2) st) : Z S L pc (.ref x :: st) := by
  obtain ⟨p, e, R, s, m, args, below, meth, c, A, H0, cells, slots, Q, rfl, hx, hb, hml, hown, hts, hK, hA, ho, hR, -, -, -, -⟩ := hZ
  intro H locs ls hP hD hS hl
  exact lv_astore (lv' := (i, Value.ref x) :: L.filter (lclr1 i)) hx hb d hl hn rfl fun ls' hl' => k H locs ls' hP hD hS (lv_mono hl' fun q hq => by rcases lins_mem hq with h | h; exact h ▸ List.mem_cons_self; exact List.mem_cons_of_mem _ h)

theorem g_iinc (hZ : Cx Z E lay M Rt) {i : Nat} {n x : Int} (d : decode M.2.1 pc = .ok (.iinc i n, 3)) (h : lget L i = some (iV x)) (hn : i < M.2.2.1) (k : Z S (lset L i (iV (x + n))) (pc + 3) st) : Z S L pc st := by
  obtain ⟨p, e, R, s, m, args, below, meth, c, A, H0, cells, slots, Q, rfl, hx, hb, hml, hown, hts, hK, hA, ho, hR, -, -, -, -⟩ := hZ
  intro H locs ls hP hD hS hl
  obtain ⟨j, hj⟩ := List.getElem?_of_mem (lget_mem h)
  exact lv_iinc (v := Int32.ofInt (x + n)) (lv' := (i, iV (x + n)) :: L.filter (lclr1 i)) hx hb d hl hj (gi_add x n) hn rfl fun ls' hl' => k H locs ls' hP hD hS (lv_mono hl' fun q hq => by rcases lins_mem hq with h | h; exact h ▸ List.mem_cons_self; exact List.mem_cons_of_mem _ h)

theorem g_iadd (hZ : Cx Z E lay M Rt) {a b : Int} (d : decode M.2.1 pc = .ok (.iadd, 1)) (k : Z S L (pc + 1) (iV (a + b) :: st)) : Z S L pc (iV b :: iV a :: st) := by
  obtain ⟨p, e, R, s, m, args, below, meth, c, A, H0, cells, slots, Q, rfl, hx, hb, hml, hown, hts, hK, hA, ho, hR, -, -, -, -⟩ := hZ
  intro H locs ls hP hD hS hl
  refine lv_iadd hx hb d ?_
  rw [gi_add]
  exact k H locs ls hP hD hS hl

theorem g_isub (hZ : Cx Z E lay M Rt) {a b : Int} (d : decode M.2.1 pc = .ok (.isub, 1)) (k : Z S L (pc + 1) (iV (a - b) :: st)) : Z S L pc (iV b :: iV a :: st) := by
  obtain ⟨p, e, R, s, m, args, below, meth, c, A, H0, cells, slots, Q, rfl, hx, hb, hml, hown, hts, hK, hA, ho, hR, -, -, -, -⟩ := hZ
  intro H locs ls hP hD hS hl
  refine lv_isub hx hb d ?_
  rw [gi_sub]
  exact k H locs ls hP hD hS hl

theorem g_imul (hZ : Cx Z E lay M Rt) {a b : Int} (d : decode M.2.1 pc = .ok (.imul, 1)) (k : Z S L (pc + 1) (iV (a * b) :: st)) : Z S L pc (iV b :: iV a :: st) := by
  obtain ⟨p, e, R, s, m, args, below, meth, c, A, H0, cells, slots, Q, rfl, hx, hb, hml, hown, hts, hK, hA, ho, hR, -, -, -, -⟩ := hZ
  intro H locs ls hP hD hS hl
  refine lv_imul hx hb d ?_
  rw [gi_mul]
  exact k H locs ls hP hD hS hl

theorem g_ineg (hZ : Cx Z E lay M Rt) {a : Int} (d : decode M.2.1 pc = .ok (.ineg, 1)) (k : Z S L (pc + 1) (iV (-a) :: st)) : Z S L pc (iV a :: st) := by
  obtain ⟨p, e, R, s, m, args, below, meth, c, A, H0, cells, slots, Q, rfl, hx, hb, hml, hown, hts, hK, hA, ho, hR, -, -, -, -⟩ := hZ
  intro H locs ls hP hD hS hl
  refine lv_ineg hx hb d ?_
  rw [gi_neg]
  exact k H locs ls hP hD hS hl

theorem g_lmul (hZ : Cx Z E lay M Rt) {a b : Int} (d : decode M.2.1 pc = .ok (.lmul, 1)) (k : Z S L (pc + 1) (jV (a * b) :: st)) : Z S L pc (jV b :: jV a :: st) := by
  obtain ⟨p, e, R, s, m, args, below, meth, c, A, H0, cells, slots, Q, rfl, hx, hb, hml, hown, hts, hK, hA, ho, hR, -, -, -, -⟩ := hZ
  intro H locs ls hP hD hS hl
  refine lv_lmul hx hb d ?_
  rw [gj_mul]
  exact k H locs ls hP hD hS hl

theorem g_idiv (hZ : Cx Z E lay M Rt) {a b : Nat} (d : decode M.2.1 pc = .ok (.idiv, 1)) (ha : a < 2147483648) (h0 : 0 < b) (hb2 : b < 2147483648) (k : Z S L (pc + 1) (iV ((a / b : Nat) : Int) :: st)) : Z S L pc (iV (b : Int) :: iV (a : Int) :: st) := by
  obtain ⟨p, e, R, s, m, args, below, meth, c, A, H0, cells, slots, Q, rfl, hx, hb, hml, hown, hts, hK, hA, ho, hR, -, -, -, -⟩ := hZ
  intro H locs ls hP hD hS hl
  refine lv_idiv hx hb d (fun h => ?_) ?_
  · rw [gi_z0 ⟨by omega, by omega⟩] at h; omega
  rw [gi_div ha h0 hb2]
  exact k H locs ls hP hD hS hl

theorem g_irem (hZ : Cx Z E lay M Rt) {a b : Nat} (d : decode M.2.1 pc = .ok (.irem, 1)) (ha : a < 2147483648) (h0 : 0 < b) (hb2 : b < 2147483648) (k : Z S L (pc + 1) (iV ((a % b : Nat) : Int) :: st)) : Z S L pc (iV (b : Int) :: iV (a : Int) :: st) := by
  obtain ⟨p, e, R, s, m, args, below, meth, c, A, H0, cells, slots, Q, rfl, hx, hb, hml, hown, hts, hK, hA, ho, hR, -, -, -, -⟩ := hZ
  intro H locs ls hP hD hS hl
  refine lv_irem hx hb d (fun h => ?_) ?_
  · rw [gi_z0 ⟨by omega, by omega⟩] at h; omega
  rw [gi_rem ha h0 hb2]
  exact k H locs ls hP hD hS hl

theorem g_iand (hZ : Cx Z E lay M Rt) {a b z : Int} (d : decode M.2.1 pc = .ok (.iand, 1)) (h : Int32.ofInt a &&& Int32.ofInt b = Int32.ofInt z) (k : Z S L (pc + 1) (iV z :: st)) : Z S L pc (iV b :: iV a :: st) := by
  obtain ⟨p, e, R, s, m, args, below, meth, c, A, H0, cells, slots, Q, rfl, hx, hb, hml, hown, hts, hK, hA, ho, hR, -, -, -, -⟩ := hZ
  intro H locs ls hP hD hS hl
  refine lv_iand hx hb d ?_
  rw [h]
  exact k H locs ls hP hD hS hl

theorem g_ior (hZ : Cx Z E lay M Rt) {a b z : Int} (d : decode M.2.1 pc = .ok (.ior, 1)) (h : Int32.ofInt a ||| Int32.ofInt b = Int32.ofInt z) (k : Z S L (pc + 1) (iV z :: st)) : Z S L pc (iV b :: iV a :: st) := by
  obtain ⟨p, e, R, s, m, args, below, meth, c, A, H0, cells, slots, Q, rfl, hx, hb, hml, hown, hts, hK, hA, ho, hR, -, -, -, -⟩ := hZ
  intro H locs ls hP hD hS hl
  refine lv_ior hx hb d ?_
  rw [h]
  exact k H locs ls hP hD hS hl

theorem g_ixor (hZ : Cx Z E lay M Rt) {a b z : Int} (d : decode M.2.1 pc = .ok (.ixor, 1)) (h : Int32.ofInt a ^^^ Int32.ofInt b = Int32.ofInt z) (k : Z S L (pc + 1) (iV z :: st)) : Z S L pc (iV b :: iV a :: st) := by
  obtain ⟨p, e, R, s, m, args, below, meth, c, A, H0, cells, slots, Q, rfl, hx, hb, hml, hown, hts, hK, hA, ho, hR, -, -, -, -⟩ := hZ
  intro H locs ls hP hD hS hl
  refine lv_ixor hx hb d ?_
  rw [h]
  exact k H locs ls hP hD hS hl

theorem g_ishl (hZ : Cx Z E lay M Rt) {a b z : Int} (d : decode M.2.1 pc = .ok (.ishl, 1)) (h : Int32.ofInt a <<< (Int32.ofInt b &&& 31) = Int32.ofInt z) (k : Z S L (pc + 1) (iV z :: st)) : Z S L pc (iV b :: iV a :: st) := by
  obtain ⟨p, e, R, s, m, args, below, meth, c, A, H0, cells, slots, Q, rfl, hx, hb, hml, hown, hts, hK, hA, ho, hR, -, -, -, -⟩ := hZ
  intro H locs ls hP hD hS hl
  refine lv_ishl hx hb d ?_
  rw [h]
  exact k H locs ls hP hD hS hl

theorem g_ishr (hZ : Cx Z E lay M Rt) {a b z : Int} (d : decode M.2.1 pc = .ok (.ishr, 1)) (h : Int32.ofInt a >>> (Int32.ofInt b &&& 31) = Int32.ofInt z) (k : Z S L (pc + 1) (iV z :: st)) : Z S L pc (iV b :: iV a :: st) := by
  obtain ⟨p, e, R, s, m, args, below, meth, c, A, H0, cells, slots, Q, rfl, hx, hb, hml, hown, hts, hK, hA, ho, hR, -, -, -, -⟩ := hZ
  intro H locs ls hP hD hS hl
  refine lv_ishr hx hb d ?_
  rw [h]
  exact k H locs ls hP hD hS hl

theorem g_iushr (hZ : Cx Z E lay M Rt) {a b z : Int} (d : decode M.2.1 pc = .ok (.iushr, 1)) (h : ((Int32.ofInt a).toUInt32 >>> ((Int32.ofInt b).toUInt32 &&& Int32.toUInt32 31)).toInt32 = Int32.ofInt z) (k : Z S L (pc + 1) (iV z :: st)) : Z S L pc (iV b :: iV a :: st) := by
  obtain ⟨p, e, R, s, m, args, below, meth, c, A, H0, cells, slots, Q, rfl, hx, hb, hml, hown, hts, hK, hA, ho, hR, -, -, -, -⟩ := hZ
  intro H locs ls hP hD hS hl
  exact lv_iushr hx hb d h (k H locs ls hP hD hS hl)

theorem g_land (hZ : Cx Z E lay M Rt) {a b z : Int} (d : decode M.2.1 pc = .ok (.land, 1)) (h : Int64.ofInt a &&& Int64.ofInt b = Int64.ofInt z) (k : Z S L (pc + 1) (jV z :: st)) : Z S L pc (jV b :: jV a :: st) := by
  obtain ⟨p, e, R, s, m, args, below, meth, c, A, H0, cells, slots, Q, rfl, hx, hb, hml, hown, hts, hK, hA, ho, hR, -, -, -, -⟩ := hZ
  intro H locs ls hP hD hS hl
  refine lv_land hx hb d ?_
  rw [h]
  exact k H locs ls hP hD hS hl

theorem g_lor (hZ : Cx Z E lay M Rt) {a b z : Int} (d : decode M.2.1 pc = .ok (.lor, 1)) (h : Int64.ofInt a ||| Int64.ofInt b = Int64.ofInt z) (k : Z S L (pc + 1) (jV z :: st)) : Z S L pc (jV b :: jV a :: st) := by
  obtain ⟨p, e, R, s, m, args, below, meth, c, A, H0, cells, slots, Q, rfl, hx, hb, hml, hown, hts, hK, hA, ho, hR, -, -, -, -⟩ := hZ
  intro H locs ls hP hD hS hl
  refine lv_lor hx hb d ?_
  rw [h]
  exact k H locs ls hP hD hS hl

theorem g_lxor (hZ : Cx Z E lay M Rt) {a b z : Int} (d : decode M.2.1 pc = .ok (.lxor, 1)) (h : Int64.ofInt a ^^^ Int64.ofInt b = Int64.ofInt z) (k : Z S L (pc + 1) (jV z :: st)) : Z S L pc (jV b :: jV a :: st) := by
  obtain ⟨p, e, R, s, m, args, below, meth, c, A, H0, cells, slots, Q, rfl, hx, hb, hml, hown, hts, hK, hA, ho, hR, -, -, -, -⟩ := hZ
  intro H locs ls hP hD hS hl
  refine lv_lxor hx hb d ?_
  rw [h]
  exact k H locs ls hP hD hS hl

theorem g_lushr (hZ : Cx Z E lay M Rt) {a b z : Int} (d : decode M.2.1 pc = .ok (.lushr, 1)) (h : ((Int64.ofInt a).toUInt64 >>> ((Int32.ofInt b).toInt64.toUInt64 &&& Int64.toUInt64 63)).toInt64 = Int64.ofInt z) (k : Z S L (pc + 1) (jV z :: st)) : Z S L pc (iV b :: jV a :: st) := by
  obtain ⟨p, e, R, s, m, args, below, meth, c, A, H0, cells, slots, Q, rfl, hx, hb, hml, hown, hts, hK, hA, ho, hR, -, -, -, -⟩ := hZ
  intro H locs ls hP hD hS hl
  exact lv_lushr hx hb d h (k H locs ls hP hD hS hl)

theorem g_lshl (hZ : Cx Z E lay M Rt) {a b z : Int} (d : decode M.2.1 pc = .ok (.lshl, 1)) (h : Int64.ofInt a <<< ((Int32.ofInt b).toInt64 &&& 63) = Int64.ofInt z) (k : Z S L (pc + 1) (jV z :: st)) : Z S L pc (iV b :: jV a :: st) := by
  obtain ⟨p, e, R, s, m, args, below, meth, c, A, H0, cells, slots, Q, rfl, hx, hb, hml, hown, hts, hK, hA, ho, hR, -, -, -, -⟩ := hZ
  intro H locs ls hP hD hS hl
  exact lv_lshl hx hb d h (k H locs ls hP hD hS hl)

theorem g_i2l (hZ : Cx Z E lay M Rt) {a : Int} (d : decode M.2.1 pc = .ok (.i2l, 1)) (h : R32 a) (k : Z S L (pc + 1) (jV a :: st)) : Z S L pc (iV a :: st) := by
  obtain ⟨p, e, R, s, m, args, below, meth, c, A, H0, cells, slots, Q, rfl, hx, hb, hml, hown, hts, hK, hA, ho, hR, -, -, -, -⟩ := hZ
  intro H locs ls hP hD hS hl
  refine lv_i2l (v := Int64.ofInt a) hx hb d ?_ (k H locs ls hP hD hS hl)
  apply Int64.toInt_inj.1
  rw [Int32.toInt_toInt64, gi_ti h, gj_ti ⟨by have := h.1; omega, by have := h.2; omega⟩]

theorem g_l2i (hZ : Cx Z E lay M Rt) {a z : Int} (d : decode M.2.1 pc = .ok (.l2i, 1)) (h : (Int64.ofInt a).toInt32 = Int32.ofInt z) (k : Z S L (pc + 1) (iV z :: st)) : Z S L pc (jV a :: st) := by
  obtain ⟨p, e, R, s, m, args, below, meth, c, A, H0, cells, slots, Q, rfl, hx, hb, hml, hown, hts, hK, hA, ho, hR, -, -, -, -⟩ := hZ
  intro H locs ls hP hD hS hl
  exact lv_l2i hx hb d h (k H locs ls hP hD hS hl)

theorem g_i2c (hZ : Cx Z E lay M Rt) {a z : Int} (d : decode M.2.1 pc = .ok (.i2c, 1)) (h : ((Int32.ofInt a).toUInt32 % 65536).toInt32 = Int32.ofInt z) (k : Z S L (pc + 1) (iV z :: st)) : Z S L pc (iV a :: st) := by
  obtain ⟨p, e, R, s, m, args, below, meth, c, A, H0, cells, slots, Q, rfl, hx, hb, hml, hown, hts, hK, hA, ho, hR, -, -, -, -⟩ := hZ
  intro H locs ls hP hD hS hl
  exact lv_i2c hx hb d h (k H locs ls hP hD hS hl)

theorem g_dup (hZ : Cx Z E lay M Rt) {v : Value} (d : decode M.2.1 pc = .ok (.dup, 1)) (hc : v.category = 1) (k : Z S L (pc + 1) (v :: v :: st)) : Z S L pc (v :: st) := by
  obtain ⟨p, e, R, s, m, args, below, meth, c, A, H0, cells, slots, Q, rfl, hx, hb, hml, hown, hts, hK, hA, ho, hR, -, -, -, -⟩ := hZ
  intro H locs ls hP hD hS hl
  exact lv_dup hx hb d hc (k H locs ls hP hD hS hl)

theorem g_dup2 (hZ : Cx Z E lay M Rt) {a b : Value} (d : decode M.2.1 pc = .ok (.dup2, 1)) (hc : a.category = 1) (hc2 : b.category = 1) (k : Z S L (pc + 1) (a :: b :: a :: b :: st)) : Z S L pc (a :: b :: st) := by
  obtain ⟨p, e, R, s, m, args, below, meth, c, A, H0, cells, slots, Q, rfl, hx, hb, hml, hown, hts, hK, hA, ho, hR, -, -, -, -⟩ := hZ
  intro H locs ls hP hD hS hl
  exact lv_dup2_11 hx hb d hc hc2 (k H locs ls hP hD hS hl)

theorem g_pop (hZ : Cx Z E lay M Rt) {v : Value} (d : decode M.2.1 pc = .ok (.pop, 1)) (hc : v.category = 1) (k : Z S L (pc + 1) st) : Z S L pc (v :: st) := by
  obtain ⟨p, e, R, s, m, args, below, meth, c, A, H0, cells, slots, Q, rfl, hx, hb, hml, hown, hts, hK, hA, ho, hR, -, -, -, -⟩ := hZ
  intro H locs ls hP hD hS hl
  exact lv_pop hx hb d hc (k H locs ls hP hD hS hl)

theorem g_goto (hZ : Cx Z E lay M Rt) {off : Int} (tgt : Nat) (d : decode M.2.1 pc = .ok (.goto off, 3)) (ht : (pc : Int) + off = (tgt : Int)) (k : Z S L tgt st) : Z S L pc st := by
  obtain ⟨p, e, R, s, m, args, below, meth, c, A, H0, cells, slots, Q, rfl, hx, hb, hml, hown, hts, hK, hA, ho, hR, -, -, -, -⟩ := hZ
  intro H locs ls hP hD hS hl
  exact lv_goto hx hb d ht (k H locs ls hP hD hS hl)

theorem g_if_eq (hZ : Cx Z E lay M Rt) {a off : Int} (tgt : Nat) (d : decode M.2.1 pc = .ok (.ifCond .eq off, 3)) (ht : (pc : Int) + off = (tgt : Int)) (ha : R32 a) (kt : a = 0 → Z S L tgt st) (kf : ¬ a = 0 → Z S L (pc + 3) st) : Z S L pc (iV a :: st) := by
  obtain ⟨p, e, R, s, m, args, below, meth, c, A, H0, cells, slots, Q, rfl, hx, hb, hml, hown, hts, hK, hA, ho, hR, -, -, -, -⟩ := hZ
  intro H locs ls hP hD hS hl
  exact lv_if_eq hx hb d ht (fun h => kt ((gi_z0 ha).mp h) H locs ls hP hD hS hl) (fun h => kf (fun q => h ((gi_z0 ha).mpr q)) H locs ls hP hD hS hl)

theorem g_if_lt (hZ : Cx Z E lay M Rt) {a off : Int} (tgt : Nat) (d : decode M.2.1 pc = .ok (.ifCond .lt off, 3)) (ht : (pc : Int) + off = (tgt : Int)) (ha : R32 a) (kt : a < 0 → Z S L tgt st) (kf : ¬ a < 0 → Z S L (pc + 3) st) : Z S L pc (iV a :: st) := by
  obtain ⟨p, e, R, s, m, args, below, meth, c, A, H0, cells, slots, Q, rfl, hx, hb, hml, hown, hts, hK, hA, ho, hR, -, -, -, -⟩ := hZ
  intro H locs ls hP hD hS hl
  exact lv_if_lt hx hb d ht (fun h => kt ((gi_zl ha).mp h) H locs ls hP hD hS hl) (fun h => kf (fun q => h ((gi_zl ha).mpr q)) H locs ls hP hD hS hl)

theorem g_if_le (hZ : Cx Z E lay M Rt) {a off : Int} (tgt : Nat) (d : decode M.2.1 pc = .ok (.ifCond .le off, 3)) (ht : (pc : Int) + off = (tgt : Int)) (ha : R32 a) (kt : a ≤ 0 → Z S L tgt st) (kf : ¬ a ≤ 0 → Z S L (pc + 3) st) : Z S L pc (iV a :: st) := by
  obtain ⟨p, e, R, s, m, args, below, meth, c, A, H0, cells, slots, Q, rfl, hx, hb, hml, hown, hts, hK, hA, ho, hR, -, -, -, -⟩ := hZ
  intro H locs ls hP hD hS hl
  exact lv_if_le hx hb d ht (fun h => kt ((gi_zle ha).mp h) H locs ls hP hD hS hl) (fun h => kf (fun q => h ((gi_zle ha).mpr q)) H locs ls hP hD hS hl)

theorem g_if_ge (hZ : Cx Z E lay M Rt) {a off : Int} (tgt : Nat) (d : decode M.2.1 pc = .ok (.ifCond .ge off, 3)) (ht : (pc : Int) + off = (tgt : Int)) (ha : R32 a) (kt : 0 ≤ a → Z S L tgt st) (kf : ¬ 0 ≤ a → Z S L (pc + 3) st) : Z S L pc (iV a :: st) := by
  obtain ⟨p, e, R, s, m, args, below, meth, c, A, H0, cells, slots, Q, rfl, hx, hb, hml, hown, hts, hK, hA, ho, hR, -, -, -, -⟩ := hZ
  intro H locs ls hP hD hS hl
  exact lv_if_ge hx hb d ht (fun h => kt ((gi_zge ha).mp h) H locs ls hP hD hS hl) (fun h => kf (fun q => h ((gi_zge ha).mpr q)) H locs ls hP hD hS hl)

theorem g_if_gt (hZ : Cx Z E lay M Rt) {a off : Int} (tgt : Nat) (d : decode M.2.1 pc = .ok (.ifCond .gt off, 3)) (ht : (pc : Int) + off = (tgt : Int)) (ha : R32 a) (kt : 0 < a → Z S L tgt st) (kf : ¬ 0 < a → Z S L (pc + 3) st) : Z S L pc (iV a :: st) := by
  obtain ⟨p, e, R, s, m, args, below, meth, c, A, H0, cells, slots, Q, rfl, hx, hb, hml, hown, hts, hK, hA, ho, hR, -, -, -, -⟩ := hZ
  intro H locs ls hP hD hS hl
  exact lv_if_gt hx hb d ht (fun h => kt ((gi_zg ha).mp h) H locs ls hP hD hS hl) (fun h => kf (fun q => h ((gi_zg ha).mpr q)) H locs ls hP hD hS hl)

theorem g_if_ne (hZ : Cx Z E lay M Rt) {a off : Int} (tgt : Nat) (d : decode M.2.1 pc = .ok (.ifCond .ne off, 3)) (ht : (pc : Int) + off = (tgt : Int)) (ha : R32 a) (kt : ¬ a = 0 → Z S L tgt st) (kf : a = 0 → Z S L (pc + 3) st) : Z S L pc (iV a :: st) := by
  obtain ⟨p, e, R, s, m, args, below, meth, c, A, H0, cells, slots, Q, rfl, hx, hb, hml, hown, hts, hK, hA, ho, hR, -, -, -, -⟩ := hZ
  intro H locs ls hP hD hS hl
  exact lv_if_ne hx hb d ht (fun h => kt (fun q => h ((gi_z0 ha).mpr q)) H locs ls hP hD hS hl) (fun h => kf ((gi_z0 ha).mp h) H locs ls hP hD hS hl)
theorem g_icmp_ne (hZ : Cx Z E lay M Rt) {a b off : Int} (tgt : Nat) (d : decode M.2.1 pc = .ok (.if_icmp .ne off, 3)) (ht : (pc : Int) + off = (tgt : Int)) (hr : R32 a ∧ R32 b) (kt : ¬ a = b → Z S L tgt st) (kf : a = b → Z S L (pc + 3) st) : Z S L pc (iV b :: iV a :: st) := by
  obtain ⟨p, e, R, s, m, args, below, meth, c, A, H0, cells, slots, Q, rfl, hx, hb, hml, hown, hts, hK, hA, ho, hR, -, -, -, -⟩ := hZ
  intro H locs ls hP hD hS hl
  exact lv_icmp_ne hx hb d ht (fun h => kt (fun q => h ((gi_eq hr.1 hr.2).mpr q)) H locs ls hP hD hS hl) (fun h => kf ((gi_eq hr.1 hr.2).mp h) H locs ls hP hD hS hl)

theorem g_icmp_eq (hZ : Cx Z E lay M Rt) {a b off : Int} (tgt : Nat) (d : decode M.2.1 pc = .ok (.if_icmp .eq off, 3)) (ht : (pc : Int) + off = (tgt : Int)) (hr : R32 a ∧ R32 b) (kt : a = b → Z S L tgt st) (kf : ¬ a = b → Z S L (pc + 3) st) : Z S L pc (iV b :: iV a :: st) := by
  obtain ⟨p, e, R, s, m, args, below, meth, c, A, H0, cells, slots, Q, rfl, hx, hb, hml, hown, hts, hK, hA, ho, hR, -, -, -, -⟩ := hZ
  intro H locs ls hP hD hS hl
  exact lv_icmp_eq hx hb d ht (fun h => kt ((gi_eq hr.1 hr.2).mp h) H locs ls hP hD hS hl) (fun h => kf (fun q => h ((gi_eq hr.1 hr.2).mpr q)) H locs ls hP hD hS hl)

theorem g_icmp_lt (hZ : Cx Z E lay M Rt) {a b off : Int} (tgt : Nat) (d : decode M.2.1 pc = .ok (.if_icmp .lt off, 3)) (ht : (pc : Int) + off = (tgt : Int)) (hr : R32 a ∧ R32 b) (kt : a < b → Z S L tgt st) (kf : ¬ a < b → Z S L (pc + 3) st) : Z S L pc (iV b :: iV a :: st) := by
  obtain ⟨p, e, R, s, m, args, below, meth, c, A, H0, cells, slots, Q, rfl, hx, hb, hml, hown, hts, hK, hA, ho, hR, -, -, -, -⟩ := hZ
  intro H locs ls hP hD hS hl
  exact lv_icmp_lt hx hb d ht (fun h => kt ((gi_lt hr.1 hr.2).mp h) H locs ls hP hD hS hl) (fun h => kf (fun q => h ((gi_lt hr.1 hr.2).mpr q)) H locs ls hP hD hS hl)

theorem g_icmp_le (hZ : Cx Z E lay M Rt) {a b off : Int} (tgt : Nat) (d : decode M.2.1 pc = .ok (.if_icmp .le off, 3)) (ht : (pc : Int) + off = (tgt : Int)) (hr : R32 a ∧ R32 b) (kt : a ≤ b → Z S L tgt st) (kf : ¬ a ≤ b → Z S L (pc + 3) st) : Z S L pc (iV b :: iV a :: st) := by
  obtain ⟨p, e, R, s, m, args, below, meth, c, A, H0, cells, slots, Q, rfl, hx, hb, hml, hown, hts, hK, hA, ho, hR, -, -, -, -⟩ := hZ
  intro H locs ls hP hD hS hl
  exact lv_icmp_le hx hb d ht (fun h => kt ((gi_le hr.1 hr.2).mp h) H locs ls hP hD hS hl) (fun h => kf (fun q => h ((gi_le hr.1 hr.2).mpr q)) H locs ls hP hD hS hl)

theorem g_icmp_ge (hZ : Cx Z E lay M Rt) {a b off : Int} (tgt : Nat) (d : decode M.2.1 pc = .ok (.if_icmp .ge off, 3)) (ht : (pc : Int) + off = (tgt : Int)) (hr : R32 a ∧ R32 b) (kt : b ≤ a → Z S L tgt st) (kf : ¬ b ≤ a → Z S L (pc + 3) st) : Z S L pc (iV b :: iV a :: st) := by
  obtain ⟨p, e, R, s, m, args, below, meth, c, A, H0, cells, slots, Q, rfl, hx, hb, hml, hown, hts, hK, hA, ho, hR, -, -, -, -⟩ := hZ
  intro H locs ls hP hD hS hl
  exact lv_icmp_ge hx hb d ht (fun h => kt ((gi_le hr.2 hr.1).mp h) H locs ls hP hD hS hl) (fun h => kf (fun q => h ((gi_le hr.2 hr.1).mpr q)) H locs ls hP hD hS hl)

theorem g_icmp_gt (hZ : Cx Z E lay M Rt) {a b off : Int} (tgt : Nat) (d : decode M.2.1 pc = .ok (.if_icmp .gt off, 3)) (ht : (pc : Int) + off = (tgt : Int)) (hr : R32 a ∧ R32 b) (kt : b < a → Z S L tgt st) (kf : ¬ b < a → Z S L (pc + 3) st) : Z S L pc (iV b :: iV a :: st) := by
  obtain ⟨p, e, R, s, m, args, below, meth, c, A, H0, cells, slots, Q, rfl, hx, hb, hml, hown, hts, hK, hA, ho, hR, -, -, -, -⟩ := hZ
  intro H locs ls hP hD hS hl
  exact lv_icmp_gt hx hb d ht (fun h => kt ((gi_lt hr.2 hr.1).mp h) H locs ls hP hD hS hl) (fun h => kf (fun q => h ((gi_lt hr.2 hr.1).mpr q)) H locs ls hP hD hS hl)

theorem g_lcmp (hZ : Cx Z E lay M Rt) {a b : Int} (d : decode M.2.1 pc = .ok (.lcmp, 1)) (ha : R64 a) (hb2 : R64 b) (k : Z S L (pc + 1) (iV (if a = b then 0 else if b < a then 1 else -1) :: st)) : Z S L pc (jV b :: jV a :: st) := by
  obtain ⟨p, e, R, s, m, args, below, meth, c, A, H0, cells, slots, Q, rfl, hx, hb, hml, hown, hts, hK, hA, ho, hR, -, -, -, -⟩ := hZ
  intro H locs ls hP hD hS hl
  refine W.lcmp hx hb d ?_
  have e : lg_cmp (Int64.ofInt a) (Int64.ofInt b) = Int32.ofInt (if a = b then 0 else if b < a then 1 else -1) := by
    unfold lg_cmp
    by_cases h : a = b
    · have h2 : ¬ Int64.ofInt a > Int64.ofInt b := fun q => by have := (gj_lt hb2 ha).mp q; omega
      rw [if_neg h2, if_pos ((gj_eq ha hb2).mpr h), if_pos h]; rfl
    · by_cases h2 : b < a
      · rw [if_pos (show Int64.ofInt a > Int64.ofInt b from (gj_lt hb2 ha).mpr h2), if_neg h, if_pos h2]; rfl
      · rw [if_neg (fun q => h2 ((gj_lt hb2 ha).mp q)), if_neg (fun q => h ((gj_eq ha hb2).mp q)), if_neg h, if_neg h2]; rfl
  rw [e]
  exact k H locs ls hP hD hS hl

theorem g_switch (hZ : Cx Z E lay M Rt) {a dflt lo hi off : Int} {offs : Array Int} {len : Nat} (tgt : Nat) (d : decode M.2.1 pc = .ok (.tableswitch dflt lo hi offs, len)) (ha : R32 a) (h1 : lo ≤ a) (h2 : a ≤ hi) (h3 : offs[(a - lo).toNat]? = some off) (ht : (pc : Int) + off = (tgt : Int)) (k : Z S L tgt st) : Z S L pc (iV a :: st) := by
  obtain ⟨p, e, R, s, m, args, below, meth, c, A, H0, cells, slots, Q, rfl, hx, hb, hml, hown, hts, hK, hA, ho, hR, -, -, -, -⟩ := hZ
  intro H locs ls hP hD hS hl
  exact lv_tableIn hx hb d (by rw [gi_ti ha]; omega) (by rw [gi_ti ha]; omega) (by rw [gi_ti ha]; exact h3) ht (k H locs ls hP hD hS hl)
theorem g_switchOut (hZ : Cx Z E lay M Rt) {a dflt lo hi : Int} {offs : Array Int} {len : Nat} (tgt : Nat) (d : decode M.2.1 pc = .ok (.tableswitch dflt lo hi offs, len)) (ha : R32 a) (h1 : a < lo ∨ hi < a) (ht : (pc : Int) + dflt = (tgt : Int)) (k : Z S L tgt st) : Z S L pc (iV a :: st) := by
  obtain ⟨p, e, R, s, m, args, below, meth, c, A, H0, cells, slots, Q, rfl, hx, hb, hml, hown, hts, hK, hA, ho, hR, -, -, -, -⟩ := hZ
  intro H locs ls hP hD hS hl
  exact lv_tableOut hx hb d (by rw [gi_ti ha]; exact h1) ht (k H locs ls hP hD hS hl)

theorem g_keep (hZ : Cx Z E lay M Rt) (ks : List Nat) {L' : List (Nat × Value)} (h : lkeep L ks = L') (k : Z S L' pc st) : Z S L pc st := by
  obtain ⟨p, e, R, s, m, args, below, meth, c, A, H0, cells, slots, Q, rfl, hx, hb, hml, hown, hts, hK, hA, ho, hR, -, -, -, -⟩ := hZ
  intro H locs ls hP hD hS hl
  exact k H locs ls hP hD hS (lv_mono hl fun q hq => by rw [← h] at hq; exact (List.mem_filter.mp hq).1)
theorem g_state (hZ : Cx Z E lay M Rt) {S' : gS} (h : S = S') (k : Z S' L pc st) : Z S L pc st := h ▸ k

/-- a field's word: the class that reads it, the number in its pool, the cell's class, the slot, the type -/
def gF (own : String) (i ci k : Nat) (ty : FieldType) : Prop := ∃ (C : String) (T : u_T) (N : Nat) (ty0 : Nat → FieldType), gcl[ci]? = some (C, T, N) ∧ k < N ∧ Cond.fieldLink own i (T k).1 (T k).2.1 (T k).2.2.1 ∈ TS ∧ (∀ w ∈ u_ws C T N, w ∈ TS) ∧ (∀ k, k < N → parseFieldDescriptor (T k).2.2.1 = some (ty0 k)) ∧ (∀ a, a < N → ∀ b, b < N → a ≠ b → (T a).2.1 ≠ (T b).2.1) ∧ ty0 k = ty ∧ ((T k).2.2.2 = false ∨ ty ≠ .int ∧ ty ≠ .long)

theorem g_geti (hZ : Cx Z E lay M Rt) {i ci k0 q v : Nat} {sl : List (Nat × Nat)} {ty : FieldType} {z : Int} (hF : gF M.1.cls i ci k0 ty) (hc : lay[q]? = some (.inl (ci, sl))) (hk : sl[k0]? = some (0, v)) (d : decode M.2.1 pc = .ok (.getfield i, 3)) (hz : S v 0 = z) (k : Z S L (pc + 3) (iV z :: st)) : Z S L pc (.ref (gad E q) :: st) := by
  obtain ⟨p, e, R, s, m, args, below, meth, c, A, H0, cells, slots, Q, rfl, hx, hb, hml, hown, hts, hK, hA, ho, hR, -, -, -, -⟩ := hZ
  intro H locs ls hP hD hS hl
  obtain ⟨C, T, N, ty0, h1, h2, h3, h4, h5, h6, h7, -⟩ := hF
  subst hz
  exact va_get (D := E.2.1) (ci := ci) (v := iV (S v 0)) (C := C) (T := T) (N := N) hx hb hts h4 hown hK hP q (g_wl_get hc) h1 k0 h2 (hts _ h3) (fun _ h9 => h9) (by rw [List.getElem?_map, hk]; rfl) d (k H locs ls hP hD hS hl)
theorem g_puti (hZ : Cx Z E lay M Rt) {i ci k0 q v : Nat} {sl : List (Nat × Nat)} {z : Int} (hF : gF M.1.cls i ci k0 .int) (hc : lay[q]? = some (.inl (ci, sl))) (hk : sl[k0]? = some (0, v)) (d : decode M.2.1 pc = .ok (.putfield i, 3)) (k : Z (upS S v 0 z) L (pc + 3) st) : Z S L pc (iV z :: .ref (gad E q) :: st) := by
  obtain ⟨p, e, R, s, m, args, below, meth, c, A, H0, cells, slots, Q, rfl, hx, hb, hml, hown, hts, hK, hA, ho, hR, -, -, -, -⟩ := hZ
  intro H locs ls hP hD hS hl
  obtain ⟨C, T, N, ty0, h1, h2, h3, h4, h5, h6, h7, h8⟩ := hF
  have hfin : (T k0).2.2.2 = false := by rcases h8 with h8 | h8 <;> first | exact h8 | exact absurd rfl h8.1 | exact absurd rfl h8.2
  refine va_put (D := E.2.1) (ci := ci) (v := iV z) (ty := .int) (C := C) (T := T) (N := N) hx hb hts h4 ty0 h5 h6 hown hK hP hD hS q (g_wl_get hc) h1 k0 h2 (hts _ h3) (fun _ h9 => h9) hfin (by rw [h5 k0 h2, h7]) rfl rfl (by rw [List.length_map]; exact (List.getElem?_eq_some_iff.mp hk).1) d (fun H1 locs1 hP1 hD1 hS1 => ?_)
  have e := g_wl_set (E := E) (S := S) (z := z) (j := 0) ho hc (g_mem_f hk (by omega)) (g_el_f (x := iV z) ho hc hk (by omega) (by show iV (upS S v 0 z v 0) = iV z; rw [upS_eq]))
  exact k H1 locs1 ls (by rw [← e]; exact hP1) (g_D hD) hS1 hl

theorem g_getj (hZ : Cx Z E lay M Rt) {i ci k0 q v : Nat} {sl : List (Nat × Nat)} {ty : FieldType} {z : Int} (hF : gF M.1.cls i ci k0 ty) (hc : lay[q]? = some (.inl (ci, sl))) (hk : sl[k0]? = some (1, v)) (d : decode M.2.1 pc = .ok (.getfield i, 3)) (hz : S v 0 = z) (k : Z S L (pc + 3) (jV z :: st)) : Z S L pc (.ref (gad E q) :: st) := by
  obtain ⟨p, e, R, s, m, args, below, meth, c, A, H0, cells, slots, Q, rfl, hx, hb, hml, hown, hts, hK, hA, ho, hR, -, -, -, -⟩ := hZ
  intro H locs ls hP hD hS hl
  obtain ⟨C, T, N, ty0, h1, h2, h3, h4, h5, h6, h7, -⟩ := hF
  subst hz
  exact va_get (D := E.2.1) (ci := ci) (v := jV (S v 0)) (C := C) (T := T) (N := N) hx hb hts h4 hown hK hP q (g_wl_get hc) h1 k0 h2 (hts _ h3) (fun _ h9 => h9) (by rw [List.getElem?_map, hk]; rfl) d (k H locs ls hP hD hS hl)
theorem g_putj (hZ : Cx Z E lay M Rt) {i ci k0 q v : Nat} {sl : List (Nat × Nat)} {z : Int} (hF : gF M.1.cls i ci k0 .long) (hc : lay[q]? = some (.inl (ci, sl))) (hk : sl[k0]? = some (1, v)) (d : decode M.2.1 pc = .ok (.putfield i, 3)) (k : Z (upS S v 0 z) L (pc + 3) st) : Z S L pc (jV z :: .ref (gad E q) :: st) := by
  obtain ⟨p, e, R, s, m, args, below, meth, c, A, H0, cells, slots, Q, rfl, hx, hb, hml, hown, hts, hK, hA, ho, hR, -, -, -, -⟩ := hZ
  intro H locs ls hP hD hS hl
  obtain ⟨C, T, N, ty0, h1, h2, h3, h4, h5, h6, h7, h8⟩ := hF
  have hfin : (T k0).2.2.2 = false := by rcases h8 with h8 | h8 <;> first | exact h8 | exact absurd rfl h8.1 | exact absurd rfl h8.2
  refine va_put (D := E.2.1) (ci := ci) (v := jV z) (ty := .long) (C := C) (T := T) (N := N) hx hb hts h4 ty0 h5 h6 hown hK hP hD hS q (g_wl_get hc) h1 k0 h2 (hts _ h3) (fun _ h9 => h9) hfin (by rw [h5 k0 h2, h7]) rfl rfl (by rw [List.length_map]; exact (List.getElem?_eq_some_iff.mp hk).1) d (fun H1 locs1 hP1 hD1 hS1 => ?_)
  have e := g_wl_set (E := E) (S := S) (z := z) (j := 0) ho hc (g_mem_f hk (by omega)) (g_el_f (x := jV z) ho hc hk (by omega) (by show jV (upS S v 0 z v 0) = jV z; rw [upS_eq]))
  exact k H1 locs1 ls (by rw [← e]; exact hP1) (g_D hD) hS1 hl

theorem g_getr (hZ : Cx Z E lay M Rt) {i ci k0 q q2 : Nat} {sl : List (Nat × Nat)} {ty : FieldType} (hF : gF M.1.cls i ci k0 ty) (hc : lay[q]? = some (.inl (ci, sl))) (hk : sl[k0]? = some (2, q2)) (d : decode M.2.1 pc = .ok (.getfield i, 3)) (k : Z S L (pc + 3) (.ref (gad E q2) :: st)) : Z S L pc (.ref (gad E q) :: st) := by
  obtain ⟨p, e, R, s, m, args, below, meth, c, A, H0, cells, slots, Q, rfl, hx, hb, hml, hown, hts, hK, hA, ho, hR, -, -, -, -⟩ := hZ
  intro H locs ls hP hD hS hl
  obtain ⟨C, T, N, ty0, h1, h2, h3, h4, h5, h6, h7, -⟩ := hF
  exact va_get (D := E.2.1) (ci := ci) (v := .ref (gad E q2)) (C := C) (T := T) (N := N) hx hb hts h4 hown hK hP q (g_wl_get hc) h1 k0 h2 (hts _ h3) (fun _ h9 => h9) (by rw [List.getElem?_map, hk]; rfl) d (k H locs ls hP hD hS hl)

theorem g_iald (hZ : Cx Z E lay M Rt) {q n v : Nat} {i z : Int} (k0 : Nat) (hc : lay[q]? = some (.inr (0, n, v))) (d : decode M.2.1 pc = .ok (.iaload, 1)) (hi : i = (k0 : Int)) (hn : k0 < n) (hn2 : n < 2147483648) (hz : S v k0 = z) (k : Z S L (pc + 1) (iV z :: st)) : Z S L pc (iV i :: .ref (gad E q) :: st) := by
  obtain ⟨p, e, R, s, m, args, below, meth, c, A, H0, cells, slots, Q, rfl, hx, hb, hml, hown, hts, hK, hA, ho, hR, -, -, -, -⟩ := hZ
  intro H locs ls hP hD hS hl
  subst hi; subst hz
  have kk := k H locs ls hP hD hS hl
  refine va_iald hx hb hK hP q 0 (g_wl_get hc) rfl (gi_in hn hn2) d ?_
  rw [gi_cl (by omega)]
  exact kk

theorem g_zald (hZ : Cx Z E lay M Rt) {q n v : Nat} {i z : Int} (k0 : Nat) (hc : lay[q]? = some (.inr (2, n, v))) (d : decode M.2.1 pc = .ok (.baload, 1)) (hi : i = (k0 : Int)) (hn : k0 < n) (hn2 : n < 2147483648) (hz : S v k0 = z) (k : Z S L (pc + 1) (iV z :: st)) : Z S L pc (iV i :: .ref (gad E q) :: st) := by
  obtain ⟨p, e, R, s, m, args, below, meth, c, A, H0, cells, slots, Q, rfl, hx, hb, hml, hown, hts, hK, hA, ho, hR, -, -, -, -⟩ := hZ
  intro H locs ls hP hD hS hl
  subst hi; subst hz
  have kk := k H locs ls hP hD hS hl
  refine va_zald hx hb hK hP q 2 (g_wl_get hc) rfl (gi_in hn hn2) d ?_
  rw [gi_cl (by omega)]
  exact kk

theorem g_cald (hZ : Cx Z E lay M Rt) {q n v : Nat} {i z : Int} (k0 : Nat) (hc : lay[q]? = some (.inr (3, n, v))) (d : decode M.2.1 pc = .ok (.caload, 1)) (hi : i = (k0 : Int)) (hn : k0 < n) (hn2 : n < 2147483648) (hz : S v k0 = z) (k : Z S L (pc + 1) (iV z :: st)) : Z S L pc (iV i :: .ref (gad E q) :: st) := by
  obtain ⟨p, e, R, s, m, args, below, meth, c, A, H0, cells, slots, Q, rfl, hx, hb, hml, hown, hts, hK, hA, ho, hR, -, -, -, -⟩ := hZ
  intro H locs ls hP hD hS hl
  subst hi; subst hz
  have kk := k H locs ls hP hD hS hl
  refine va_cald hx hb hK hP q 3 (g_wl_get hc) rfl (gi_in hn hn2) d ?_
  rw [gi_cl (by omega)]
  exact kk

theorem g_lald (hZ : Cx Z E lay M Rt) {q n v : Nat} {i z : Int} (k0 : Nat) (hc : lay[q]? = some (.inr (1, n, v))) (d : decode M.2.1 pc = .ok (.laload, 1)) (hi : i = (k0 : Int)) (hn : k0 < n) (hn2 : n < 2147483648) (hz : S v k0 = z) (k : Z S L (pc + 1) (jV z :: st)) : Z S L pc (iV i :: .ref (gad E q) :: st) := by
  obtain ⟨p, e, R, s, m, args, below, meth, c, A, H0, cells, slots, Q, rfl, hx, hb, hml, hown, hts, hK, hA, ho, hR, -, -, -, -⟩ := hZ
  intro H locs ls hP hD hS hl
  subst hi; subst hz
  have kk := k H locs ls hP hD hS hl
  refine va_lald hx hb hK hP q 1 (g_wl_get hc) rfl (gi_in hn hn2) d ?_
  rw [gi_cl (by omega)]
  exact kk

theorem g_iast (hZ : Cx Z E lay M Rt) {q n v : Nat} {i z : Int} (k0 : Nat) (hc : lay[q]? = some (.inr (0, n, v))) (d : decode M.2.1 pc = .ok (.iastore, 1)) (hi : i = (k0 : Int)) (hn : k0 < n) (hn2 : n < 2147483648) (k : Z (upS S v k0 z) L (pc + 1) st) : Z S L pc (iV z :: iV i :: .ref (gad E q) :: st) := by
  obtain ⟨p, e, R, s, m, args, below, meth, c, A, H0, cells, slots, Q, rfl, hx, hb, hml, hown, hts, hK, hA, ho, hR, -, -, -, -⟩ := hZ
  intro H locs ls hP hD hS hl
  subst hi
  refine va_iast hx hb hK hP hD hS q 0 (g_wl_get hc) rfl (gi_in hn hn2) d (fun H1 locs1 hP1 hD1 hS1 => ?_)
  rw [gi_cl (by omega)] at hP1
  have e := g_wl_set (E := E) (S := S) (z := z) (j := k0) ho hc (show v ∈ [v] from List.mem_singleton.mpr rfl) (g_el_a rfl)
  exact k H1 locs1 ls (by rw [← e]; exact hP1) (g_D hD) hS1 hl

theorem g_zast (hZ : Cx Z E lay M Rt) {q n v : Nat} {i z : Int} (k0 : Nat) (hc : lay[q]? = some (.inr (2, n, v))) (d : decode M.2.1 pc = .ok (.bastore, 1)) (hi : i = (k0 : Int)) (hn : k0 < n) (hn2 : n < 2147483648) (hnar : vp_nar .boolean (Int32.ofInt z) = Int32.ofInt z) (k : Z (upS S v k0 z) L (pc + 1) st) : Z S L pc (iV z :: iV i :: .ref (gad E q) :: st) := by
  obtain ⟨p, e, R, s, m, args, below, meth, c, A, H0, cells, slots, Q, rfl, hx, hb, hml, hown, hts, hK, hA, ho, hR, -, -, -, -⟩ := hZ
  intro H locs ls hP hD hS hl
  subst hi
  refine va_zast hx hb hK hP hD hS q 2 (g_wl_get hc) rfl (gi_in hn hn2) d (fun H1 locs1 hP1 hD1 hS1 => ?_)
  rw [hnar] at hP1
  rw [gi_cl (by omega)] at hP1
  have e := g_wl_set (E := E) (S := S) (z := z) (j := k0) ho hc (show v ∈ [v] from List.mem_singleton.mpr rfl) (g_el_a rfl)
  exact k H1 locs1 ls (by rw [← e]; exact hP1) (g_D hD) hS1 hl

theorem g_cast (hZ : Cx Z E lay M Rt) {q n v : Nat} {i z : Int} (k0 : Nat) (hc : lay[q]? = some (.inr (3, n, v))) (d : decode M.2.1 pc = .ok (.castore, 1)) (hi : i = (k0 : Int)) (hn : k0 < n) (hn2 : n < 2147483648) (hnar : vp_nar .char (Int32.ofInt z) = Int32.ofInt z) (k : Z (upS S v k0 z) L (pc + 1) st) : Z S L pc (iV z :: iV i :: .ref (gad E q) :: st) := by
  obtain ⟨p, e, R, s, m, args, below, meth, c, A, H0, cells, slots, Q, rfl, hx, hb, hml, hown, hts, hK, hA, ho, hR, -, -, -, -⟩ := hZ
  intro H locs ls hP hD hS hl
  subst hi
  refine va_cast hx hb hK hP hD hS q 3 (g_wl_get hc) rfl (gi_in hn hn2) d (fun H1 locs1 hP1 hD1 hS1 => ?_)
  rw [hnar] at hP1
  rw [gi_cl (by omega)] at hP1
  have e := g_wl_set (E := E) (S := S) (z := z) (j := k0) ho hc (show v ∈ [v] from List.mem_singleton.mpr rfl) (g_el_a rfl)
  exact k H1 locs1 ls (by rw [← e]; exact hP1) (g_D hD) hS1 hl

theorem g_last (hZ : Cx Z E lay M Rt) {q n v : Nat} {i z : Int} (k0 : Nat) (hc : lay[q]? = some (.inr (1, n, v))) (d : decode M.2.1 pc = .ok (.lastore, 1)) (hi : i = (k0 : Int)) (hn : k0 < n) (hn2 : n < 2147483648) (k : Z (upS S v k0 z) L (pc + 1) st) : Z S L pc (jV z :: iV i :: .ref (gad E q) :: st) := by
  obtain ⟨p, e, R, s, m, args, below, meth, c, A, H0, cells, slots, Q, rfl, hx, hb, hml, hown, hts, hK, hA, ho, hR, -, -, -, -⟩ := hZ
  intro H locs ls hP hD hS hl
  subst hi
  refine va_last hx hb hK hP hD hS q 1 (g_wl_get hc) rfl (gi_in hn hn2) d (fun H1 locs1 hP1 hD1 hS1 => ?_)
  rw [gi_cl (by omega)] at hP1
  have e := g_wl_set (E := E) (S := S) (z := z) (j := k0) ho hc (show v ∈ [v] from List.mem_singleton.mpr rfl) g_el_l
  exact k H1 locs1 ls (by rw [← e]; exact hP1) (g_D hD) hS1 hl

theorem g_iret (hZ : Cx Z E lay M Rt) {z : Int} (d : decode M.2.1 pc = .ok (.ireturn, 1)) (hr : M.2.2.2.1 = some .int) (h : Rt (some (iV z)) S) : Z S L pc [iV z] := by
  obtain ⟨p, e, R, s, m, args, below, meth, c, A, H0, cells, slots, Q, -, hx, hb, hml, hown, hts, hK, hA, ho, hR, h1, -, -, -⟩ := hZ
  exact h1 pc S L z d (Or.inl hr) h
theorem g_zret (hZ : Cx Z E lay M Rt) {z : Int} (d : decode M.2.1 pc = .ok (.ireturn, 1)) (hr : M.2.2.2.1 = some .boolean) (hz : z = 0 ∨ z = 1) (h : Rt (some (iV z)) S) : Z S L pc [iV z] := by
  obtain ⟨p, e, R, s, m, args, below, meth, c, A, H0, cells, slots, Q, -, hx, hb, hml, hown, hts, hK, hA, ho, hR, h1, -, -, -⟩ := hZ
  exact h1 pc S L z d (Or.inr ⟨hr, hz⟩) h
theorem g_lret (hZ : Cx Z E lay M Rt) {z : Int} (d : decode M.2.1 pc = .ok (.lreturn, 1)) (hr : M.2.2.2.1 = some .long) (h : Rt (some (jV z)) S) : Z S L pc [jV z] := by
  obtain ⟨p, e, R, s, m, args, below, meth, c, A, H0, cells, slots, Q, -, hx, hb, hml, hown, hts, hK, hA, ho, hR, -, h1, -, -⟩ := hZ
  exact h1 pc S L z d hr h
theorem g_vret (hZ : Cx Z E lay M Rt) (d : decode M.2.1 pc = .ok (.return_, 1)) (hr : M.2.2.2.1 = none) (h : Rt none S) : Z S L pc [] := by
  obtain ⟨p, e, R, s, m, args, below, meth, c, A, H0, cells, slots, Q, -, hx, hb, hml, hown, hts, hK, hA, ho, hR, -, -, h1, -⟩ := hZ
  exact h1 pc S L d hr h
theorem g_aret (hZ : Cx Z E lay M Rt) {a : Nat} {n : String} (d : decode M.2.1 pc = .ok (.areturn, 1)) (hr : M.2.2.2.1 = some (.object n)) (h : Rt (some (.ref a)) S) : Z S L pc [.ref a] := by
  obtain ⟨p, e, R, s, m, args, below, meth, c, A, H0, cells, slots, Q, -, hx, hb, hml, hown, hts, hK, hA, ho, hR, -, -, -, h1⟩ := hZ
  exact h1 pc S L a d ⟨n, hr⟩ h

theorem g_good {M2 : gM} (h : Cond.code M2.1 M2.2.1 M2.2.2.1 M2.2.2.2.1 ∈ TS) : GoodIn TS (gws M2) := by
  intro w hw
  have hm : w ∈ TS := by
    rcases List.mem_cons.mp hw with e | h2
    · rw [e]; exact h
    · exact h2
  exact ⟨hm, good_of_word (List.all_eq_true.mp TS_good w hm)⟩
/-- a call's words: virtual, static -/
def gV (own : String) (i : Nat) (M2 : gM) (n : Nat) : Prop := Cond.code M2.1 M2.2.1 M2.2.2.1 M2.2.2.2.1 ∈ TS ∧ Cond.initialized M2.1.cls ∈ TS ∧ Cond.methodLink own i M2.1 ∈ TS ∧ Cond.instanceMethod M2.1 ∈ TS ∧ Cond.selects M2.1.cls M2.1 M2.1 ∈ TS ∧ (M2.1.cls ≠ "java/lang/invoke/MethodHandle" ∧ M2.1.cls ≠ "java/lang/invoke/VarHandle" ∧ (parseMethodDescriptor M2.1.desc).map (fun d => d.parameters.length) = some n)
def gSt (own : String) (i : Nat) (M2 : gM) (n : Nat) : Prop := Cond.code M2.1 M2.2.1 M2.2.2.1 M2.2.2.2.1 ∈ TS ∧ Cond.initialized M2.1.cls ∈ TS ∧ Cond.methodLink own i M2.1 ∈ TS ∧ Cond.static M2.1 ∈ TS ∧ (M2.1.cls ≠ "java/lang/invoke/MethodHandle" ∧ M2.1.cls ≠ "java/lang/invoke/VarHandle" ∧ (parseMethodDescriptor M2.1.desc).map (fun d => d.parameters.length) = some n)

theorem g_callV (hZ : Cx Z E lay M Rt) {M2 : gM} {i n q ci : Nat} {sl : List (Nat × Nat)} {T : u_T} {N : Nat} {As st0 : List Value} {Post : Option Value → gS → Prop} (hM : Ct E lay M2 (.ref (gad E q) :: As) S Post) (hw : gV M.1.cls i M2 n) (hR2 : M2.2.2.2.2.1 + 1 ≤ M.2.2.2.2.1 ∧ 8 + (M2.2.2.1 + 11) + M2.2.2.2.2.2 ≤ M.2.2.2.2.2) (hc : lay[q]? = some (.inl (ci, sl))) (hcl : gcl[ci]? = some (M2.1.cls, T, N)) (hn : As.length = n) (hst : st0 = As.reverse ++ .ref (gad E q) :: st) (hcat : (st.map fun v => v.category).sum ≤ 8) (d : decode M.2.1 pc = .ok (.invokevirtual i, 3))
    (kk : ∀ (v : Option Value) (S' : gS), Post v S' → Z S' L (pc + 3) (v.toList ++ st)) : Z S L pc st0 := by
  obtain ⟨p, e, R, s, m, args, below, meth, c, A, H0, cells, slots, Q, rfl, hx, hb, hml, hown, hts, hK, hA, ho, hR, -, -, -, -⟩ := hZ
  intro H locs ls hP hD hS hl
  obtain ⟨w1, w2, w3, w4, w5, w6⟩ := hw
  have cb : CallW R s args M.1.cls M2.1.cls i M2.1 M2.2.1 M2.2.2.1 M2.2.2.2.1 (gws M2) (gRm M2) 0 0 n := ⟨callB_of n hts (g_good w1) rfl rfl rfl (hts _ w2) (hts _ w3) w6 ⟨by rw [hR.1]; exact hR2.1, by rw [hR.2.1]; exact hR2.2⟩, hts _ w4, hts _ w5⟩
  have run := va_runV (p := p) (l := E.1) (e := e) (R := R) (below := below) (meth := meth) (H := H) (locs := locs) (cells := cells) (slots := slots) ⟨hx, hb, hml, hown, hts⟩ (hM H.size) cb ⟨g_blind, va_recv hK hP hcl (g_wl_get hc), fun U hU hW => ⟨rfl, by rw [hU], by rw [hU]; exact hP, va_K.moved hW.alike hK, hD.weaken (fun _ _ _ _ => trivial)⟩⟩ (g := F0 m pc ls st0) (rest := st) rfl hn hl.1 hst (lv_room hcat) d ⟨hR.2.2.1, hR.2.2.2⟩
  intro T hT X
  obtain ⟨v, st₀, t, T', L1, h0, X', hL, e1, e2, ⟨⟨v2, S', hv, hp, hP1⟩, hz, hk⟩, stp⟩ := run T hT X
  cases hv
  rw [h0] at hz hk
  have hAA := g_A_of (sz := H.size) hD (fun q hq => hA q (Nat.le_trans hS.1 hq))
  obtain ⟨t2, a1, b1⟩ := kk v S' hp T'.heap (locs ++ L1) ls (by rw [e1]; exact hP1) (g_D hD)
    ⟨Nat.le_trans hS.1 (by rw [e1]; exact hz), fun q h1 h2 => by rw [e1, hk q (Nat.lt_of_lt_of_le h1 hS.1) (fun z => h2 (hAA q z))]; exact hS.2.1 q h1 h2, fun q hq => by
      rcases List.mem_append.mp hq with h | h
      · exact hS.2.2 q h
      · exact hAA _ (hL q h)⟩ hl T' rfl X'
  exact ⟨t2, stp t2 a1, b1⟩
theorem g_callS (hZ : Cx Z E lay M Rt) {M2 : gM} {i n : Nat} {As st0 : List Value} {Post : Option Value → gS → Prop} (hM : Ct E lay M2 As S Post) (hw : gSt M.1.cls i M2 n) (hR2 : M2.2.2.2.2.1 + 1 ≤ M.2.2.2.2.1 ∧ 8 + (M2.2.2.1 + 11) + M2.2.2.2.2.2 ≤ M.2.2.2.2.2) (hn : As.length = n) (hst : st0 = As.reverse ++ st) (hcat : (st.map fun v => v.category).sum ≤ 8) (d : decode M.2.1 pc = .ok (.invokestatic i, 3))
    (kk : ∀ (v : Option Value) (S' : gS), Post v S' → Z S' L (pc + 3) (v.toList ++ st)) : Z S L pc st0 := by
  obtain ⟨p, e, R, s, m, args, below, meth, c, A, H0, cells, slots, Q, rfl, hx, hb, hml, hown, hts, hK, hA, ho, hR, -, -, -, -⟩ := hZ
  intro H locs ls hP hD hS hl
  obtain ⟨w1, w2, w3, w4, w6⟩ := hw
  have cb : CallB R s args M.1.cls i M2.1 M2.2.1 M2.2.2.1 M2.2.2.2.1 (gws M2) (gRm M2) 0 0 n ∧ (Cond.static M2.1).before args s = true := ⟨callB_of n hts (g_good w1) rfl rfl rfl (hts _ w2) (hts _ w3) w6 ⟨by rw [hR.1]; exact hR2.1, by rw [hR.2.1]; exact hR2.2⟩, hts _ w4⟩
  have run := va_runS (p := p) (l := E.1) (e := e) (R := R) (below := below) (meth := meth) (H := H) (locs := locs) (cells := cells) (slots := slots) ⟨hx, hb, hml, hown, hts⟩ (hM H.size) cb ⟨g_blind, fun U hU hW => ⟨rfl, by rw [hU], by rw [hU]; exact hP, va_K.moved hW.alike hK, hD.weaken (fun _ _ _ _ => trivial)⟩⟩ (g := F0 m pc ls st0) (rest := st) rfl hn hl.1 hst (lv_room hcat) d ⟨hR.2.2.1, hR.2.2.2⟩
  intro T hT X
  obtain ⟨v, st₀, t, T', L1, h0, X', hL, e1, e2, ⟨⟨v2, S', hv, hp, hP1⟩, hz, hk⟩, stp⟩ := run T hT X
  cases hv
  rw [h0] at hz hk
  have hAA := g_A_of (sz := H.size) hD (fun q hq => hA q (Nat.le_trans hS.1 hq))
  obtain ⟨t2, a1, b1⟩ := kk v S' hp T'.heap (locs ++ L1) ls (by rw [e1]; exact hP1) (g_D hD)
    ⟨Nat.le_trans hS.1 (by rw [e1]; exact hz), fun q h1 h2 => by rw [e1, hk q (Nat.lt_of_lt_of_le h1 hS.1) (fun z => h2 (hAA q z))]; exact hS.2.1 q h1 h2, fun q hq => by
      rcases List.mem_append.mp hq with h | h
      · exact hS.2.2 q h
      · exact hAA _ (hL q h)⟩ hl T' rfl X'
  exact ⟨t2, stp t2 a1, b1⟩
end GRULES
/-- a contract out of the walk of the body -/
theorem Ct.intro {E : gE} {lay : List gC} {M : gM} {av : List Value} {S : gS} {Post : Option Value → gS → Prop} {L : List (Nat × Value)} (hlay : g_okb lay = true) (hy : plainName M.1.cls = true) (hlen : (lg_sl av).length ≤ M.2.2.1) (hL : lv_args 0 av = L)
    (body : ∀ Z : gS → List (Nat × Value) → Nat → List Value → Prop, Cx Z E lay M Post → Z S L 0 []) : Ct E lay M av S Post := by
  intro sz
  refine Met.ofW (cc := M.2.1) (maxL := M.2.2.1) (ret := M.2.2.2.1) hy rfl ?_
  intro p e s m args below meth c s₁ B hml hv
  obtain ⟨rfl, hsz, hP, hK, hD0⟩ := hv
  have hts0 := atoms_spec (ws := gws M) B.pre
  have hts : ∀ w ∈ TS, w.before av.toArray s = true := fun w h => hts0 w (List.mem_cons_of_mem _ h)
  have hown : s.vm.findClass M.1.cls = some m.cls := findClass_of_methodNamed B.named
  have hlocks := B.notSynchronized
  have hx := B.exec
  have hb := B.bytes
  have hr := B.returns
  subst hsz
  have hl := lv_entry av (n := M.2.2.1) hlen
  rw [lg_entry_eq]
  generalize (lg_sl av ++ List.replicate (M.2.2.1 - (lg_sl av).length) Slot.unset).toArray = ls at hl ⊢
  rw [hL] at hl
  have hD : va_D (g_A E lay s.heap.size) (g_wl E S lay) := hD0.weaken (fun k q hk _ => g_A_in hk)
  refine body _ ⟨p, e, gRm M, s, m, av.toArray, below, meth, c, g_A E lay s.heap.size, s.heap, 0, 0, _, rfl, hx, hb, hml, hown, hts, hK, fun q h => Or.inr h, g_ok_of hlay, ⟨rfl, rfl, Nat.le_refl 0, Nat.le_refl 0⟩, ?_, ?_, ?_, ?_⟩ s.heap [] ls hP hD va_S.rf hl
  · intro pc S' L' z d hret hpost H locs ls' hP' hD' hS' hl'
    rcases hret with hret | ⟨hret, hz⟩
    · exact W.iret (v := Int32.ofInt z) hx hb (hr.trans hret) (fun t ht hW => ⟨⟨_, S', rfl, hpost, by rw [ht]; exact hP'⟩, hS'.F ht⟩) hS'.2.2 d
    · exact W.zret (v := Int32.ofInt z) (ty := .boolean) hx hb (hr.trans hret) (by rcases hz with rfl | rfl <;> rfl) (fun t ht hW => ⟨⟨_, S', rfl, hpost, by rw [ht]; exact hP'⟩, hS'.F ht⟩) hS'.2.2 d
  · intro pc S' L' z d hret hpost H locs ls' hP' hD' hS' hl'
    exact W.lret (v := Int64.ofInt z) hx hb (hr.trans hret) (fun t ht hW => ⟨⟨_, S', rfl, hpost, by rw [ht]; exact hP'⟩, hS'.F ht⟩) hS'.2.2 d
  · intro pc S' L' d hret hpost H locs ls' hP' hD' hS' hl'
    exact W.vret hx hb (hr.trans hret) (fun t ht hW => ⟨⟨_, S', rfl, hpost, by rw [ht]; exact hP'⟩, hS'.F ht⟩) hS'.2.2 d
  · intro pc S' L' a d hret hpost H locs ls' hP' hD' hS' hl'
    obtain ⟨n, hret⟩ := hret
    exact W.aret (v := .ref a) hx hb (hr.trans hret) (Or.inl ⟨n, rfl⟩) (Or.inr ⟨a, rfl⟩) (fun t ht hW => ⟨⟨_, S', rfl, hpost, by rw [ht]; exact hP'⟩, hS'.F ht⟩) hS'.2.2 d
theorem Ct.mono {E : gE} {lay : List gC} {M : gM} {av : List Value} {S : gS} {P1 P2 : Option Value → gS → Prop} (h : Ct E lay M av S P1) (hp : ∀ v S', P1 v S' → P2 v S') : Ct E lay M av S P2 := by
  intro sz
  have h1 := h sz
  intro p e a b c s m args below f1 f2 f3 f4
  obtain ⟨n, o, q1, q2, q3, ⟨⟨v, S', e1, e2, e3⟩, q5⟩, q6⟩ := h1 p e a b c s m args below f1 f2 f3 f4
  exact ⟨n, o, q1, q2, q3, ⟨⟨v, S', e1, hp v S' e2, e3⟩, q5⟩, q6⟩
end
section
/-- the cells: 0 to 26 the class, 27 to 41 the reference -/
def LX : List gC := [.inl (7, [(2, 1), (2, 3), (2, 5), (2, 10), (2, 15), (2, 17), (2, 20), (2, 24), (1, 0)]), .inl (0, [(0, 1), (0, 2), (0, 3), (0, 4), (2, 2)]), .inr (0, 120, 5), .inl (2, [(2, 1), (2, 4), (0, 6)]), .inr (0, 588, 7), .inl (3, [(2, 3), (2, 6), (2, 7), (2, 8), (2, 9), (0, 10), (0, 11), (0, 12)]), .inr (1, 1500, 13), .inr (2, 1500, 14), .inr (0, 1500, 15), .inr (0, 4096, 16), .inl (3, [(2, 3), (2, 11), (2, 12), (2, 13), (2, 14), (0, 20), (0, 21), (0, 22)]), .inr (1, 1500, 23), .inr (2, 1500, 24), .inr (0, 1500, 25), .inr (0, 4096, 26), .inl (4, [(2, 16), (0, 30)]), .inr (0, 15, 31), .inl (6, [(2, 18), (2, 19), (0, 32), (0, 33)]), .inr (1, 40, 34), .inr (0, 40, 35), .inl (1, [(2, 21), (2, 22), (2, 23), (0, 36)]), .inr (0, 8, 37), .inr (0, 8, 38), .inr (1, 8, 39), .inl (5, [(2, 25), (2, 26), (0, 40), (0, 41)]), .inr (3, 60, 42), .inr (0, 4, 43)]
def LAY : List gC := [.inl (7, [(2, 1), (2, 3), (2, 5), (2, 10), (2, 15), (2, 17), (2, 20), (2, 24), (1, 0)]), .inl (0, [(0, 1), (0, 2), (0, 3), (0, 4), (2, 2)]), .inr (0, 120, 5), .inl (2, [(2, 1), (2, 4), (0, 6)]), .inr (0, 588, 7), .inl (3, [(2, 3), (2, 6), (2, 7), (2, 8), (2, 9), (0, 10), (0, 11), (0, 12)]), .inr (1, 1500, 13), .inr (2, 1500, 14), .inr (0, 1500, 15), .inr (0, 4096, 16), .inl (3, [(2, 3), (2, 11), (2, 12), (2, 13), (2, 14), (0, 20), (0, 21), (0, 22)]), .inr (1, 1500, 23), .inr (2, 1500, 24), .inr (0, 1500, 25), .inr (0, 4096, 26), .inl (4, [(2, 16), (0, 30)]), .inr (0, 15, 31), .inl (6, [(2, 18), (2, 19), (0, 32), (0, 33)]), .inr (1, 40, 34), .inr (0, 40, 35), .inl (1, [(2, 21), (2, 22), (2, 23), (0, 36)]), .inr (0, 8, 37), .inr (0, 8, 38), .inr (1, 8, 39), .inl (5, [(2, 25), (2, 26), (0, 40), (0, 41)]), .inr (3, 60, 42), .inr (0, 4, 43), .inl (8, [(0, 50), (0, 51), (2, 28), (2, 29), (2, 30), (0, 52), (0, 53), (2, 31), (2, 32), (0, 54), (0, 55), (2, 33), (0, 56), (2, 34), (2, 35), (2, 36), (2, 37), (0, 57), (2, 38), (2, 39), (0, 58), (2, 40), (0, 59), (0, 60), (2, 41)]), .inr (0, 15, 61), .inr (0, 15, 62), .inr (0, 136, 63), .inr (0, 40, 64), .inr (0, 40, 65), .inr (0, 700, 66), .inr (0, 1500, 67), .inr (0, 8192, 68), .inr (2, 1500, 69), .inr (0, 1500, 70), .inr (0, 3000, 71), .inr (0, 15, 72), .inr (0, 60, 73), .inr (0, 4, 74)]
theorem LAY_ok : g_okb LAY = true := by decide +kernel
theorem LX_ok : g_okb LX = true := by decide +kernel
theorem TS_m {w : Cond} (h : w ∈ lw_tbl) (g : goodWord w = true) : w ∈ TS := List.mem_filter.mpr ⟨h, g⟩
theorem TS_ps {ws : List Cond} (ps : List Nat) (hp : ws = ps.filterMap (fun i => lw_tbl[i]?)) (h : ws.all goodWord = true) : ∀ w ∈ ws, w ∈ TS := fun w hw => by
  have h1 := List.all_eq_true.mp h w hw
  rw [hp] at hw
  obtain ⟨i, -, hi⟩ := List.mem_filterMap.mp hw
  exact TS_m (List.mem_of_getElem? hi) h1
theorem wtX1 : ∀ w ∈ u_ws RX1 TX1 5, w ∈ TS := TS_ps [99, 101, 103, 105, 107] (by decide +kernel) (by decide +kernel)
theorem wtX2 : ∀ w ∈ u_ws RX2 TX2 4, w ∈ TS := TS_ps [213, 215, 217, 219] (by decide +kernel) (by decide +kernel)
theorem wtX3 : ∀ w ∈ u_ws RX3 TX3 3, w ∈ TS := TS_ps [122, 124, 126] (by decide +kernel) (by decide +kernel)
theorem wtX4 : ∀ w ∈ u_ws RX4 TX4 8, w ∈ TS := TS_ps [144, 146, 148, 150, 152, 154, 156, 158] (by decide +kernel) (by decide +kernel)
theorem wtX5 : ∀ w ∈ u_ws RX5 TX5 2, w ∈ TS := TS_ps [173, 175] (by decide +kernel) (by decide +kernel)
theorem wtX6 : ∀ w ∈ u_ws RX6 TX6 4, w ∈ TS := TS_ps [235, 237, 239, 241] (by decide +kernel) (by decide +kernel)
theorem wtX7 : ∀ w ∈ u_ws RX7 TX7 4, w ∈ TS := TS_ps [190, 192, 194, 196] (by decide +kernel) (by decide +kernel)
theorem wtX8 : ∀ w ∈ u_ws RX8 TX8 9, w ∈ TS := TS_ps [262, 264, 266, 268, 270, 272, 274, 276, 278] (by decide +kernel) (by decide +kernel)
theorem wtX9 : ∀ w ∈ u_ws RX9 TX9 25, w ∈ TS := TS_ps [728, 730, 732, 734, 736, 738, 740, 742, 744, 746, 748, 750, 752, 754, 756, 758, 760, 762, 764, 766, 768, 770, 772, 774, 776] (by decide +kernel) (by decide +kernel)
abbrev mX0_of : gM := (yX0_of, cX0_of, 3, (some .long), 0, 0)
abbrev mX0_mask : gM := (yX0_mask, cX0_mask, 3, (some .int), 0, 0)
abbrev mX0_freeMask : gM := (yX0_freeMask, cX0_freeMask, 3, (some .int), 1, 22)
abbrev mX0_at : gM := (yX0_at, cX0_at, 4, (some .int), 1, 22)
abbrev mX0_with : gM := (yX0_with, cX0_with, 6, (some .long), 1, 21)
abbrev mX0_bit : gM := (yX0_bit, cX0_bit, 2, (some .long), 0, 0)
abbrev mX1_init : gM := (yX1_init, cX1_init, 1, none, 1, 24)
abbrev mX1_resize : gM := (yX1_resize, cX1_resize, 5, none, 1, 26)
abbrev mX1_stepFrom : gM := (yX1_stepFrom, cX1_stepFrom, 7, (some .int), 0, 0)
abbrev mX1_has : gM := (yX1_has, cX1_has, 2, (some .boolean), 0, 0)
abbrev mX1_seenFrom : gM := (yX1_seenFrom, cX1_seenFrom, 7, (some .int), 1, 21)
abbrev mX1_neighboursOf : gM := (yX1_neighboursOf, cX1_neighboursOf, 5, (some .int), 1, 21)
abbrev mX2_init : gM := (yX2_init, cX2_init, 1, none, 1, 24)
abbrev mX2_record : gM := (yX2_record, cX2_record, 4, none, 1, 21)
abbrev mX2_dropOldest : gM := (yX2_dropOldest, cX2_dropOldest, 2, none, 0, 0)
abbrev mX3_init : gM := (yX3_init, cX3_init, 2, none, 1, 24)
abbrev mX3_fill : gM := (yX3_fill, cX3_fill, 7, none, 3, 72)
abbrev mX3_addMovesFrom : gM := (yX3_addMovesFrom, cX3_addMovesFrom, 6, none, 2, 47)
abbrev mX3_addBurns : gM := (yX3_addBurns, cX3_addBurns, 4, none, 0, 0)
abbrev mX3_find : gM := (yX3_find, cX3_find, 6, (some .int), 0, 0)
abbrev mX3_fromOf : gM := (yX3_fromOf, cX3_fromOf, 2, (some .int), 0, 0)
abbrev mX3_toOf : gM := (yX3_toOf, cX3_toOf, 2, (some .int), 0, 0)
abbrev mX3_burntOf : gM := (yX3_burntOf, cX3_burntOf, 2, (some .int), 0, 0)
abbrev mX3_after : gM := (yX3_after, cX3_after, 7, (some .long), 1, 21)
abbrev mX4_init : gM := (yX4_init, cX4_init, 2, none, 1, 24)
abbrev mX4_explore : gM := (yX4_explore, cX4_explore, 8, (some .boolean), 4, 98)
abbrev mX4_add : gM := (yX4_add, cX4_add, 4, (some .boolean), 1, 25)
abbrev mX4_slotOf : gM := (yX4_slotOf, cX4_slotOf, 6, (some .int), 0, 0)
abbrev mX4_find : gM := (yX4_find, cX4_find, 3, (some .int), 1, 25)
abbrev mX4_sideAt : gM := (yX4_sideAt, cX4_sideAt, 4, (some .int), 1, 22)
abbrev mX4_solve : gM := (yX4_solve, cX4_solve, 7, none, 4, 98)
abbrev mX4_findMostMoves : gM := (yX4_findMostMoves, cX4_findMostMoves, 5, (some .int), 4, 98)
abbrev mX4_contentsOf : gM := (yX4_contentsOf, cX4_contentsOf, 2, (some .long), 0, 0)
abbrev mX4_isWon : gM := (yX4_isWon, cX4_isWon, 2, (some .boolean), 0, 0)
abbrev mX4_restOf : gM := (yX4_restOf, cX4_restOf, 2, (some .int), 0, 0)
abbrev mX5_init : gM := (yX5_init, cX5_init, 1, none, 1, 24)
abbrev mX5_has : gM := (yX5_has, cX5_has, 2, (some .boolean), 0, 0)
abbrev mX5_divide : gM := (yX5_divide, cX5_divide, 5, none, 3, 71)
abbrev mX5_spread : gM := (yX5_spread, cX5_spread, 7, (some .int), 2, 45)
abbrev mX6_init : gM := (yX6_init, cX6_init, 1, none, 1, 24)
abbrev mX6_append : gM := (yX6_append, cX6_append, 2, (some .boolean), 0, 0)
abbrev mX6_findFault : gM := (yX6_findFault, cX6_findFault, 4, (some .int), 9, 198)
abbrev mX6_readCommand : gM := (yX6_readCommand, cX6_readCommand, 4, (some .int), 8, 175)
abbrev mX6_findWord : gM := (yX6_findWord, cX6_findWord, 3, (some .int), 7, 153)
abbrev mX6_hasText : gM := (yX6_hasText, cX6_hasText, 4, (some .boolean), 6, 130)
abbrev mX6_hasSign : gM := (yX6_hasSign, cX6_hasSign, 3, (some .boolean), 0, 0)
abbrev mX6_readNumber : gM := (yX6_readNumber, cX6_readNumber, 5, (some .int), 1, 22)
abbrev mX6_hasDigit : gM := (yX6_hasDigit, cX6_hasDigit, 2, (some .boolean), 0, 0)
abbrev mX6_textOf : gM := (yX6_textOf, cX6_textOf, 1, (some (.object "java/lang/String")), 0, 0)
abbrev mX6_numbersOf : gM := (yX6_numbersOf, cX6_numbersOf, 1, (some .int), 0, 0)
abbrev mX7_init : gM := (yX7_init, cX7_init, 1, none, 1, 24)
abbrev mX7_empty : gM := (yX7_empty, cX7_empty, 1, none, 0, 0)
abbrev mX7_find : gM := (yX7_find, cX7_find, 4, (some .int), 0, 0)
abbrev mX7_put : gM := (yX7_put, cX7_put, 4, none, 1, 20)
abbrev mX8_init : gM := (yX8_init, cX8_init, 1, none, 2, 50)
abbrev mX8_reset : gM := (yX8_reset, cX8_reset, 4, (some .int), 2, 50)
abbrev mX8_setField : gM := (yX8_setField, cX8_setField, 6, (some .int), 4, 89)
abbrev mX8_field : gM := (yX8_field, cX8_field, 2, (some .int), 2, 45)
abbrev mX8_count : gM := (yX8_count, cX8_count, 2, (some .int), 3, 65)
abbrev mX8_isSeen : gM := (yX8_isSeen, cX8_isSeen, 3, (some .int), 3, 65)
abbrev mX8_undo : gM := (yX8_undo, cX8_undo, 4, (some .int), 2, 50)
abbrev mX8_move : gM := (yX8_move, cX8_move, 8, (some .int), 5, 123)
abbrev mX8_moves : gM := (yX8_moves, cX8_moves, 2, (some .int), 4, 98)
abbrev mX8_moveAt : gM := (yX8_moveAt, cX8_moveAt, 4, (some .int), 4, 98)
abbrev mX8_regions : gM := (yX8_regions, cX8_regions, 1, (some .int), 5, 115)
abbrev mX8_regionOf : gM := (yX8_regionOf, cX8_regionOf, 3, (some .int), 5, 115)
abbrev mX8_regionInfo : gM := (yX8_regionInfo, cX8_regionInfo, 4, (some .int), 5, 115)
abbrev mX8_value : gM := (yX8_value, cX8_value, 3, (some .int), 6, 151)
abbrev mX8_lead : gM := (yX8_lead, cX8_lead, 5, (some .int), 6, 151)
abbrev mX8_kept : gM := (yX8_kept, cX8_kept, 2, (some .int), 0, 0)
abbrev mX8_positions : gM := (yX8_positions, cX8_positions, 2, (some .int), 5, 125)
abbrev mX8_wins : gM := (yX8_wins, cX8_wins, 2, (some .int), 6, 148)
abbrev mX8_outcome : gM := (yX8_outcome, cX8_outcome, 1, (some .int), 7, 172)
abbrev mX8_outcomeOf : gM := (yX8_outcomeOf, cX8_outcomeOf, 2, (some .int), 7, 172)
abbrev mX8_bestMove : gM := (yX8_bestMove, cX8_bestMove, 4, (some .int), 6, 148)
abbrev mX8_length : gM := (yX8_length, cX8_length, 2, (some .int), 6, 148)
abbrev mX8_zugzwangs : gM := (yX8_zugzwangs, cX8_zugzwangs, 4, (some .int), 6, 148)
abbrev mX8_type : gM := (yX8_type, cX8_type, 2, (some .int), 1, 21)
abbrev mX8_clearText : gM := (yX8_clearText, cX8_clearText, 2, (some .int), 0, 0)
abbrev mX8_fault : gM := (yX8_fault, cX8_fault, 2, (some .int), 10, 221)
abbrev mX8_run : gM := (yX8_run, cX8_run, 4, (some .int), 10, 221)
abbrev mX8_isBoardSize : gM := (yX8_isBoardSize, cX8_isBoardSize, 2, (some .boolean), 0, 0)
abbrev mX8_isContents : gM := (yX8_isContents, cX8_isContents, 1, (some .boolean), 0, 0)
abbrev mX8_isSide : gM := (yX8_isSide, cX8_isSide, 1, (some .boolean), 0, 0)
abbrev mX8_otherSide : gM := (yX8_otherSide, cX8_otherSide, 1, (some .int), 0, 0)
abbrev mX8_maskOf : gM := (yX8_maskOf, cX8_maskOf, 2, (some .int), 2, 44)
abbrev mX8_putContents : gM := (yX8_putContents, cX8_putContents, 5, (some .int), 3, 65)
abbrev mX8_makeMove : gM := (yX8_makeMove, cX8_makeMove, 6, (some .int), 4, 98)
abbrev mX8_executeCommand : gM := (yX8_executeCommand, cX8_executeCommand, 2, (some .int), 5, 123)
abbrev mX8_divideBoard : gM := (yX8_divideBoard, cX8_divideBoard, 1, none, 4, 95)
abbrev mX8_kindOf : gM := (yX8_kindOf, cX8_kindOf, 3, (some .int), 3, 65)
abbrev mX8_isShared : gM := (yX8_isShared, cX8_isShared, 2, (some .boolean), 4, 87)
abbrev mX8_aloneOf : gM := (yX8_aloneOf, cX8_aloneOf, 2, (some .long), 3, 65)
abbrev mX8_askValue : gM := (yX8_askValue, cX8_askValue, 7, (some .int), 5, 125)
abbrev mX8_exploreAndSolve : gM := (yX8_exploreAndSolve, cX8_exploreAndSolve, 4, (some .boolean), 5, 125)
abbrev mX8_findOutcome : gM := (yX8_findOutcome, cX8_findOutcome, 5, (some .int), 6, 148)
abbrev mX9_init : gM := (yX9_init, cX9_init, 1, none, 1, 24)
abbrev mX9_in : gM := (yX9_in, cX9_in, 3, (some .boolean), 0, 0)
abbrev mX9_size : gM := (yX9_size, cX9_size, 1, (some .int), 0, 0)
abbrev mX9_isField : gM := (yX9_isField, cX9_isField, 2, (some .boolean), 1, 22)
abbrev mX9_isSide : gM := (yX9_isSide, cX9_isSide, 1, (some .boolean), 1, 22)
abbrev mX9_keeps : gM := (yX9_keeps, cX9_keeps, 2, none, 0, 0)
abbrev mX9_reset : gM := (yX9_reset, cX9_reset, 5, (some .int), 1, 22)
abbrev mX9_counted : gM := (yX9_counted, cX9_counted, 4, (some .int), 1, 20)
abbrev mX9_inWay : gM := (yX9_inWay, cX9_inWay, 3, (some .int), 2, 43)
abbrev mX9_puts : gM := (yX9_puts, cX9_puts, 4, (some .int), 0, 0)
abbrev mX9_setField : gM := (yX9_setField, cX9_setField, 4, (some .int), 3, 65)
abbrev mX9_field : gM := (yX9_field, cX9_field, 2, (some .int), 2, 43)
abbrev mX9_count : gM := (yX9_count, cX9_count, 2, (some .int), 2, 43)
abbrev mX9_sees : gM := (yX9_sees, cX9_sees, 9, (some .boolean), 0, 0)
abbrev mX9_shows : gM := (yX9_shows, cX9_shows, 2, none, 0, 0)
abbrev mX9_isSeen : gM := (yX9_isSeen, cX9_isSeen, 3, (some .int), 2, 43)
abbrev mX9_undo : gM := (yX9_undo, cX9_undo, 3, (some .int), 0, 0)
abbrev mX9_lists : gM := (yX9_lists, cX9_lists, 5, none, 1, 28)
abbrev mX9_movesNow : gM := (yX9_movesNow, cX9_movesNow, 2, (some .int), 2, 52)
abbrev mX9_noMove : gM := (yX9_noMove, cX9_noMove, 6, (some .int), 3, 73)
abbrev mX9_goes : gM := (yX9_goes, cX9_goes, 5, (some .int), 3, 73)
abbrev mX9_move : gM := (yX9_move, cX9_move, 6, (some .int), 4, 98)
abbrev mX9_moves : gM := (yX9_moves, cX9_moves, 2, (some .int), 3, 73)
abbrev mX9_moveAt : gM := (yX9_moveAt, cX9_moveAt, 4, (some .int), 3, 73)
abbrev mX9_areNear : gM := (yX9_areNear, cX9_areNear, 5, (some .boolean), 0, 0)
abbrev mX9_parts : gM := (yX9_parts, cX9_parts, 5, none, 2, 43)
abbrev mX9_lowest : gM := (yX9_lowest, cX9_lowest, 4, (some .int), 3, 67)
abbrev mX9_regions : gM := (yX9_regions, cX9_regions, 3, (some .int), 3, 67)
abbrev mX9_regionOf : gM := (yX9_regionOf, cX9_regionOf, 4, (some .int), 3, 67)
abbrev mX9_within : gM := (yX9_within, cX9_within, 5, (some .int), 1, 20)
abbrev mX9_kind : gM := (yX9_kind, cX9_kind, 2, (some .int), 2, 44)
abbrev mX9_regionInfo : gM := (yX9_regionInfo, cX9_regionInfo, 4, (some .int), 4, 90)
abbrev mX9_coded : gM := (yX9_coded, cX9_coded, 4, (some .int), 1, 20)
abbrev mX9_decodes : gM := (yX9_decodes, cX9_decodes, 3, none, 0, 0)
abbrev mX9_behind : gM := (yX9_behind, cX9_behind, 9, (some .int), 1, 20)
abbrev mX9_placeOf : gM := (yX9_placeOf, cX9_placeOf, 3, (some .int), 0, 0)
abbrev mX9_sideOf : gM := (yX9_sideOf, cX9_sideOf, 1, (some .int), 0, 0)
abbrev mX9_isReached : gM := (yX9_isReached, cX9_isReached, 9, (some .boolean), 2, 52)
abbrev mX9_weighs : gM := (yX9_weighs, cX9_weighs, 8, none, 2, 52)
abbrev mX9_valueOf : gM := (yX9_valueOf, cX9_valueOf, 5, (some .int), 3, 80)
abbrev mX9_value : gM := (yX9_value, cX9_value, 3, (some .int), 4, 104)
abbrev mX9_lead : gM := (yX9_lead, cX9_lead, 4, (some .int), 4, 104)
abbrev mX9_kept : gM := (yX9_kept, cX9_kept, 2, (some .int), 1, 22)
abbrev mX9_positions : gM := (yX9_positions, cX9_positions, 2, (some .int), 3, 80)
abbrev mX9_winsFrom : gM := (yX9_winsFrom, cX9_winsFrom, 3, (some .int), 3, 80)
abbrev mX9_wins : gM := (yX9_wins, cX9_wins, 2, (some .int), 4, 102)
abbrev mX9_outcomeFrom : gM := (yX9_outcomeFrom, cX9_outcomeFrom, 4, (some .int), 4, 102)
abbrev mX9_outcome : gM := (yX9_outcome, cX9_outcome, 1, (some .int), 5, 125)
abbrev mX9_outcomeOf : gM := (yX9_outcomeOf, cX9_outcomeOf, 3, (some .int), 5, 125)
abbrev mX9_bestMove : gM := (yX9_bestMove, cX9_bestMove, 3, (some .int), 4, 102)
abbrev mX9_length : gM := (yX9_length, cX9_length, 2, (some .int), 4, 102)
abbrev mX9_collects : gM := (yX9_collects, cX9_collects, 4, none, 0, 0)
abbrev mX9_zugzwangs : gM := (yX9_zugzwangs, cX9_zugzwangs, 4, (some .int), 4, 102)
abbrev mX9_type : gM := (yX9_type, cX9_type, 2, (some .int), 1, 22)
abbrev mX9_clearText : gM := (yX9_clearText, cX9_clearText, 2, (some .int), 0, 0)
abbrev mX9_charAt : gM := (yX9_charAt, cX9_charAt, 2, (some .int), 0, 0)
abbrev mX9_letters : gM := (yX9_letters, cX9_letters, 3, (some .int), 1, 22)
abbrev mX9_packed : gM := (yX9_packed, cX9_packed, 6, (some .int), 0, 0)
abbrev mX9_commandOf : gM := (yX9_commandOf, cX9_commandOf, 1, (some .int), 1, 25)
abbrev mX9_isNumber : gM := (yX9_isNumber, cX9_isNumber, 4, (some .boolean), 1, 22)
abbrev mX9_isCommand : gM := (yX9_isCommand, cX9_isCommand, 3, (some .boolean), 2, 45)
abbrev mX9_faultOf : gM := (yX9_faultOf, cX9_faultOf, 2, (some .int), 3, 67)
abbrev mX9_fault : gM := (yX9_fault, cX9_fault, 1, (some .int), 4, 88)
abbrev mX9_does : gM := (yX9_does, cX9_does, 1, (some .boolean), 4, 98)
abbrev mX9_run : gM := (yX9_run, cX9_run, 2, (some .int), 5, 118)
abbrev mJ6_bitCount_0f7a4 : gM := (yJ6_bitCount_0f7a4, cJ6_bitCount_0f7a4, 1, (some .int), 0, 0)
abbrev mJ9_max_7cf53 : gM := (yJ9_max_7cf53, cJ9_max_7cf53, 2, (some .int), 0, 0)
abbrev mJ9_min_7cf53 : gM := (yJ9_min_7cf53, cJ9_min_7cf53, 2, (some .int), 0, 0)
abbrev mJ0_length_8abf5 : gM := (yJ0_length_8abf5, cJ0_length_8abf5, 1, (some .int), 1, 20)
abbrev mJ0_charAt_5068e : gM := (yJ0_charAt_5068e, cJ0_charAt_5068e, 2, (some .char), 5, 109)
abbrev mJ0_coder_7d493 : gM := (yJ0_coder_7d493, cJ0_coder_7d493, 1, (some .byte), 0, 0)
abbrev mJ0_isLatin1_aae02 : gM := (yJ0_isLatin1_aae02, cJ0_isLatin1_aae02, 1, (some .boolean), 0, 0)
abbrev mJ0_checkIndex_df160 : gM := (yJ0_checkIndex_df160, cJ0_checkIndex_df160, 2, none, 2, 46)
abbrev mJ1_charAt_3b067 : gM := (yJ1_charAt_3b067, cJ1_charAt_3b067, 2, (some .char), 3, 67)
abbrev mJ2_getChar_3b067 : gM := (yJ2_getChar_3b067, cJ2_getChar_3b067, 2, (some .char), 1, 24)
abbrev mJ2_length_9d52b : gM := (yJ2_length_9d52b, cJ2_length_9d52b, 1, (some .int), 0, 0)
abbrev mJ2_charAt_3b067 : gM := (yJ2_charAt_3b067, cJ2_charAt_3b067, 2, (some .char), 4, 88)
abbrev mJ2_checkIndex_2214a : gM := (yJ2_checkIndex_2214a, cJ2_checkIndex_2214a, 2, none, 3, 67)
abbrev mJ3_checkIndex_8e157 : gM := (yJ3_checkIndex_8e157, cJ3_checkIndex_8e157, 3, (some .int), 1, 24)
theorem fX1_9 : gF RX1 9 0 4 (tyX1 4) := ⟨RX1, TX1, 5, tyX1, rfl, by decide, TS_in 98 (by decide +kernel) rfl, wtX1, tyX1_ok, nmX1, rfl, Or.inr ⟨by decide, by decide⟩⟩
theorem fX1_15 : gF RX1 15 0 0 .int := ⟨RX1, TX1, 5, tyX1, rfl, by decide, TS_in 86 (by decide +kernel) rfl, wtX1, tyX1_ok, nmX1, rfl, Or.inl rfl⟩
theorem fX1_19 : gF RX1 19 0 1 .int := ⟨RX1, TX1, 5, tyX1, rfl, by decide, TS_in 89 (by decide +kernel) rfl, wtX1, tyX1_ok, nmX1, rfl, Or.inl rfl⟩
theorem fX1_22 : gF RX1 22 0 2 .int := ⟨RX1, TX1, 5, tyX1, rfl, by decide, TS_in 92 (by decide +kernel) rfl, wtX1, tyX1_ok, nmX1, rfl, Or.inl rfl⟩
theorem fX1_25 : gF RX1 25 0 3 .int := ⟨RX1, TX1, 5, tyX1, rfl, by decide, TS_in 96 (by decide +kernel) rfl, wtX1, tyX1_ok, nmX1, rfl, Or.inl rfl⟩
theorem fX2_9 : gF RX2 9 1 0 (tyX2 0) := ⟨RX2, TX2, 4, tyX2, rfl, by decide, TS_in 205 (by decide +kernel) rfl, wtX2, tyX2_ok, nmX2, rfl, Or.inr ⟨by decide, by decide⟩⟩
theorem fX2_15 : gF RX2 15 1 1 (tyX2 1) := ⟨RX2, TX2, 4, tyX2, rfl, by decide, TS_in 207 (by decide +kernel) rfl, wtX2, tyX2_ok, nmX2, rfl, Or.inr ⟨by decide, by decide⟩⟩
theorem fX2_18 : gF RX2 18 1 2 (tyX2 2) := ⟨RX2, TX2, 4, tyX2, rfl, by decide, TS_in 209 (by decide +kernel) rfl, wtX2, tyX2_ok, nmX2, rfl, Or.inr ⟨by decide, by decide⟩⟩
theorem fX2_22 : gF RX2 22 1 3 .int := ⟨RX2, TX2, 4, tyX2, rfl, by decide, TS_in 211 (by decide +kernel) rfl, wtX2, tyX2_ok, nmX2, rfl, Or.inl rfl⟩
theorem fX2_29 : gF RX2 29 0 0 .int := ⟨RX1, TX1, 5, tyX1, rfl, by decide, TS_in 88 (by decide +kernel) rfl, wtX1, tyX1_ok, nmX1, rfl, Or.inl rfl⟩
theorem fX2_34 : gF RX2 34 0 1 .int := ⟨RX1, TX1, 5, tyX1, rfl, by decide, TS_in 91 (by decide +kernel) rfl, wtX1, tyX1_ok, nmX1, rfl, Or.inl rfl⟩
theorem fX3_9 : gF RX3 9 2 1 (tyX3 1) := ⟨RX3, TX3, 3, tyX3, rfl, by decide, TS_in 118 (by decide +kernel) rfl, wtX3, tyX3_ok, nmX3, rfl, Or.inr ⟨by decide, by decide⟩⟩
theorem fX3_15 : gF RX3 15 2 0 (tyX3 0) := ⟨RX3, TX3, 3, tyX3, rfl, by decide, TS_in 117 (by decide +kernel) rfl, wtX3, tyX3_ok, nmX3, rfl, Or.inr ⟨by decide, by decide⟩⟩
theorem fX3_19 : gF RX3 19 2 2 .int := ⟨RX3, TX3, 3, tyX3, rfl, by decide, TS_in 119 (by decide +kernel) rfl, wtX3, tyX3_ok, nmX3, rfl, Or.inl rfl⟩
theorem fX3_29 : gF RX3 29 0 3 .int := ⟨RX1, TX1, 5, tyX1, rfl, by decide, TS_in 95 (by decide +kernel) rfl, wtX1, tyX1_ok, nmX1, rfl, Or.inl rfl⟩
theorem fX3_37 : gF RX3 37 0 2 .int := ⟨RX1, TX1, 5, tyX1, rfl, by decide, TS_in 93 (by decide +kernel) rfl, wtX1, tyX1_ok, nmX1, rfl, Or.inl rfl⟩
theorem fX4_9 : gF RX4 9 3 1 (tyX4 1) := ⟨RX4, TX4, 8, tyX4, rfl, by decide, TS_in 136 (by decide +kernel) rfl, wtX4, tyX4_ok, nmX4, rfl, Or.inr ⟨by decide, by decide⟩⟩
theorem fX4_15 : gF RX4 15 3 2 (tyX4 2) := ⟨RX4, TX4, 8, tyX4, rfl, by decide, TS_in 137 (by decide +kernel) rfl, wtX4, tyX4_ok, nmX4, rfl, Or.inr ⟨by decide, by decide⟩⟩
theorem fX4_19 : gF RX4 19 3 3 (tyX4 3) := ⟨RX4, TX4, 8, tyX4, rfl, by decide, TS_in 138 (by decide +kernel) rfl, wtX4, tyX4_ok, nmX4, rfl, Or.inr ⟨by decide, by decide⟩⟩
theorem fX4_23 : gF RX4 23 3 4 (tyX4 4) := ⟨RX4, TX4, 8, tyX4, rfl, by decide, TS_in 139 (by decide +kernel) rfl, wtX4, tyX4_ok, nmX4, rfl, Or.inr ⟨by decide, by decide⟩⟩
theorem fX4_26 : gF RX4 26 3 0 (tyX4 0) := ⟨RX4, TX4, 8, tyX4, rfl, by decide, TS_in 135 (by decide +kernel) rfl, wtX4, tyX4_ok, nmX4, rfl, Or.inr ⟨by decide, by decide⟩⟩
theorem fX4_30 : gF RX4 30 3 7 .int := ⟨RX4, TX4, 8, tyX4, rfl, by decide, TS_in 142 (by decide +kernel) rfl, wtX4, tyX4_ok, nmX4, rfl, Or.inl rfl⟩
theorem fX4_34 : gF RX4 34 3 5 .int := ⟨RX4, TX4, 8, tyX4, rfl, by decide, TS_in 140 (by decide +kernel) rfl, wtX4, tyX4_ok, nmX4, rfl, Or.inl rfl⟩
theorem fX4_37 : gF RX4 37 3 6 .int := ⟨RX4, TX4, 8, tyX4, rfl, by decide, TS_in 141 (by decide +kernel) rfl, wtX4, tyX4_ok, nmX4, rfl, Or.inl rfl⟩
theorem fX4_54 : gF RX4 54 2 2 .int := ⟨RX3, TX3, 3, tyX3, rfl, by decide, TS_in 120 (by decide +kernel) rfl, wtX3, tyX3_ok, nmX3, rfl, Or.inl rfl⟩
theorem fX5_9 : gF RX5 9 4 0 (tyX5 0) := ⟨RX5, TX5, 2, tyX5, rfl, by decide, TS_in 169 (by decide +kernel) rfl, wtX5, tyX5_ok, nmX5, rfl, Or.inr ⟨by decide, by decide⟩⟩
theorem fX5_15 : gF RX5 15 4 1 .int := ⟨RX5, TX5, 2, tyX5, rfl, by decide, TS_in 171 (by decide +kernel) rfl, wtX5, tyX5_ok, nmX5, rfl, Or.inl rfl⟩
theorem fX5_19 : gF RX5 19 0 2 .int := ⟨RX1, TX1, 5, tyX1, rfl, by decide, TS_in 94 (by decide +kernel) rfl, wtX1, tyX1_ok, nmX1, rfl, Or.inl rfl⟩
theorem fX6_9 : gF RX6 9 5 0 (tyX6 0) := ⟨RX6, TX6, 4, tyX6, rfl, by decide, TS_in 228 (by decide +kernel) rfl, wtX6, tyX6_ok, nmX6, rfl, Or.inr ⟨by decide, by decide⟩⟩
theorem fX6_15 : gF RX6 15 5 1 (tyX6 1) := ⟨RX6, TX6, 4, tyX6, rfl, by decide, TS_in 229 (by decide +kernel) rfl, wtX6, tyX6_ok, nmX6, rfl, Or.inr ⟨by decide, by decide⟩⟩
theorem fX6_19 : gF RX6 19 5 3 .int := ⟨RX6, TX6, 4, tyX6, rfl, by decide, TS_in 233 (by decide +kernel) rfl, wtX6, tyX6_ok, nmX6, rfl, Or.inl rfl⟩
theorem fX6_30 : gF RX6 30 5 2 .int := ⟨RX6, TX6, 4, tyX6, rfl, by decide, TS_in 231 (by decide +kernel) rfl, wtX6, tyX6_ok, nmX6, rfl, Or.inl rfl⟩
theorem fX7_9 : gF RX7 9 6 0 (tyX7 0) := ⟨RX7, TX7, 4, tyX7, rfl, by decide, TS_in 184 (by decide +kernel) rfl, wtX7, tyX7_ok, nmX7, rfl, Or.inr ⟨by decide, by decide⟩⟩
theorem fX7_15 : gF RX7 15 6 1 (tyX7 1) := ⟨RX7, TX7, 4, tyX7, rfl, by decide, TS_in 185 (by decide +kernel) rfl, wtX7, tyX7_ok, nmX7, rfl, Or.inr ⟨by decide, by decide⟩⟩
theorem fX7_19 : gF RX7 19 6 2 .int := ⟨RX7, TX7, 4, tyX7, rfl, by decide, TS_in 187 (by decide +kernel) rfl, wtX7, tyX7_ok, nmX7, rfl, Or.inl rfl⟩
theorem fX8_12 : gF RX8 12 7 0 (tyX8 0) := ⟨RX8, TX8, 9, tyX8, rfl, by decide, TS_in 253 (by decide +kernel) rfl, wtX8, tyX8_ok, nmX8, rfl, Or.inr ⟨by decide, by decide⟩⟩
theorem fX8_21 : gF RX8 21 7 1 (tyX8 1) := ⟨RX8, TX8, 9, tyX8, rfl, by decide, TS_in 254 (by decide +kernel) rfl, wtX8, tyX8_ok, nmX8, rfl, Or.inr ⟨by decide, by decide⟩⟩
theorem fX8_30 : gF RX8 30 7 2 (tyX8 2) := ⟨RX8, TX8, 9, tyX8, rfl, by decide, TS_in 255 (by decide +kernel) rfl, wtX8, tyX8_ok, nmX8, rfl, Or.inr ⟨by decide, by decide⟩⟩
theorem fX8_34 : gF RX8 34 7 3 (tyX8 3) := ⟨RX8, TX8, 9, tyX8, rfl, by decide, TS_in 256 (by decide +kernel) rfl, wtX8, tyX8_ok, nmX8, rfl, Or.inr ⟨by decide, by decide⟩⟩
theorem fX8_40 : gF RX8 40 7 4 (tyX8 4) := ⟨RX8, TX8, 9, tyX8, rfl, by decide, TS_in 257 (by decide +kernel) rfl, wtX8, tyX8_ok, nmX8, rfl, Or.inr ⟨by decide, by decide⟩⟩
theorem fX8_47 : gF RX8 47 7 5 (tyX8 5) := ⟨RX8, TX8, 9, tyX8, rfl, by decide, TS_in 258 (by decide +kernel) rfl, wtX8, tyX8_ok, nmX8, rfl, Or.inr ⟨by decide, by decide⟩⟩
theorem fX8_54 : gF RX8 54 7 6 (tyX8 6) := ⟨RX8, TX8, 9, tyX8, rfl, by decide, TS_in 259 (by decide +kernel) rfl, wtX8, tyX8_ok, nmX8, rfl, Or.inr ⟨by decide, by decide⟩⟩
theorem fX8_61 : gF RX8 61 7 7 (tyX8 7) := ⟨RX8, TX8, 9, tyX8, rfl, by decide, TS_in 260 (by decide +kernel) rfl, wtX8, tyX8_ok, nmX8, rfl, Or.inr ⟨by decide, by decide⟩⟩
theorem fX8_69 : gF RX8 69 7 8 .long := ⟨RX8, TX8, 9, tyX8, rfl, by decide, TS_in 261 (by decide +kernel) rfl, wtX8, tyX8_ok, nmX8, rfl, Or.inl rfl⟩
theorem fX8_77 : gF RX8 77 0 0 .int := ⟨RX1, TX1, 5, tyX1, rfl, by decide, TS_in 87 (by decide +kernel) rfl, wtX1, tyX1_ok, nmX1, rfl, Or.inl rfl⟩
theorem fX8_81 : gF RX8 81 0 1 .int := ⟨RX1, TX1, 5, tyX1, rfl, by decide, TS_in 90 (by decide +kernel) rfl, wtX1, tyX1_ok, nmX1, rfl, Or.inl rfl⟩
theorem fX8_120 : gF RX8 120 1 3 .int := ⟨RX2, TX2, 4, tyX2, rfl, by decide, TS_in 212 (by decide +kernel) rfl, wtX2, tyX2_ok, nmX2, rfl, Or.inl rfl⟩
theorem fX8_123 : gF RX8 123 1 0 (tyX2 0) := ⟨RX2, TX2, 4, tyX2, rfl, by decide, TS_in 206 (by decide +kernel) rfl, wtX2, tyX2_ok, nmX2, rfl, Or.inr ⟨by decide, by decide⟩⟩
theorem fX8_127 : gF RX8 127 1 1 (tyX2 1) := ⟨RX2, TX2, 4, tyX2, rfl, by decide, TS_in 208 (by decide +kernel) rfl, wtX2, tyX2_ok, nmX2, rfl, Or.inr ⟨by decide, by decide⟩⟩
theorem fX8_130 : gF RX8 130 1 2 (tyX2 2) := ⟨RX2, TX2, 4, tyX2, rfl, by decide, TS_in 210 (by decide +kernel) rfl, wtX2, tyX2_ok, nmX2, rfl, Or.inr ⟨by decide, by decide⟩⟩
theorem fX8_145 : gF RX8 145 2 2 .int := ⟨RX3, TX3, 3, tyX3, rfl, by decide, TS_in 121 (by decide +kernel) rfl, wtX3, tyX3_ok, nmX3, rfl, Or.inl rfl⟩
theorem fX8_158 : gF RX8 158 4 1 .int := ⟨RX5, TX5, 2, tyX5, rfl, by decide, TS_in 172 (by decide +kernel) rfl, wtX5, tyX5_ok, nmX5, rfl, Or.inl rfl⟩
theorem fX8_159 : gF RX8 159 4 0 (tyX5 0) := ⟨RX5, TX5, 2, tyX5, rfl, by decide, TS_in 170 (by decide +kernel) rfl, wtX5, tyX5_ok, nmX5, rfl, Or.inr ⟨by decide, by decide⟩⟩
theorem fX8_172 : gF RX8 172 6 2 .int := ⟨RX7, TX7, 4, tyX7, rfl, by decide, TS_in 188 (by decide +kernel) rfl, wtX7, tyX7_ok, nmX7, rfl, Or.inl rfl⟩
theorem fX8_173 : gF RX8 173 6 3 .int := ⟨RX7, TX7, 4, tyX7, rfl, by decide, TS_in 189 (by decide +kernel) rfl, wtX7, tyX7_ok, nmX7, rfl, Or.inl rfl⟩
theorem fX8_183 : gF RX8 183 3 7 .int := ⟨RX4, TX4, 8, tyX4, rfl, by decide, TS_in 143 (by decide +kernel) rfl, wtX4, tyX4_ok, nmX4, rfl, Or.inl rfl⟩
theorem fX8_216 : gF RX8 216 5 3 .int := ⟨RX6, TX6, 4, tyX6, rfl, by decide, TS_in 234 (by decide +kernel) rfl, wtX6, tyX6_ok, nmX6, rfl, Or.inl rfl⟩
theorem fX8_227 : gF RX8 227 0 3 .int := ⟨RX1, TX1, 5, tyX1, rfl, by decide, TS_in 97 (by decide +kernel) rfl, wtX1, tyX1_ok, nmX1, rfl, Or.inl rfl⟩
theorem fX8_242 : gF RX8 242 5 1 (tyX6 1) := ⟨RX6, TX6, 4, tyX6, rfl, by decide, TS_in 230 (by decide +kernel) rfl, wtX6, tyX6_ok, nmX6, rfl, Or.inr ⟨by decide, by decide⟩⟩
theorem fX8_245 : gF RX8 245 5 2 .int := ⟨RX6, TX6, 4, tyX6, rfl, by decide, TS_in 232 (by decide +kernel) rfl, wtX6, tyX6_ok, nmX6, rfl, Or.inl rfl⟩
theorem fX8_257 : gF RX8 257 6 1 (tyX7 1) := ⟨RX7, TX7, 4, tyX7, rfl, by decide, TS_in 186 (by decide +kernel) rfl, wtX7, tyX7_ok, nmX7, rfl, Or.inr ⟨by decide, by decide⟩⟩
theorem fX9_7 : gF RX9 7 8 0 .int := ⟨RX9, TX9, 25, tyX9, rfl, by decide, TS_in 703 (by decide +kernel) rfl, wtX9, tyX9_ok, nmX9, rfl, Or.inl rfl⟩
theorem fX9_13 : gF RX9 13 8 1 .int := ⟨RX9, TX9, 25, tyX9, rfl, by decide, TS_in 704 (by decide +kernel) rfl, wtX9, tyX9_ok, nmX9, rfl, Or.inl rfl⟩
theorem fX9_16 : gF RX9 16 8 2 (tyX9 2) := ⟨RX9, TX9, 25, tyX9, rfl, by decide, TS_in 705 (by decide +kernel) rfl, wtX9, tyX9_ok, nmX9, rfl, Or.inr ⟨by decide, by decide⟩⟩
theorem fX9_20 : gF RX9 20 8 3 (tyX9 3) := ⟨RX9, TX9, 25, tyX9, rfl, by decide, TS_in 706 (by decide +kernel) rfl, wtX9, tyX9_ok, nmX9, rfl, Or.inr ⟨by decide, by decide⟩⟩
theorem fX9_23 : gF RX9 23 8 4 (tyX9 4) := ⟨RX9, TX9, 25, tyX9, rfl, by decide, TS_in 707 (by decide +kernel) rfl, wtX9, tyX9_ok, nmX9, rfl, Or.inr ⟨by decide, by decide⟩⟩
theorem fX9_26 : gF RX9 26 8 7 (tyX9 7) := ⟨RX9, TX9, 25, tyX9, rfl, by decide, TS_in 710 (by decide +kernel) rfl, wtX9, tyX9_ok, nmX9, rfl, Or.inr ⟨by decide, by decide⟩⟩
theorem fX9_29 : gF RX9 29 8 8 (tyX9 8) := ⟨RX9, TX9, 25, tyX9, rfl, by decide, TS_in 711 (by decide +kernel) rfl, wtX9, tyX9_ok, nmX9, rfl, Or.inr ⟨by decide, by decide⟩⟩
theorem fX9_32 : gF RX9 32 8 11 (tyX9 11) := ⟨RX9, TX9, 25, tyX9, rfl, by decide, TS_in 714 (by decide +kernel) rfl, wtX9, tyX9_ok, nmX9, rfl, Or.inr ⟨by decide, by decide⟩⟩
theorem fX9_35 : gF RX9 35 8 13 (tyX9 13) := ⟨RX9, TX9, 25, tyX9, rfl, by decide, TS_in 716 (by decide +kernel) rfl, wtX9, tyX9_ok, nmX9, rfl, Or.inr ⟨by decide, by decide⟩⟩
theorem fX9_38 : gF RX9 38 8 14 (tyX9 14) := ⟨RX9, TX9, 25, tyX9, rfl, by decide, TS_in 717 (by decide +kernel) rfl, wtX9, tyX9_ok, nmX9, rfl, Or.inr ⟨by decide, by decide⟩⟩
theorem fX9_41 : gF RX9 41 8 15 (tyX9 15) := ⟨RX9, TX9, 25, tyX9, rfl, by decide, TS_in 718 (by decide +kernel) rfl, wtX9, tyX9_ok, nmX9, rfl, Or.inr ⟨by decide, by decide⟩⟩
theorem fX9_45 : gF RX9 45 8 16 (tyX9 16) := ⟨RX9, TX9, 25, tyX9, rfl, by decide, TS_in 719 (by decide +kernel) rfl, wtX9, tyX9_ok, nmX9, rfl, Or.inr ⟨by decide, by decide⟩⟩
theorem fX9_48 : gF RX9 48 8 18 (tyX9 18) := ⟨RX9, TX9, 25, tyX9, rfl, by decide, TS_in 721 (by decide +kernel) rfl, wtX9, tyX9_ok, nmX9, rfl, Or.inr ⟨by decide, by decide⟩⟩
theorem fX9_51 : gF RX9 51 8 19 (tyX9 19) := ⟨RX9, TX9, 25, tyX9, rfl, by decide, TS_in 722 (by decide +kernel) rfl, wtX9, tyX9_ok, nmX9, rfl, Or.inr ⟨by decide, by decide⟩⟩
theorem fX9_54 : gF RX9 54 8 21 (tyX9 21) := ⟨RX9, TX9, 25, tyX9, rfl, by decide, TS_in 724 (by decide +kernel) rfl, wtX9, tyX9_ok, nmX9, rfl, Or.inr ⟨by decide, by decide⟩⟩
theorem fX9_57 : gF RX9 57 8 24 (tyX9 24) := ⟨RX9, TX9, 25, tyX9, rfl, by decide, TS_in 727 (by decide +kernel) rfl, wtX9, tyX9_ok, nmX9, rfl, Or.inr ⟨by decide, by decide⟩⟩
theorem fX9_68 : gF RX9 68 8 5 .int := ⟨RX9, TX9, 25, tyX9, rfl, by decide, TS_in 708 (by decide +kernel) rfl, wtX9, tyX9_ok, nmX9, rfl, Or.inl rfl⟩
theorem fX9_74 : gF RX9 74 8 6 .int := ⟨RX9, TX9, 25, tyX9, rfl, by decide, TS_in 709 (by decide +kernel) rfl, wtX9, tyX9_ok, nmX9, rfl, Or.inl rfl⟩
theorem fX9_102 : gF RX9 102 8 10 .int := ⟨RX9, TX9, 25, tyX9, rfl, by decide, TS_in 713 (by decide +kernel) rfl, wtX9, tyX9_ok, nmX9, rfl, Or.inl rfl⟩
theorem fX9_135 : gF RX9 135 8 12 .int := ⟨RX9, TX9, 25, tyX9, rfl, by decide, TS_in 715 (by decide +kernel) rfl, wtX9, tyX9_ok, nmX9, rfl, Or.inl rfl⟩
theorem fX9_153 : gF RX9 153 8 9 .int := ⟨RX9, TX9, 25, tyX9, rfl, by decide, TS_in 712 (by decide +kernel) rfl, wtX9, tyX9_ok, nmX9, rfl, Or.inl rfl⟩
theorem fX9_173 : gF RX9 173 8 17 .int := ⟨RX9, TX9, 25, tyX9, rfl, by decide, TS_in 720 (by decide +kernel) rfl, wtX9, tyX9_ok, nmX9, rfl, Or.inl rfl⟩
theorem fX9_180 : gF RX9 180 8 20 .int := ⟨RX9, TX9, 25, tyX9, rfl, by decide, TS_in 723 (by decide +kernel) rfl, wtX9, tyX9_ok, nmX9, rfl, Or.inl rfl⟩
theorem fX9_183 : gF RX9 183 8 22 .int := ⟨RX9, TX9, 25, tyX9, rfl, by decide, TS_in 725 (by decide +kernel) rfl, wtX9, tyX9_ok, nmX9, rfl, Or.inl rfl⟩
theorem fX9_199 : gF RX9 199 8 23 .int := ⟨RX9, TX9, 25, tyX9, rfl, by decide, TS_in 726 (by decide +kernel) rfl, wtX9, tyX9_ok, nmX9, rfl, Or.inl rfl⟩
theorem kX0_11 : gSt RX0 11 mX0_mask 2 := ⟨TS_in 320 (by decide +kernel) rfl, TS_in 65 (by decide +kernel) rfl, TS_in 318 (by decide +kernel) rfl, TS_in 319 (by decide +kernel) rfl, by decide +kernel⟩
theorem kX0_15 : gSt RX0 15 mX0_bit 2 := ⟨TS_in 343 (by decide +kernel) rfl, TS_in 65 (by decide +kernel) rfl, TS_in 341 (by decide +kernel) rfl, TS_in 342 (by decide +kernel) rfl, by decide +kernel⟩
theorem kX1_28 : gV RX1 28 mX1_stepFrom 2 := ⟨TS_in 252 (by decide +kernel) rfl, TS_in 57 (by decide +kernel) rfl, TS_in 249 (by decide +kernel) rfl, TS_in 251 (by decide +kernel) rfl, TS_in 0 (by decide +kernel) rfl, by decide +kernel⟩
theorem kX1_32 : gV RX1 32 mX1_has 1 := ⟨TS_in 311 (by decide +kernel) rfl, TS_in 57 (by decide +kernel) rfl, TS_in 361 (by decide +kernel) rfl, TS_in 309 (by decide +kernel) rfl, TS_in 310 (by decide +kernel) rfl, by decide +kernel⟩
theorem kX2_26 : gV RX2 26 mX2_dropOldest 0 := ⟨TS_in 295 (by decide +kernel) rfl, TS_in 62 (by decide +kernel) rfl, TS_in 292 (by decide +kernel) rfl, TS_in 294 (by decide +kernel) rfl, TS_in 1 (by decide +kernel) rfl, by decide +kernel⟩
theorem kX3_23 : gSt RX3 23 mX0_mask 2 := ⟨TS_in 320 (by decide +kernel) rfl, TS_in 65 (by decide +kernel) rfl, TS_in 378 (by decide +kernel) rfl, TS_in 319 (by decide +kernel) rfl, by decide +kernel⟩
theorem kX3_34 : gSt RX3 34 mX0_freeMask 2 := ⟨TS_in 330 (by decide +kernel) rfl, TS_in 65 (by decide +kernel) rfl, TS_in 379 (by decide +kernel) rfl, TS_in 329 (by decide +kernel) rfl, by decide +kernel⟩
theorem kX3_40 : gV RX3 40 mX3_addMovesFrom 2 := ⟨TS_in 383 (by decide +kernel) rfl, TS_in 58 (by decide +kernel) rfl, TS_in 380 (by decide +kernel) rfl, TS_in 382 (by decide +kernel) rfl, TS_in 5 (by decide +kernel) rfl, by decide +kernel⟩
theorem kX3_44 : gV RX3 44 mX1_seenFrom 2 := ⟨TS_in 360 (by decide +kernel) rfl, TS_in 57 (by decide +kernel) rfl, TS_in 384 (by decide +kernel) rfl, TS_in 358 (by decide +kernel) rfl, TS_in 359 (by decide +kernel) rfl, by decide +kernel⟩
theorem kX3_48 : gV RX3 48 mX3_addBurns 2 := ⟨TS_in 388 (by decide +kernel) rfl, TS_in 58 (by decide +kernel) rfl, TS_in 385 (by decide +kernel) rfl, TS_in 387 (by decide +kernel) rfl, TS_in 6 (by decide +kernel) rfl, by decide +kernel⟩
theorem kX3_51 : gV RX3 51 mX3_fromOf 1 := ⟨TS_in 400 (by decide +kernel) rfl, TS_in 58 (by decide +kernel) rfl, TS_in 397 (by decide +kernel) rfl, TS_in 398 (by decide +kernel) rfl, TS_in 399 (by decide +kernel) rfl, by decide +kernel⟩
theorem kX3_55 : gSt RX3 55 mX0_bit 2 := ⟨TS_in 343 (by decide +kernel) rfl, TS_in 65 (by decide +kernel) rfl, TS_in 401 (by decide +kernel) rfl, TS_in 342 (by decide +kernel) rfl, by decide +kernel⟩
theorem kX3_61 : gV RX3 61 mX3_toOf 1 := ⟨TS_in 406 (by decide +kernel) rfl, TS_in 58 (by decide +kernel) rfl, TS_in 403 (by decide +kernel) rfl, TS_in 404 (by decide +kernel) rfl, TS_in 405 (by decide +kernel) rfl, by decide +kernel⟩
theorem kX3_64 : gV RX3 64 mX3_burntOf 1 := ⟨TS_in 410 (by decide +kernel) rfl, TS_in 58 (by decide +kernel) rfl, TS_in 407 (by decide +kernel) rfl, TS_in 408 (by decide +kernel) rfl, TS_in 409 (by decide +kernel) rfl, by decide +kernel⟩
theorem kX4_40 : gV RX4 40 mX4_add 1 := ⟨TS_in 490 (by decide +kernel) rfl, TS_in 59 (by decide +kernel) rfl, TS_in 487 (by decide +kernel) rfl, TS_in 489 (by decide +kernel) rfl, TS_in 12 (by decide +kernel) rfl, by decide +kernel⟩
theorem kX4_44 : gV RX4 44 mX4_sideAt 1 := ⟨TS_in 499 (by decide +kernel) rfl, TS_in 59 (by decide +kernel) rfl, TS_in 496 (by decide +kernel) rfl, TS_in 498 (by decide +kernel) rfl, TS_in 14 (by decide +kernel) rfl, by decide +kernel⟩
theorem kX4_48 : gV RX4 48 mX3_fill 2 := ⟨TS_in 377 (by decide +kernel) rfl, TS_in 58 (by decide +kernel) rfl, TS_in 502 (by decide +kernel) rfl, TS_in 375 (by decide +kernel) rfl, TS_in 376 (by decide +kernel) rfl, by decide +kernel⟩
theorem kX4_55 : gV RX4 55 mX3_after 3 := ⟨TS_in 396 (by decide +kernel) rfl, TS_in 58 (by decide +kernel) rfl, TS_in 503 (by decide +kernel) rfl, TS_in 394 (by decide +kernel) rfl, TS_in 395 (by decide +kernel) rfl, by decide +kernel⟩
theorem kX4_59 : gV RX4 59 mX4_slotOf 1 := ⟨TS_in 494 (by decide +kernel) rfl, TS_in 59 (by decide +kernel) rfl, TS_in 491 (by decide +kernel) rfl, TS_in 493 (by decide +kernel) rfl, TS_in 13 (by decide +kernel) rfl, by decide +kernel⟩
theorem kX4_65 : gSt RX4 65 mX0_mask 2 := ⟨TS_in 320 (by decide +kernel) rfl, TS_in 65 (by decide +kernel) rfl, TS_in 500 (by decide +kernel) rfl, TS_in 319 (by decide +kernel) rfl, by decide +kernel⟩
theorem kX4_71 : gSt RX4 71 mJ6_bitCount_0f7a4 1 := ⟨TS_in 334 (by decide +kernel) rfl, TS_in 66 (by decide +kernel) rfl, TS_in 501 (by decide +kernel) rfl, TS_in 333 (by decide +kernel) rfl, by decide +kernel⟩
theorem kX4_76 : gV RX4 76 mX4_find 1 := ⟨TS_in 511 (by decide +kernel) rfl, TS_in 59 (by decide +kernel) rfl, TS_in 508 (by decide +kernel) rfl, TS_in 509 (by decide +kernel) rfl, TS_in 510 (by decide +kernel) rfl, by decide +kernel⟩
-- no link RX4 79
-- no link RX4 85
theorem kX5_24 : gSt RX5 24 mX5_spread 3 := ⟨TS_in 439 (by decide +kernel) rfl, TS_in 60 (by decide +kernel) rfl, TS_in 437 (by decide +kernel) rfl, TS_in 438 (by decide +kernel) rfl, by decide +kernel⟩
theorem kX5_28 : gV RX5 28 mX1_neighboursOf 1 := ⟨TS_in 443 (by decide +kernel) rfl, TS_in 57 (by decide +kernel) rfl, TS_in 440 (by decide +kernel) rfl, TS_in 441 (by decide +kernel) rfl, TS_in 442 (by decide +kernel) rfl, by decide +kernel⟩
theorem kX6_23 : gV RX6 23 mX6_readCommand 1 := ⟨TS_in 606 (by decide +kernel) rfl, TS_in 63 (by decide +kernel) rfl, TS_in 603 (by decide +kernel) rfl, TS_in 604 (by decide +kernel) rfl, TS_in 605 (by decide +kernel) rfl, by decide +kernel⟩
theorem kX6_27 : gV RX6 27 mX6_findWord 1 := ⟨TS_in 610 (by decide +kernel) rfl, TS_in 63 (by decide +kernel) rfl, TS_in 607 (by decide +kernel) rfl, TS_in 609 (by decide +kernel) rfl, TS_in 16 (by decide +kernel) rfl, by decide +kernel⟩
theorem kX6_33 : gSt RX6 33 mX6_textOf 1 := ⟨TS_in 613 (by decide +kernel) rfl, TS_in 63 (by decide +kernel) rfl, TS_in 611 (by decide +kernel) rfl, TS_in 612 (by decide +kernel) rfl, by decide +kernel⟩
theorem kX6_37 : gV RX6 37 mJ0_length_8abf5 0 := ⟨TS_in 627 (by decide +kernel) rfl, TS_in 68 (by decide +kernel) rfl, TS_in 624 (by decide +kernel) rfl, TS_in 625 (by decide +kernel) rfl, TS_in 626 (by decide +kernel) rfl, by decide +kernel⟩
theorem kX6_43 : gSt RX6 43 mX6_numbersOf 1 := ⟨TS_in 678 (by decide +kernel) rfl, TS_in 63 (by decide +kernel) rfl, TS_in 676 (by decide +kernel) rfl, TS_in 677 (by decide +kernel) rfl, by decide +kernel⟩
theorem kX6_46 : gV RX6 46 mX6_readNumber 2 := ⟨TS_in 682 (by decide +kernel) rfl, TS_in 63 (by decide +kernel) rfl, TS_in 679 (by decide +kernel) rfl, TS_in 681 (by decide +kernel) rfl, TS_in 19 (by decide +kernel) rfl, by decide +kernel⟩
theorem kX6_50 : gV RX6 50 mX6_hasSign 2 := ⟨TS_in 675 (by decide +kernel) rfl, TS_in 63 (by decide +kernel) rfl, TS_in 672 (by decide +kernel) rfl, TS_in 674 (by decide +kernel) rfl, TS_in 18 (by decide +kernel) rfl, by decide +kernel⟩
theorem kX6_54 : gV RX6 54 mX6_hasText 2 := ⟨TS_in 623 (by decide +kernel) rfl, TS_in 63 (by decide +kernel) rfl, TS_in 620 (by decide +kernel) rfl, TS_in 622 (by decide +kernel) rfl, TS_in 17 (by decide +kernel) rfl, by decide +kernel⟩
theorem kX6_58 : gV RX6 58 mJ0_charAt_5068e 1 := ⟨TS_in 637 (by decide +kernel) rfl, TS_in 68 (by decide +kernel) rfl, TS_in 634 (by decide +kernel) rfl, TS_in 635 (by decide +kernel) rfl, TS_in 636 (by decide +kernel) rfl, by decide +kernel⟩
theorem kX6_62 : gV RX6 62 mX6_hasDigit 1 := ⟨TS_in 686 (by decide +kernel) rfl, TS_in 63 (by decide +kernel) rfl, TS_in 683 (by decide +kernel) rfl, TS_in 685 (by decide +kernel) rfl, TS_in 20 (by decide +kernel) rfl, by decide +kernel⟩
theorem kX7_23 : gV RX7 23 mX7_empty 0 := ⟨TS_in 299 (by decide +kernel) rfl, TS_in 61 (by decide +kernel) rfl, TS_in 519 (by decide +kernel) rfl, TS_in 297 (by decide +kernel) rfl, TS_in 298 (by decide +kernel) rfl, by decide +kernel⟩
theorem kX8_65 : gV RX8 65 mX1_resize 2 := ⟨TS_in 248 (by decide +kernel) rfl, TS_in 57 (by decide +kernel) rfl, TS_in 245 (by decide +kernel) rfl, TS_in 246 (by decide +kernel) rfl, TS_in 247 (by decide +kernel) rfl, by decide +kernel⟩
theorem kX8_73 : gSt RX8 73 mX8_isBoardSize 2 := ⟨TS_in 287 (by decide +kernel) rfl, TS_in 56 (by decide +kernel) rfl, TS_in 285 (by decide +kernel) rfl, TS_in 286 (by decide +kernel) rfl, by decide +kernel⟩
theorem kX8_84 : gV RX8 84 mX2_record 2 := ⟨TS_in 291 (by decide +kernel) rfl, TS_in 62 (by decide +kernel) rfl, TS_in 288 (by decide +kernel) rfl, TS_in 289 (by decide +kernel) rfl, TS_in 290 (by decide +kernel) rfl, by decide +kernel⟩
theorem kX8_88 : gV RX8 88 mX7_empty 0 := ⟨TS_in 299 (by decide +kernel) rfl, TS_in 61 (by decide +kernel) rfl, TS_in 296 (by decide +kernel) rfl, TS_in 297 (by decide +kernel) rfl, TS_in 298 (by decide +kernel) rfl, by decide +kernel⟩
theorem kX8_91 : gV RX8 91 mX8_putContents 2 := ⟨TS_in 307 (by decide +kernel) rfl, TS_in 56 (by decide +kernel) rfl, TS_in 304 (by decide +kernel) rfl, TS_in 306 (by decide +kernel) rfl, TS_in 2 (by decide +kernel) rfl, by decide +kernel⟩
theorem kX8_95 : gV RX8 95 mX1_has 1 := ⟨TS_in 311 (by decide +kernel) rfl, TS_in 57 (by decide +kernel) rfl, TS_in 308 (by decide +kernel) rfl, TS_in 309 (by decide +kernel) rfl, TS_in 310 (by decide +kernel) rfl, by decide +kernel⟩
theorem kX8_99 : gSt RX8 99 mX0_at 2 := ⟨TS_in 317 (by decide +kernel) rfl, TS_in 65 (by decide +kernel) rfl, TS_in 315 (by decide +kernel) rfl, TS_in 316 (by decide +kernel) rfl, by decide +kernel⟩
theorem kX8_105 : gSt RX8 105 mX8_isContents 1 := ⟨TS_in 314 (by decide +kernel) rfl, TS_in 56 (by decide +kernel) rfl, TS_in 312 (by decide +kernel) rfl, TS_in 313 (by decide +kernel) rfl, by decide +kernel⟩
theorem kX8_108 : gV RX8 108 mX8_maskOf 1 := ⟨TS_in 327 (by decide +kernel) rfl, TS_in 56 (by decide +kernel) rfl, TS_in 324 (by decide +kernel) rfl, TS_in 326 (by decide +kernel) rfl, TS_in 3 (by decide +kernel) rfl, by decide +kernel⟩
theorem kX8_112 : gSt RX8 112 mJ6_bitCount_0f7a4 1 := ⟨TS_in 334 (by decide +kernel) rfl, TS_in 66 (by decide +kernel) rfl, TS_in 332 (by decide +kernel) rfl, TS_in 333 (by decide +kernel) rfl, by decide +kernel⟩
theorem kX8_117 : gV RX8 117 mX1_seenFrom 2 := ⟨TS_in 360 (by decide +kernel) rfl, TS_in 57 (by decide +kernel) rfl, TS_in 357 (by decide +kernel) rfl, TS_in 358 (by decide +kernel) rfl, TS_in 359 (by decide +kernel) rfl, by decide +kernel⟩
theorem kX8_134 : gV RX8 134 mX8_makeMove 4 := ⟨TS_in 373 (by decide +kernel) rfl, TS_in 56 (by decide +kernel) rfl, TS_in 370 (by decide +kernel) rfl, TS_in 372 (by decide +kernel) rfl, TS_in 4 (by decide +kernel) rfl, by decide +kernel⟩
theorem kX8_138 : gSt RX8 138 mX8_isSide 1 := ⟨TS_in 323 (by decide +kernel) rfl, TS_in 56 (by decide +kernel) rfl, TS_in 321 (by decide +kernel) rfl, TS_in 322 (by decide +kernel) rfl, by decide +kernel⟩
theorem kX8_141 : gV RX8 141 mX3_fill 2 := ⟨TS_in 377 (by decide +kernel) rfl, TS_in 58 (by decide +kernel) rfl, TS_in 374 (by decide +kernel) rfl, TS_in 375 (by decide +kernel) rfl, TS_in 376 (by decide +kernel) rfl, by decide +kernel⟩
theorem kX8_146 : gV RX8 146 mX3_fromOf 1 := ⟨TS_in 400 (by decide +kernel) rfl, TS_in 58 (by decide +kernel) rfl, TS_in 422 (by decide +kernel) rfl, TS_in 398 (by decide +kernel) rfl, TS_in 399 (by decide +kernel) rfl, by decide +kernel⟩
theorem kX8_149 : gV RX8 149 mX3_toOf 1 := ⟨TS_in 406 (by decide +kernel) rfl, TS_in 58 (by decide +kernel) rfl, TS_in 423 (by decide +kernel) rfl, TS_in 404 (by decide +kernel) rfl, TS_in 405 (by decide +kernel) rfl, by decide +kernel⟩
theorem kX8_152 : gV RX8 152 mX3_burntOf 1 := ⟨TS_in 410 (by decide +kernel) rfl, TS_in 58 (by decide +kernel) rfl, TS_in 424 (by decide +kernel) rfl, TS_in 408 (by decide +kernel) rfl, TS_in 409 (by decide +kernel) rfl, by decide +kernel⟩
theorem kX8_155 : gV RX8 155 mX8_divideBoard 0 := ⟨TS_in 432 (by decide +kernel) rfl, TS_in 56 (by decide +kernel) rfl, TS_in 429 (by decide +kernel) rfl, TS_in 431 (by decide +kernel) rfl, TS_in 7 (by decide +kernel) rfl, by decide +kernel⟩
theorem kX8_162 : gV RX8 162 mX5_has 1 := ⟨TS_in 455 (by decide +kernel) rfl, TS_in 60 (by decide +kernel) rfl, TS_in 452 (by decide +kernel) rfl, TS_in 453 (by decide +kernel) rfl, TS_in 454 (by decide +kernel) rfl, by decide +kernel⟩
theorem kX8_163 : gV RX8 163 mX8_kindOf 1 := ⟨TS_in 459 (by decide +kernel) rfl, TS_in 56 (by decide +kernel) rfl, TS_in 456 (by decide +kernel) rfl, TS_in 458 (by decide +kernel) rfl, TS_in 8 (by decide +kernel) rfl, by decide +kernel⟩
theorem kX8_166 : gV RX8 166 mX8_isShared 1 := ⟨TS_in 467 (by decide +kernel) rfl, TS_in 56 (by decide +kernel) rfl, TS_in 464 (by decide +kernel) rfl, TS_in 466 (by decide +kernel) rfl, TS_in 9 (by decide +kernel) rfl, by decide +kernel⟩
theorem kX8_169 : gV RX8 169 mX8_askValue 1 := ⟨TS_in 471 (by decide +kernel) rfl, TS_in 56 (by decide +kernel) rfl, TS_in 468 (by decide +kernel) rfl, TS_in 470 (by decide +kernel) rfl, TS_in 10 (by decide +kernel) rfl, by decide +kernel⟩
theorem kX8_176 : gSt RX8 176 mX8_otherSide 1 := ⟨TS_in 413 (by decide +kernel) rfl, TS_in 56 (by decide +kernel) rfl, TS_in 411 (by decide +kernel) rfl, TS_in 412 (by decide +kernel) rfl, by decide +kernel⟩
theorem kX8_179 : gV RX8 179 mX4_explore 3 := ⟨TS_in 486 (by decide +kernel) rfl, TS_in 59 (by decide +kernel) rfl, TS_in 483 (by decide +kernel) rfl, TS_in 484 (by decide +kernel) rfl, TS_in 485 (by decide +kernel) rfl, by decide +kernel⟩
theorem kX8_184 : gSt RX8 184 mX8_exploreAndSolve 3 := ⟨TS_in 538 (by decide +kernel) rfl, TS_in 56 (by decide +kernel) rfl, TS_in 536 (by decide +kernel) rfl, TS_in 537 (by decide +kernel) rfl, by decide +kernel⟩
theorem kX8_188 : gV RX8 188 mX4_isWon 1 := ⟨TS_in 549 (by decide +kernel) rfl, TS_in 59 (by decide +kernel) rfl, TS_in 546 (by decide +kernel) rfl, TS_in 547 (by decide +kernel) rfl, TS_in 548 (by decide +kernel) rfl, by decide +kernel⟩
theorem kX8_191 : gV RX8 191 mX8_findOutcome 1 := ⟨TS_in 557 (by decide +kernel) rfl, TS_in 56 (by decide +kernel) rfl, TS_in 554 (by decide +kernel) rfl, TS_in 556 (by decide +kernel) rfl, TS_in 15 (by decide +kernel) rfl, by decide +kernel⟩
theorem kX8_195 : gV RX8 195 mX8_aloneOf 1 := ⟨TS_in 475 (by decide +kernel) rfl, TS_in 56 (by decide +kernel) rfl, TS_in 472 (by decide +kernel) rfl, TS_in 474 (by decide +kernel) rfl, TS_in 11 (by decide +kernel) rfl, by decide +kernel⟩
theorem kX8_199 : gV RX8 199 mX3_after 3 := ⟨TS_in 396 (by decide +kernel) rfl, TS_in 58 (by decide +kernel) rfl, TS_in 393 (by decide +kernel) rfl, TS_in 394 (by decide +kernel) rfl, TS_in 395 (by decide +kernel) rfl, by decide +kernel⟩
theorem kX8_203 : gV RX8 203 mX4_find 1 := ⟨TS_in 511 (by decide +kernel) rfl, TS_in 59 (by decide +kernel) rfl, TS_in 566 (by decide +kernel) rfl, TS_in 509 (by decide +kernel) rfl, TS_in 510 (by decide +kernel) rfl, by decide +kernel⟩
theorem kX8_206 : gV RX8 206 mX4_restOf 1 := ⟨TS_in 574 (by decide +kernel) rfl, TS_in 59 (by decide +kernel) rfl, TS_in 571 (by decide +kernel) rfl, TS_in 572 (by decide +kernel) rfl, TS_in 573 (by decide +kernel) rfl, by decide +kernel⟩
theorem kX8_209 : gV RX8 209 mX4_contentsOf 1 := ⟨TS_in 582 (by decide +kernel) rfl, TS_in 59 (by decide +kernel) rfl, TS_in 579 (by decide +kernel) rfl, TS_in 580 (by decide +kernel) rfl, TS_in 581 (by decide +kernel) rfl, by decide +kernel⟩
theorem kX8_212 : gV RX8 212 mX6_append 1 := ⟨TS_in 590 (by decide +kernel) rfl, TS_in 63 (by decide +kernel) rfl, TS_in 587 (by decide +kernel) rfl, TS_in 588 (by decide +kernel) rfl, TS_in 589 (by decide +kernel) rfl, by decide +kernel⟩
theorem kX8_217 : gV RX8 217 mX6_findFault 0 := ⟨TS_in 602 (by decide +kernel) rfl, TS_in 63 (by decide +kernel) rfl, TS_in 599 (by decide +kernel) rfl, TS_in 600 (by decide +kernel) rfl, TS_in 601 (by decide +kernel) rfl, by decide +kernel⟩
theorem kX8_221 : gV RX8 221 mX6_readCommand 1 := ⟨TS_in 606 (by decide +kernel) rfl, TS_in 63 (by decide +kernel) rfl, TS_in 692 (by decide +kernel) rfl, TS_in 604 (by decide +kernel) rfl, TS_in 605 (by decide +kernel) rfl, by decide +kernel⟩
theorem kX8_224 : gV RX8 224 mX8_executeCommand 0 := ⟨TS_in 696 (by decide +kernel) rfl, TS_in 56 (by decide +kernel) rfl, TS_in 693 (by decide +kernel) rfl, TS_in 695 (by decide +kernel) rfl, TS_in 21 (by decide +kernel) rfl, by decide +kernel⟩
theorem kX8_230 : gSt RX8 230 mX0_freeMask 2 := ⟨TS_in 330 (by decide +kernel) rfl, TS_in 65 (by decide +kernel) rfl, TS_in 328 (by decide +kernel) rfl, TS_in 329 (by decide +kernel) rfl, by decide +kernel⟩
theorem kX8_233 : gSt RX8 233 mX0_mask 2 := ⟨TS_in 320 (by decide +kernel) rfl, TS_in 65 (by decide +kernel) rfl, TS_in 331 (by decide +kernel) rfl, TS_in 319 (by decide +kernel) rfl, by decide +kernel⟩
theorem kX8_236 : gSt RX8 236 mX0_with 3 := ⟨TS_in 340 (by decide +kernel) rfl, TS_in 65 (by decide +kernel) rfl, TS_in 338 (by decide +kernel) rfl, TS_in 339 (by decide +kernel) rfl, by decide +kernel⟩
theorem kX8_239 : gV RX8 239 mX3_find 3 := ⟨TS_in 392 (by decide +kernel) rfl, TS_in 58 (by decide +kernel) rfl, TS_in 389 (by decide +kernel) rfl, TS_in 390 (by decide +kernel) rfl, TS_in 391 (by decide +kernel) rfl, by decide +kernel⟩
theorem kX8_248 : gV RX8 248 mX5_divide 2 := ⟨TS_in 436 (by decide +kernel) rfl, TS_in 60 (by decide +kernel) rfl, TS_in 433 (by decide +kernel) rfl, TS_in 434 (by decide +kernel) rfl, TS_in 435 (by decide +kernel) rfl, by decide +kernel⟩
theorem kX8_252 : gSt RX8 252 mX0_of 3 := ⟨TS_in 478 (by decide +kernel) rfl, TS_in 65 (by decide +kernel) rfl, TS_in 476 (by decide +kernel) rfl, TS_in 477 (by decide +kernel) rfl, by decide +kernel⟩
theorem kX8_256 : gV RX8 256 mX7_find 1 := ⟨TS_in 482 (by decide +kernel) rfl, TS_in 61 (by decide +kernel) rfl, TS_in 479 (by decide +kernel) rfl, TS_in 480 (by decide +kernel) rfl, TS_in 481 (by decide +kernel) rfl, by decide +kernel⟩
theorem kX8_258 : gV RX8 258 mX4_findMostMoves 0 := ⟨TS_in 507 (by decide +kernel) rfl, TS_in 59 (by decide +kernel) rfl, TS_in 504 (by decide +kernel) rfl, TS_in 505 (by decide +kernel) rfl, TS_in 506 (by decide +kernel) rfl, by decide +kernel⟩
theorem kX8_261 : gV RX8 261 mX7_put 2 := ⟨TS_in 518 (by decide +kernel) rfl, TS_in 61 (by decide +kernel) rfl, TS_in 515 (by decide +kernel) rfl, TS_in 516 (by decide +kernel) rfl, TS_in 517 (by decide +kernel) rfl, by decide +kernel⟩
theorem kX8_264 : gV RX8 264 mX4_solve 0 := ⟨TS_in 542 (by decide +kernel) rfl, TS_in 59 (by decide +kernel) rfl, TS_in 539 (by decide +kernel) rfl, TS_in 540 (by decide +kernel) rfl, TS_in 541 (by decide +kernel) rfl, by decide +kernel⟩
theorem kX9_60 : gV RX9 60 mX9_size 0 := ⟨TS_in 805 (by decide +kernel) rfl, TS_in 64 (by decide +kernel) rfl, TS_in 802 (by decide +kernel) rfl, TS_in 804 (by decide +kernel) rfl, TS_in 25 (by decide +kernel) rfl, by decide +kernel⟩
theorem kX9_64 : gSt RX9 64 mX9_in 3 := ⟨TS_in 785 (by decide +kernel) rfl, TS_in 64 (by decide +kernel) rfl, TS_in 783 (by decide +kernel) rfl, TS_in 784 (by decide +kernel) rfl, by decide +kernel⟩
theorem kX9_71 : gV RX9 71 mX9_keeps 0 := ⟨TS_in 789 (by decide +kernel) rfl, TS_in 64 (by decide +kernel) rfl, TS_in 786 (by decide +kernel) rfl, TS_in 788 (by decide +kernel) rfl, TS_in 22 (by decide +kernel) rfl, by decide +kernel⟩
theorem kX9_77 : gV RX9 77 mX9_isField 1 := ⟨TS_in 801 (by decide +kernel) rfl, TS_in 64 (by decide +kernel) rfl, TS_in 798 (by decide +kernel) rfl, TS_in 800 (by decide +kernel) rfl, TS_in 24 (by decide +kernel) rfl, by decide +kernel⟩
theorem kX9_81 : gSt RX9 81 mX9_isSide 1 := ⟨TS_in 808 (by decide +kernel) rfl, TS_in 64 (by decide +kernel) rfl, TS_in 806 (by decide +kernel) rfl, TS_in 807 (by decide +kernel) rfl, by decide +kernel⟩
theorem kX9_84 : gV RX9 84 mX9_counted 1 := ⟨TS_in 812 (by decide +kernel) rfl, TS_in 64 (by decide +kernel) rfl, TS_in 809 (by decide +kernel) rfl, TS_in 811 (by decide +kernel) rfl, TS_in 26 (by decide +kernel) rfl, by decide +kernel⟩
theorem kX9_88 : gV RX9 88 mX9_inWay 2 := ⟨TS_in 797 (by decide +kernel) rfl, TS_in 64 (by decide +kernel) rfl, TS_in 794 (by decide +kernel) rfl, TS_in 796 (by decide +kernel) rfl, TS_in 23 (by decide +kernel) rfl, by decide +kernel⟩
theorem kX9_92 : gV RX9 92 mX9_puts 2 := ⟨TS_in 816 (by decide +kernel) rfl, TS_in 64 (by decide +kernel) rfl, TS_in 813 (by decide +kernel) rfl, TS_in 815 (by decide +kernel) rfl, TS_in 27 (by decide +kernel) rfl, by decide +kernel⟩
theorem kX9_95 : gV RX9 95 mX9_shows 0 := ⟨TS_in 832 (by decide +kernel) rfl, TS_in 64 (by decide +kernel) rfl, TS_in 829 (by decide +kernel) rfl, TS_in 831 (by decide +kernel) rfl, TS_in 28 (by decide +kernel) rfl, by decide +kernel⟩
theorem kX9_98 : gV RX9 98 mX9_sees 2 := ⟨TS_in 836 (by decide +kernel) rfl, TS_in 64 (by decide +kernel) rfl, TS_in 833 (by decide +kernel) rfl, TS_in 835 (by decide +kernel) rfl, TS_in 29 (by decide +kernel) rfl, by decide +kernel⟩
theorem kX9_105 : gV RX9 105 mX9_lists 1 := ⟨TS_in 856 (by decide +kernel) rfl, TS_in 64 (by decide +kernel) rfl, TS_in 853 (by decide +kernel) rfl, TS_in 855 (by decide +kernel) rfl, TS_in 32 (by decide +kernel) rfl, by decide +kernel⟩
theorem kX9_109 : gV RX9 109 mX9_movesNow 1 := ⟨TS_in 852 (by decide +kernel) rfl, TS_in 64 (by decide +kernel) rfl, TS_in 849 (by decide +kernel) rfl, TS_in 851 (by decide +kernel) rfl, TS_in 31 (by decide +kernel) rfl, by decide +kernel⟩
theorem kX9_112 : gV RX9 112 mX9_noMove 4 := ⟨TS_in 848 (by decide +kernel) rfl, TS_in 64 (by decide +kernel) rfl, TS_in 845 (by decide +kernel) rfl, TS_in 847 (by decide +kernel) rfl, TS_in 30 (by decide +kernel) rfl, by decide +kernel⟩
theorem kX9_116 : gV RX9 116 mX9_goes 4 := ⟨TS_in 860 (by decide +kernel) rfl, TS_in 64 (by decide +kernel) rfl, TS_in 857 (by decide +kernel) rfl, TS_in 859 (by decide +kernel) rfl, TS_in 33 (by decide +kernel) rfl, by decide +kernel⟩
theorem kX9_119 : gV RX9 119 mX9_areNear 2 := ⟨TS_in 880 (by decide +kernel) rfl, TS_in 64 (by decide +kernel) rfl, TS_in 877 (by decide +kernel) rfl, TS_in 879 (by decide +kernel) rfl, TS_in 35 (by decide +kernel) rfl, by decide +kernel⟩
theorem kX9_122 : gV RX9 122 mX9_parts 0 := ⟨TS_in 876 (by decide +kernel) rfl, TS_in 64 (by decide +kernel) rfl, TS_in 873 (by decide +kernel) rfl, TS_in 875 (by decide +kernel) rfl, TS_in 34 (by decide +kernel) rfl, by decide +kernel⟩
theorem kX9_125 : gV RX9 125 mX9_within 2 := ⟨TS_in 900 (by decide +kernel) rfl, TS_in 64 (by decide +kernel) rfl, TS_in 897 (by decide +kernel) rfl, TS_in 899 (by decide +kernel) rfl, TS_in 38 (by decide +kernel) rfl, by decide +kernel⟩
theorem kX9_128 : gV RX9 128 mX9_lowest 1 := ⟨TS_in 892 (by decide +kernel) rfl, TS_in 64 (by decide +kernel) rfl, TS_in 889 (by decide +kernel) rfl, TS_in 891 (by decide +kernel) rfl, TS_in 36 (by decide +kernel) rfl, by decide +kernel⟩
theorem kX9_131 : gV RX9 131 mX9_kind 1 := ⟨TS_in 896 (by decide +kernel) rfl, TS_in 64 (by decide +kernel) rfl, TS_in 893 (by decide +kernel) rfl, TS_in 895 (by decide +kernel) rfl, TS_in 37 (by decide +kernel) rfl, by decide +kernel⟩
theorem kX9_138 : gV RX9 138 mX9_placeOf 1 := ⟨TS_in 920 (by decide +kernel) rfl, TS_in 64 (by decide +kernel) rfl, TS_in 917 (by decide +kernel) rfl, TS_in 919 (by decide +kernel) rfl, TS_in 42 (by decide +kernel) rfl, by decide +kernel⟩
theorem kX9_141 : gSt RX9 141 mX9_sideOf 1 := ⟨TS_in 924 (by decide +kernel) rfl, TS_in 64 (by decide +kernel) rfl, TS_in 922 (by decide +kernel) rfl, TS_in 923 (by decide +kernel) rfl, by decide +kernel⟩
theorem kX9_144 : gV RX9 144 mX9_decodes 1 := ⟨TS_in 928 (by decide +kernel) rfl, TS_in 64 (by decide +kernel) rfl, TS_in 925 (by decide +kernel) rfl, TS_in 927 (by decide +kernel) rfl, TS_in 43 (by decide +kernel) rfl, by decide +kernel⟩
theorem kX9_147 : gV RX9 147 mX9_behind 2 := ⟨TS_in 932 (by decide +kernel) rfl, TS_in 64 (by decide +kernel) rfl, TS_in 929 (by decide +kernel) rfl, TS_in 931 (by decide +kernel) rfl, TS_in 44 (by decide +kernel) rfl, by decide +kernel⟩
theorem kX9_150 : gV RX9 150 mX9_coded 1 := ⟨TS_in 912 (by decide +kernel) rfl, TS_in 64 (by decide +kernel) rfl, TS_in 909 (by decide +kernel) rfl, TS_in 911 (by decide +kernel) rfl, TS_in 40 (by decide +kernel) rfl, by decide +kernel⟩
theorem kX9_156 : gV RX9 156 mX9_isReached 3 := ⟨TS_in 916 (by decide +kernel) rfl, TS_in 64 (by decide +kernel) rfl, TS_in 913 (by decide +kernel) rfl, TS_in 915 (by decide +kernel) rfl, TS_in 41 (by decide +kernel) rfl, by decide +kernel⟩
theorem kX9_160 : gV RX9 160 mX9_weighs 1 := ⟨TS_in 936 (by decide +kernel) rfl, TS_in 64 (by decide +kernel) rfl, TS_in 933 (by decide +kernel) rfl, TS_in 935 (by decide +kernel) rfl, TS_in 45 (by decide +kernel) rfl, by decide +kernel⟩
theorem kX9_164 : gV RX9 164 mX9_valueOf 1 := ⟨TS_in 908 (by decide +kernel) rfl, TS_in 64 (by decide +kernel) rfl, TS_in 905 (by decide +kernel) rfl, TS_in 907 (by decide +kernel) rfl, TS_in 39 (by decide +kernel) rfl, by decide +kernel⟩
theorem kX9_167 : gV RX9 167 mX9_winsFrom 2 := ⟨TS_in 956 (by decide +kernel) rfl, TS_in 64 (by decide +kernel) rfl, TS_in 953 (by decide +kernel) rfl, TS_in 955 (by decide +kernel) rfl, TS_in 46 (by decide +kernel) rfl, by decide +kernel⟩
theorem kX9_170 : gV RX9 170 mX9_outcomeFrom 1 := ⟨TS_in 964 (by decide +kernel) rfl, TS_in 64 (by decide +kernel) rfl, TS_in 961 (by decide +kernel) rfl, TS_in 963 (by decide +kernel) rfl, TS_in 47 (by decide +kernel) rfl, by decide +kernel⟩
theorem kX9_176 : gV RX9 176 mX9_collects 0 := ⟨TS_in 984 (by decide +kernel) rfl, TS_in 64 (by decide +kernel) rfl, TS_in 981 (by decide +kernel) rfl, TS_in 983 (by decide +kernel) rfl, TS_in 48 (by decide +kernel) rfl, by decide +kernel⟩
theorem kX9_186 : gV RX9 186 mX9_charAt 1 := ⟨TS_in 1013 (by decide +kernel) rfl, TS_in 64 (by decide +kernel) rfl, TS_in 1010 (by decide +kernel) rfl, TS_in 1012 (by decide +kernel) rfl, TS_in 52 (by decide +kernel) rfl, by decide +kernel⟩
theorem kX9_189 : gSt RX9 189 mX9_packed 5 := ⟨TS_in 1019 (by decide +kernel) rfl, TS_in 64 (by decide +kernel) rfl, TS_in 1017 (by decide +kernel) rfl, TS_in 1018 (by decide +kernel) rfl, by decide +kernel⟩
theorem kX9_193 : gV RX9 193 mX9_letters 0 := ⟨TS_in 1009 (by decide +kernel) rfl, TS_in 64 (by decide +kernel) rfl, TS_in 1006 (by decide +kernel) rfl, TS_in 1008 (by decide +kernel) rfl, TS_in 51 (by decide +kernel) rfl, by decide +kernel⟩
theorem kX9_196 : gSt RX9 196 mX9_commandOf 1 := ⟨TS_in 1016 (by decide +kernel) rfl, TS_in 64 (by decide +kernel) rfl, TS_in 1014 (by decide +kernel) rfl, TS_in 1015 (by decide +kernel) rfl, by decide +kernel⟩
theorem kX9_202 : gV RX9 202 mX9_isNumber 1 := ⟨TS_in 1023 (by decide +kernel) rfl, TS_in 64 (by decide +kernel) rfl, TS_in 1020 (by decide +kernel) rfl, TS_in 1022 (by decide +kernel) rfl, TS_in 53 (by decide +kernel) rfl, by decide +kernel⟩
theorem kX9_205 : gV RX9 205 mX9_isCommand 0 := ⟨TS_in 1005 (by decide +kernel) rfl, TS_in 64 (by decide +kernel) rfl, TS_in 1002 (by decide +kernel) rfl, TS_in 1004 (by decide +kernel) rfl, TS_in 50 (by decide +kernel) rfl, by decide +kernel⟩
theorem kX9_209 : gV RX9 209 mX9_faultOf 0 := ⟨TS_in 1001 (by decide +kernel) rfl, TS_in 64 (by decide +kernel) rfl, TS_in 998 (by decide +kernel) rfl, TS_in 1000 (by decide +kernel) rfl, TS_in 49 (by decide +kernel) rfl, by decide +kernel⟩
theorem kX9_212 : gV RX9 212 mX9_does 0 := ⟨TS_in 1031 (by decide +kernel) rfl, TS_in 64 (by decide +kernel) rfl, TS_in 1028 (by decide +kernel) rfl, TS_in 1030 (by decide +kernel) rfl, TS_in 54 (by decide +kernel) rfl, by decide +kernel⟩
end
section
/-! pure facts: rows, frames, geometry, moves -/
/-- z is 1 where p holds, else 0 -/
def isB (z : Int) (p : Prop) : Prop := (z = 1 ∧ p) ∨ (z = 0 ∧ ¬ p)
theorem isB_01 {z : Int} {p : Prop} (h : isB z p) : z = 0 ∨ z = 1 := by rcases h with ⟨h, -⟩ | ⟨h, -⟩ <;> simp [h]
theorem isB_iff {z : Int} {p q : Prop} (h : isB z p) (hpq : p ↔ q) : isB z q := by rcases h with ⟨h, g⟩ | ⟨h, g⟩; exact Or.inl ⟨h, hpq.mp g⟩; exact Or.inr ⟨h, fun k => g (hpq.mpr k)⟩
def setRow (S : gS) (v n : Nat) (f : Nat → Int) : gS := fun a j => cond (Nat.beq a v) (cond (Nat.blt j n) (f j) (S a j)) (S a j)
theorem setRow_in (S : gS) {v n j : Nat} (f : Nat → Int) (h : j < n) : setRow S v n f v j = f j := by
  have h1 : Nat.blt j n = true := by rw [Nat.blt_eq]; exact h
  have h2 : Nat.beq v v = true := by simp
  simp only [setRow, h1, h2, cond_true]
theorem setRow_j (S : gS) {v n j a : Nat} (f : Nat → Int) (h : n ≤ j) : setRow S v n f a j = S a j := by
  have h1 : Nat.blt j n = false := by cases q : Nat.blt j n with | false => rfl | true => rw [Nat.blt_eq] at q; omega
  simp only [setRow, h1, cond_false]
  cases Nat.beq a v <;> rfl
theorem setRow_v (S : gS) {v n j a : Nat} (f : Nat → Int) (h : a ≠ v) : setRow S v n f a j = S a j := by
  have h1 : Nat.beq a v = false := by cases q : Nat.beq a v with | false => rfl | true => exact absurd (Nat.eq_of_beq_eq_true q) h
  simp only [setRow, h1, cond_false]
theorem setRow_0 (S : gS) (v : Nat) (f : Nat → Int) : setRow S v 0 f = S := by
  funext a j; exact setRow_j S f (Nat.zero_le j)
theorem setRow_succ (S : gS) (v k : Nat) (f : Nat → Int) : upS (setRow S v k f) v k (f k) = setRow S v (k + 1) f := by
  funext a j
  by_cases ha : a = v
  · subst ha
    by_cases hj : j = k
    · subst hj; rw [upS_eq, setRow_in S f (Nat.lt_succ_self j)]
    · rw [upS_j _ _ hj]
      by_cases hk : j < k
      · rw [setRow_in S f hk, setRow_in S f (by omega)]
      · rw [setRow_j S f (by omega), setRow_j S f (by omega)]
  · rw [upS_v _ _ ha, setRow_v S f ha, setRow_v S f ha]
/-- all is as before but the variables named -/
def Eqx (vs : List Nat) (S S' : gS) : Prop := ∀ a j, vs.contains a = false → S' a j = S a j
theorem Eqx.rf {vs : List Nat} {S : gS} : Eqx vs S S := fun _ _ _ => rfl
theorem Eqx.tr {vs : List Nat} {S S1 S2 : gS} (h : Eqx vs S S1) (h2 : Eqx vs S1 S2) : Eqx vs S S2 := fun a j q => (h2 a j q).trans (h a j q)
theorem Eqx.mono {vs ws : List Nat} {S S1 : gS} (h : Eqx vs S S1) (hm : vs.all (fun v => ws.contains v) = true) : Eqx ws S S1 := fun a j q => h a j (by
  cases e : vs.contains a with
  | false => rfl
  | true =>
    have h1 := List.all_eq_true.mp hm a (by simpa using e)
    rw [h1] at q; cases q)
theorem Eqx.up {vs : List Nat} {S S1 : gS} {v j : Nat} {z : Int} (h : Eqx vs S S1) (hv : vs.contains v = true) : Eqx vs S (upS S1 v j z) := fun a i q => by
  rw [upS_v S1 z (fun e => by rw [e, hv] at q; cases q)]; exact h a i q
theorem Eqx.row {vs : List Nat} {S S1 : gS} {v n : Nat} {f : Nat → Int} (h : Eqx vs S S1) (hv : vs.contains v = true) : Eqx vs S (setRow S1 v n f) := fun a i q => by
  rw [setRow_v S1 f (fun e => by rw [e, hv] at q; cases q)]; exact h a i q
/-- how many of the first n places of a row hold z -/
def cntZ (f : Nat → Int) (z : Int) : Nat → Nat
  | 0 => 0
  | n + 1 => cntZ f z n + (if f n = z then 1 else 0)
theorem cntZ_le (f : Nat → Int) (z : Int) : ∀ n, cntZ f z n ≤ n
  | 0 => Nat.le_refl _
  | n + 1 => by
    have := cntZ_le f z n
    rw [cntZ]; split <;> omega
theorem cntZ_cong {f g : Nat → Int} {z : Int} : ∀ {n : Nat}, (∀ k, k < n → f k = g k) → cntZ f z n = cntZ g z n
  | 0, _ => rfl
  | n + 1, h => by rw [cntZ, cntZ, cntZ_cong (fun k hk => h k (by omega)), h n (by omega)]
theorem cntZ_mono (f : Nat → Int) (z : Int) {m : Nat} : ∀ {n : Nat}, m ≤ n → cntZ f z m ≤ cntZ f z n
  | 0, h => by have : m = 0 := by omega
               subst this; exact Nat.le_refl _
  | n + 1, h => by
    rcases Nat.lt_or_ge n m with q | q
    · have : m = n + 1 := by omega
      subst this; exact Nat.le_refl _
    · have h1 := cntZ_mono f z q
      have h2 : cntZ f z (n + 1) = cntZ f z n + (if f n = z then 1 else 0) := rfl
      omega
/-! geometry -/
def sgz (z : Int) : Int := if 0 < z then 1 else if z < 0 then -1 else 0
def gdx (w a b : Nat) : Int := ((b % w : Nat) : Int) - ((a % w : Nat) : Int)
def gdy (w a b : Nat) : Int := ((b / w : Nat) : Int) - ((a / w : Nat) : Int)
def gdl (w a b : Nat) : Int := sgz (gdx w a b) + (w : Int) * sgz (gdy w a b)
def gm (w a b : Nat) : Nat := max (gdx w a b).natAbs (gdy w a b).natAbs
def galg (w a b : Nat) : Bool := decide (a ≠ b) && (decide (gdx w a b = 0) || decide (gdy w a b = 0) || decide (gdx w a b * sgz (gdx w a b) = gdy w a b * sgz (gdy w a b)))
def gst (w a b i : Nat) : Nat := ((a : Int) + (i : Int) * gdl w a b).toNat
def seenB (w : Nat) (F : Nat → Bool) (a b : Nat) : Bool := galg w a b && (List.range (gm w a b)).all fun i => F (gst w a b (i + 1))
def gOK (w h n : Nat) : Prop := 1 ≤ w ∧ w ≤ 5 ∧ 1 ≤ h ∧ h ≤ 5 ∧ w * h = n ∧ n ≤ 15
def gchk1 (w h : Nat) : Bool := (List.range (w * h)).all fun a => (List.range (w * h)).all fun b => !galg w a b || (decide (1 ≤ gm w a b) && (List.range (gm w a b + 1)).all fun i => decide (0 ≤ (a : Int) + (i : Int) * gdl w a b) && decide ((a : Int) + (i : Int) * gdl w a b < ((w * h : Nat) : Int)) && (decide ((a : Int) + (i : Int) * gdl w a b = (b : Int)) == decide (i = gm w a b)))
def gall (P : Nat → Nat → Bool) : Bool := (List.range 5).all fun w => (List.range 5).all fun h => decide (15 < (w + 1) * (h + 1)) || P (w + 1) (h + 1)
theorem gall_use {P : Nat → Nat → Bool} (hP : gall P = true) {w h n : Nat} (hg : gOK w h n) : P w h = true := by
  obtain ⟨h1, h2, h3, h4, h5, h6⟩ := hg
  have q := List.all_eq_true.mp (List.all_eq_true.mp hP (w - 1) (List.mem_range.mpr (by omega))) (h - 1) (List.mem_range.mpr (by omega))
  rw [show w - 1 + 1 = w by omega, show h - 1 + 1 = h by omega, h5] at q
  simp only [Bool.or_eq_true, decide_eq_true_eq] at q
  rcases q with q | q
  · omega
  · exact q
theorem gchk1_ok : gall gchk1 = true := by decide +kernel
theorem gst_ok {w h n a b : Nat} (hg : gOK w h n) (ha : a < n) (hb : b < n) (hal : galg w a b = true) : 1 ≤ gm w a b ∧ ∀ i, i ≤ gm w a b → ((gst w a b i : Nat) : Int) = (a : Int) + (i : Int) * gdl w a b ∧ gst w a b i < n ∧ (gst w a b i = b ↔ i = gm w a b) := by
  have q := gall_use gchk1_ok hg
  unfold gchk1 at q
  rw [hg.2.2.2.2.1] at q
  have q2 := List.all_eq_true.mp (List.all_eq_true.mp q a (List.mem_range.mpr ha)) b (List.mem_range.mpr hb)
  rw [hal] at q2
  simp only [Bool.not_true, Bool.false_or, Bool.and_eq_true, decide_eq_true_eq, List.all_eq_true, List.mem_range, beq_iff_eq] at q2
  refine ⟨q2.1, fun i hi => ?_⟩
  obtain ⟨⟨z1, z2⟩, z3⟩ := q2.2 i (by omega)
  have e : ((gst w a b i : Nat) : Int) = (a : Int) + (i : Int) * gdl w a b := Int.toNat_of_nonneg z1
  refine ⟨e, by omega, ?_⟩
  rw [decide_eq_decide] at z3
  constructor
  · intro h1; exact z3.mp (by rw [← e, h1])
  · intro h1
    have := z3.mpr h1
    omega
theorem gst_0 (w a b : Nat) : gst w a b 0 = a := by simp [gst]
theorem gst_step {w h n a b i : Nat} (hg : gOK w h n) (ha : a < n) (hb : b < n) (hal : galg w a b = true) (hi : i < gm w a b) : ((gst w a b i : Nat) : Int) + (sgz (gdx w a b) + (w : Int) * sgz (gdy w a b)) = ((gst w a b (i + 1) : Nat) : Int) := by
  have h1 := ((gst_ok hg ha hb hal).2 i (by omega)).1
  have h2 := ((gst_ok hg ha hb hal).2 (i + 1) (by omega)).1
  rw [h1, h2]
  show (a : Int) + (i : Int) * gdl w a b + gdl w a b = (a : Int) + ((i + 1 : Nat) : Int) * gdl w a b
  have e : ((i + 1 : Nat) : Int) * gdl w a b = (i : Int) * gdl w a b + gdl w a b := by
    rw [Int.natCast_succ, Int.add_mul, Int.one_mul]
  omega
theorem gdx_b {w a b : Nat} (h : 1 ≤ w) (h5 : w ≤ 5) : -4 ≤ gdx w a b ∧ gdx w a b ≤ 4 := by
  have h1 := Nat.mod_lt a (show 0 < w by omega)
  have h2 := Nat.mod_lt b (show 0 < w by omega)
  unfold gdx; omega
theorem gdy_b {w h n a b : Nat} (hg : gOK w h n) (ha : a < n) (hb : b < n) : -4 ≤ gdy w a b ∧ gdy w a b ≤ 4 := by
  obtain ⟨h1, h2, h3, h4, h5, h6⟩ := hg
  have g1 : a / w < h := Nat.div_lt_of_lt_mul (by omega)
  have g2 : b / w < h := Nat.div_lt_of_lt_mul (by omega)
  unfold gdy
  generalize a / w = y1 at *
  generalize b / w = y2 at *
  omega
theorem sgz_b (z : Int) : -1 ≤ sgz z ∧ sgz z ≤ 1 := by unfold sgz; split <;> (try split) <;> omega
theorem sgz_m {z : Int} (h : -4 ≤ z ∧ z ≤ 4) : 0 ≤ z * sgz z ∧ z * sgz z ≤ 4 := by
  unfold sgz
  split
  · omega
  · split <;> omega
theorem galg_iff {w a b : Nat} : galg w a b = true ↔ a ≠ b ∧ (gdx w a b = 0 ∨ gdy w a b = 0 ∨ gdx w a b * sgz (gdx w a b) = gdy w a b * sgz (gdy w a b)) := by
  simp only [galg, Bool.and_eq_true, Bool.or_eq_true, decide_eq_true_eq, or_assoc]
theorem seenB_self (w : Nat) (F : Nat → Bool) (a : Nat) : seenB w F a a = false := by
  have : galg w a a = false := by simp [galg]
  simp [seenB, this]
theorem seenB_cong {w h n a b : Nat} {F G : Nat → Bool} (hg : gOK w h n) (ha : a < n) (hb : b < n) (hF : ∀ f, f < n → F f = G f) : seenB w F a b = seenB w G a b := by
  unfold seenB
  cases hal : galg w a b with
  | false => rfl
  | true =>
    simp only [Bool.true_and]
    rw [Bool.eq_iff_iff, List.all_eq_true, List.all_eq_true]
    constructor
    · intro q i hi
      rw [← hF _ ((gst_ok hg ha hb hal).2 (i + 1) (by have := List.mem_range.mp hi; omega)).2.1]; exact q i hi
    · intro q i hi
      rw [hF _ ((gst_ok hg ha hb hal).2 (i + 1) (by have := List.mem_range.mp hi; omega)).2.1]; exact q i hi
/-! moves -/
def brB (B : Nat → Int) (a t : Nat) (s : Int) : Nat → Int := fun f => if f = t then s else if f = a then 0 else B f
def frB (B : Nat → Int) : Nat → Bool := fun f => decide (B f = 0)
def burns (w n : Nat) (B : Nat → Int) (s : Int) (a t : Nat) : List Nat := (List.range n).filter (seenB w (frB (brB B a t s)) t)
def mvT (w n : Nat) (B : Nat → Int) (s : Int) (a t : Nat) : List (Nat × Nat × Nat) := if seenB w (frB B) a t = true then (burns w n B s a t).map (fun u => (a, t, u)) else []
def mvA (w n : Nat) (B : Nat → Int) (s : Int) (a : Nat) : List (Nat × Nat × Nat) := if B a = s then (List.range n).flatMap (mvT w n B s a) else []
def mvs (w n : Nat) (B : Nat → Int) (s : Int) : List (Nat × Nat × Nat) := (List.range n).flatMap (mvA w n B s)
theorem flt_len (p : Nat → Bool) {x : Nat} (hx : p x = false) : ∀ n, ((List.range n).filter p).length ≤ if x < n then n - 1 else n
  | 0 => by simp
  | n + 1 => by
    have ih := flt_len p hx n
    rw [List.range_succ, List.filter_append, List.length_append]
    by_cases hn : x = n
    · subst hn
      have : ([x].filter p).length = 0 := by simp [hx]
      rw [this, if_pos (by omega)]
      rw [if_neg (by omega)] at ih
      omega
    · have : ([n].filter p).length ≤ 1 := List.length_filter_le _ _
      by_cases h1 : x < n
      · rw [if_pos h1] at ih; rw [if_pos (by omega)]; omega
      · rw [if_neg h1] at ih; rw [if_neg (by omega)]; omega
theorem fm_len {α : Type} (f : Nat → List α) (c x : Nat) (hf : ∀ t, (f t).length ≤ c) (hx : f x = []) : ∀ n, ((List.range n).flatMap f).length ≤ (if x < n then n - 1 else n) * c
  | 0 => by simp
  | n + 1 => by
    have ih := fm_len f c x hf hx n
    rw [List.range_succ, List.flatMap_append, List.length_append]
    by_cases hn : x = n
    · subst hn
      have : (([x] : List Nat).flatMap f).length = 0 := by simp [hx]
      rw [this, if_pos (by omega)]
      rw [if_neg (by omega)] at ih
      simpa using ih
    · have h2 : (([n] : List Nat).flatMap f).length ≤ c := by simpa using hf n
      by_cases h1 : x < n
      · rw [if_pos h1] at ih; rw [if_pos (by omega), show n + 1 - 1 = (n - 1) + 1 by omega, Nat.add_mul, Nat.one_mul]; omega
      · rw [if_neg h1] at ih; rw [if_neg (by omega), Nat.add_mul, Nat.one_mul]; omega
theorem burns_len {w n : Nat} {B : Nat → Int} {s : Int} {a t : Nat} {m : Nat} (hn : n ≤ 15) (ht : t < n) (hm : m ≤ n) : ((List.range m).filter (seenB w (frB (brB B a t s)) t)).length ≤ 14 := by
  have := flt_len (seenB w (frB (brB B a t s)) t) (x := t) (seenB_self _ _ _) m
  split at this <;> omega
theorem mvT_len {w n : Nat} {B : Nat → Int} {s : Int} {a t : Nat} (hn : n ≤ 15) (ht : t < n) : (mvT w n B s a t).length ≤ 14 := by
  unfold mvT
  split
  · rw [List.length_map]; exact burns_len hn ht (Nat.le_refl n)
  · simp
theorem mvT_self {w n : Nat} {B : Nat → Int} {s : Int} {a : Nat} : mvT w n B s a a = [] := by
  unfold mvT; rw [seenB_self]; rfl
theorem mvAp_len {w n : Nat} {B : Nat → Int} {s : Int} {a m : Nat} (hn : n ≤ 15) (ha : a < n) (hm : m ≤ n) : ((List.range m).flatMap (mvT w n B s a)).length ≤ 14 * 14 := by
  have h1 : (List.range m).flatMap (mvT w n B s a) = (List.range m).flatMap (fun t => if t < n then mvT w n B s a t else []) := by
    unfold List.flatMap
    congr 1
    refine List.map_congr_left fun t ht => ?_
    rw [if_pos (by have := List.mem_range.mp ht; omega)]
  rw [h1]
  have := fm_len (fun t => if t < n then mvT w n B s a t else []) 14 a (fun t => by
    by_cases q : t < n
    · simp only [q, if_true]; exact mvT_len hn q
    · simp [q]) (by simp [ha, mvT_self]) m
  split at this <;> omega
theorem mvsp_len {w n : Nat} {B : Nat → Int} {s : Int} (hn : n ≤ 15) : ∀ m, m ≤ n → ((List.range m).flatMap (mvA w n B s)).length ≤ 196 * cntZ B s m
  | 0, _ => by simp [cntZ]
  | m + 1, hm => by
    have ih := mvsp_len (w := w) (n := n) (B := B) (s := s) hn m (by omega)
    rw [List.range_succ, List.flatMap_append, List.length_append, cntZ]
    have h2 : (([m] : List Nat).flatMap (mvA w n B s)).length ≤ 196 * (if B m = s then 1 else 0) := by
      rw [show (([m] : List Nat).flatMap (mvA w n B s)) = mvA w n B s m by simp]
      unfold mvA
      split
      · exact mvAp_len hn (by omega) (Nat.le_refl n)
      · simp
    omega
/-- a row holds a list, each entry as e writes it -/
def HL {α : Type} (e : α → Int) (f : Nat → Int) (l : List α) : Prop := ∀ (k : Nat) (q : α), l[k]? = some q → f k = e q
theorem HL_nil {α : Type} (e : α → Int) (f : Nat → Int) : HL e f [] := fun k q h => by simp at h
theorem HL_add {α : Type} {e : α → Int} {f g : Nat → Int} {l : List α} {x : α} (h : HL e f l) (hg : ∀ k, k < l.length → g k = f k) (hx : g l.length = e x) : HL e g (l ++ [x]) := by
  intro k q hk
  by_cases h1 : k < l.length
  · rw [List.getElem?_append_left h1] at hk
    rw [hg k h1]; exact h k q hk
  · have h2 : k < (l ++ [x]).length := (List.getElem?_eq_some_iff.mp hk).1
    rw [List.length_append] at h2
    have h3 : k = l.length := by have : [x].length = 1 := rfl
                                 omega
    subst h3
    rw [List.getElem?_append_right (Nat.le_refl _)] at hk
    simp at hk
    rw [← hk]; exact hx
theorem HL_cong {α : Type} {e : α → Int} {f g : Nat → Int} {l : List α} (h : HL e f l) (hg : ∀ k, k < l.length → g k = f k) : HL e g l := fun k q hk => by
  rw [hg k (List.getElem?_eq_some_iff.mp hk).1]; exact h k q hk
def menc (q : Nat × Nat × Nat) : Int := 225 * (q.1 : Int) + 15 * (q.2.1 : Int) + (q.2.2 : Int)
theorem mvs_in {w n : Nat} {B : Nat → Int} {s : Int} {q : Nat × Nat × Nat} (h : q ∈ mvs w n B s) : q.1 < n ∧ q.2.1 < n ∧ q.2.2 < n ∧ B q.1 = s ∧ seenB w (frB B) q.1 q.2.1 = true ∧ seenB w (frB (brB B q.1 q.2.1 s)) q.2.1 q.2.2 = true := by
  unfold mvs at h
  obtain ⟨a, ha, h1⟩ := List.mem_flatMap.mp h
  unfold mvA at h1
  split at h1
  · rename_i hB
    obtain ⟨t, ht, h2⟩ := List.mem_flatMap.mp h1
    unfold mvT at h2
    split at h2
    · rename_i hs
      obtain ⟨u, hu, rfl⟩ := List.mem_map.mp h2
      obtain ⟨hu1, hu2⟩ := List.mem_filter.mp hu
      exact ⟨List.mem_range.mp ha, List.mem_range.mp ht, List.mem_range.mp hu1, hB, hs, hu2⟩
    · simp at h2
  · simp at h1
theorem mem_mvs {w n : Nat} {B : Nat → Int} {s : Int} {q : Nat × Nat × Nat} : q ∈ mvs w n B s ↔ q.1 < n ∧ q.2.1 < n ∧ q.2.2 < n ∧ B q.1 = s ∧ seenB w (frB B) q.1 q.2.1 = true ∧ seenB w (frB (brB B q.1 q.2.1 s)) q.2.1 q.2.2 = true := by
  refine ⟨mvs_in, fun ⟨h1, h2, h3, h4, h5, h6⟩ => ?_⟩
  obtain ⟨a, t, u⟩ := q
  refine List.mem_flatMap.mpr ⟨a, List.mem_range.mpr h1, ?_⟩
  unfold mvA
  rw [if_pos h4]
  refine List.mem_flatMap.mpr ⟨t, List.mem_range.mpr h2, ?_⟩
  unfold mvT
  rw [if_pos h5]
  exact List.mem_map.mpr ⟨u, List.mem_filter.mpr ⟨List.mem_range.mpr h3, h6⟩, rfl⟩
theorem mvs_cong {w h n : Nat} {B B2 : Nat → Int} {s : Int} (hg : gOK w h n) (hB : ∀ f, f < n → B f = B2 f) : mvs w n B s = mvs w n B2 s := by
  unfold mvs List.flatMap
  congr 1
  refine List.map_congr_left fun a ha => ?_
  have ha := List.mem_range.mp ha
  unfold mvA
  rw [hB a ha]
  by_cases q : B2 a = s
  · rw [if_pos q, if_pos q]
    unfold List.flatMap
    congr 1
    refine List.map_congr_left fun t ht => ?_
    have ht := List.mem_range.mp ht
    unfold mvT
    rw [seenB_cong hg ha ht (F := frB B) (G := frB B2) (fun f hf => by simp [frB, hB f hf])]
    split
    · congr 1
      unfold burns
      refine List.filter_congr fun u hu => ?_
      exact seenB_cong hg ht (List.mem_range.mp hu) (fun f hf => congrArg (fun z : Int => decide (z = 0)) (show brB B a t s f = brB B2 a t s f by unfold brB; rw [hB f hf]))
    · rfl
  · rw [if_neg q, if_neg q]
theorem mvs_bound {w n : Nat} {B : Nat → Int} {s : Int} (hn : n ≤ 15) (hc : cntZ B s n ≤ 3) : (mvs w n B s).length ≤ 588 := by
  have := mvsp_len (w := w) (n := n) (B := B) (s := s) hn n (Nat.le_refl n)
  unfold mvs
  omega
end
section
/-! the reference: board, sight, moves -/
/-- the reference's size -/
def mG (S : gS) (w h n : Nat) : Prop := S 50 0 = (w : Int) ∧ S 51 0 = (h : Int) ∧ gOK w h n
theorem mG.n15 {S : gS} {w h n : Nat} (hg : mG S w h n) : n ≤ 15 := hg.2.2.2.2.2.2.2
theorem mG.x {vs : List Nat} {S S1 : gS} {w h n : Nat} (hg : mG S w h n) (he : Eqx vs S S1) (h1 : vs.contains 50 = false) (h2 : vs.contains 51 = false) : mG S1 w h n := ⟨(he 50 0 h1).trans hg.1, (he 51 0 h2).trans hg.2.1, hg.2.2⟩
/-- a board's numbers -/
def mBd (f : Nat → Int) (n : Nat) : Prop := ∀ k, k < n → 0 ≤ f k ∧ f k ≤ 3
theorem t_X9_in (E : gE) (S : gS) (v a b : Int) (hv : R32 v) (ha : R32 a) (hb : R32 b) : Ct E LAY mX9_in [iV v, iV a, iV b] S (fun r S' => S = S' ∧ ∃ z, r = some (iV z) ∧ isB z (a ≤ v ∧ v ≤ b)) := by
  refine Ct.intro LAY_ok (by decide +kernel) (Nat.le_of_ble_eq_true rfl) rfl ?_
  intro Z hZ
  refine g_iload_n hZ dX9_in_0 rfl ?_
  refine g_iload_n hZ dX9_in_1 rfl ?_
  refine g_icmp_lt hZ 14 dX9_in_2 rfl (by omega) (fun c1 => ?_) (fun c1 => ?_)
  · refine g_iconst hZ dX9_in_14 ?_
    refine g_zret hZ dX9_in_15 rfl (Or.inl rfl) ⟨rfl, 0, rfl, Or.inr ⟨rfl, by omega⟩⟩
  · refine g_iload_n hZ dX9_in_5 rfl ?_
    refine g_iload_n hZ dX9_in_6 rfl ?_
    refine g_icmp_gt hZ 14 dX9_in_7 rfl (by omega) (fun c2 => ?_) (fun c2 => ?_)
    · refine g_iconst hZ dX9_in_14 ?_
      refine g_zret hZ dX9_in_15 rfl (Or.inl rfl) ⟨rfl, 0, rfl, Or.inr ⟨rfl, by omega⟩⟩
    · refine g_iconst hZ dX9_in_10 ?_
      refine g_goto hZ 15 dX9_in_11 rfl ?_
      refine g_zret hZ dX9_in_15 rfl (Or.inr rfl) ⟨rfl, 1, rfl, Or.inl ⟨rfl, by omega⟩⟩
theorem t_X9_size (E : gE) (S : gS) (w h n : Nat) (hg : mG S w h n) : Ct E LAY mX9_size [.ref (gad E 27)] S (fun r S' => S = S' ∧ r = some (iV (n : Int))) := by
  obtain ⟨h1, h2, h3, h4, h5, h6, h7, h8⟩ := hg
  refine Ct.intro LAY_ok (by decide +kernel) (Nat.le_of_ble_eq_true rfl) rfl ?_
  intro Z hZ
  refine g_aload_n hZ dX9_size_0 rfl ?_
  refine g_geti hZ fX9_7 rfl rfl dX9_size_1 h1 ?_
  refine g_aload_n hZ dX9_size_4 rfl ?_
  refine g_geti hZ fX9_13 rfl rfl dX9_size_5 h2 ?_
  refine g_imul hZ dX9_size_8 ?_
  refine g_iret hZ dX9_size_9 rfl ⟨rfl, by rw [← h7]; simp⟩
theorem t_X9_isField (E : gE) (S : gS) (w h n : Nat) (hg : mG S w h n) (f : Int) (hf : R32 f) : Ct E LAY mX9_isField [.ref (gad E 27), iV f] S (fun r S' => S = S' ∧ ∃ z, r = some (iV z) ∧ isB z (0 ≤ f ∧ f < n)) := by
  have hn := hg.n15
  refine Ct.intro LAY_ok (by decide +kernel) (Nat.le_of_ble_eq_true rfl) rfl ?_
  intro Z hZ
  refine g_iload_n hZ dX9_isField_0 rfl ?_
  refine g_iconst hZ dX9_isField_1 ?_
  refine g_aload_n hZ dX9_isField_2 rfl ?_
  refine g_callV hZ (t_X9_size E S w h n hg) kX9_60 ⟨by decide, by decide⟩ rfl rfl rfl rfl (Nat.le_of_ble_eq_true rfl) dX9_isField_3 ?_
  rintro _ _ ⟨rfl, rfl⟩
  refine g_iconst hZ dX9_isField_6 ?_
  refine g_isub hZ dX9_isField_7 ?_
  refine g_callS hZ (t_X9_in E S f 0 ((n : Int) - 1) hf (by omega) (by omega)) kX9_64 ⟨by decide, by decide⟩ rfl rfl (Nat.le_of_ble_eq_true rfl) dX9_isField_8 ?_
  rintro _ _ ⟨rfl, z, rfl, hz⟩
  refine g_zret hZ dX9_isField_11 rfl (isB_01 hz) ⟨rfl, z, rfl, isB_iff hz (by omega)⟩
theorem t_X9_isSide (E : gE) (S : gS) (v : Int) (hv : R32 v) : Ct E LAY mX9_isSide [iV v] S (fun r S' => S = S' ∧ ∃ z, r = some (iV z) ∧ isB z (v = 1 ∨ v = 2)) := by
  refine Ct.intro LAY_ok (by decide +kernel) (Nat.le_of_ble_eq_true rfl) rfl ?_
  intro Z hZ
  refine g_iload_n hZ dX9_isSide_0 rfl ?_
  refine g_iconst hZ dX9_isSide_1 ?_
  refine g_iconst hZ dX9_isSide_2 ?_
  refine g_callS hZ (t_X9_in E S v 1 2 hv (by omega) (by omega)) kX9_64 ⟨by decide, by decide⟩ rfl rfl (Nat.le_of_ble_eq_true rfl) dX9_isSide_3 ?_
  rintro _ _ ⟨rfl, z, rfl, hz⟩
  refine g_zret hZ dX9_isSide_6 rfl (isB_01 hz) ⟨rfl, z, rfl, isB_iff hz (by omega)⟩
theorem t_X9_counted (E : gE) (S : gS) (w h n : Nat) (hg : mG S w h n) (v : Int) (hv : R32 v) (hB : mBd (S 61) n) : Ct E LAY mX9_counted [.ref (gad E 27), iV v] S (fun r S' => S = S' ∧ r = some (iV (cntZ (S 61) v n))) := by
  have hn := hg.n15
  refine Ct.intro LAY_ok (by decide +kernel) (Nat.le_of_ble_eq_true rfl) rfl ?_
  intro Z hZ
  have loop : ∀ (m k : Nat), k + m = n → Z S [(0, .ref (gad E 27)), (1, iV v), (2, iV (cntZ (S 61) v k : Int)), (3, iV (k : Int))] 4 [] := by
    intro m
    induction m with
    | zero =>
      intro k hk
      refine g_iload_n hZ dX9_counted_4 rfl ?_
      refine g_aload_n hZ dX9_counted_5 rfl ?_
      refine g_callV hZ (t_X9_size E S w h n hg) kX9_60 ⟨by decide, by decide⟩ rfl rfl rfl rfl (Nat.le_of_ble_eq_true rfl) dX9_counted_6 ?_
      rintro _ _ ⟨rfl, rfl⟩
      refine g_icmp_ge hZ 36 dX9_counted_9 rfl (by omega) (fun _ => ?_) (fun cX => absurd (by omega) cX)
      refine g_iload_n hZ dX9_counted_36 rfl ?_
      refine g_iret hZ dX9_counted_37 rfl ⟨rfl, by rw [show k = n by omega]⟩
    | succ m ih =>
      intro k hk
      have := cntZ_le (S 61) v k
      refine g_iload_n hZ dX9_counted_4 rfl ?_
      refine g_aload_n hZ dX9_counted_5 rfl ?_
      refine g_callV hZ (t_X9_size E S w h n hg) kX9_60 ⟨by decide, by decide⟩ rfl rfl rfl rfl (Nat.le_of_ble_eq_true rfl) dX9_counted_6 ?_
      rintro _ _ ⟨rfl, rfl⟩
      refine g_icmp_ge hZ 36 dX9_counted_9 rfl (by omega) (fun cX => absurd cX (by omega)) (fun _ => ?_)
      have hBk := hB k (by omega)
      refine g_iload_n hZ dX9_counted_12 rfl ?_
      refine g_aload_n hZ dX9_counted_13 rfl ?_
      refine g_getr hZ fX9_16 rfl rfl dX9_counted_14 ?_
      refine g_iload_n hZ dX9_counted_17 rfl ?_
      refine g_iald hZ (k) rfl dX9_counted_18 (rfl) (by omega) (by decide) (rfl) ?_
      refine g_iload_n hZ dX9_counted_19 rfl ?_
      have e1 : (cntZ (S 61) v (k + 1) : Int) = cntZ (S 61) v k + (if S 61 k = v then 1 else 0) := by rw [cntZ]; split <;> simp
      refine g_icmp_ne hZ 27 dX9_counted_20 rfl (by omega) (fun c => ?_) (fun c => ?_)
      · rw [if_neg c] at e1
        refine g_iconst hZ dX9_counted_27 ?_
        refine g_iadd hZ dX9_counted_28 ?_
        refine g_istore_n hZ dX9_counted_29 (by decide) ?_
        refine g_iinc hZ dX9_counted_30 rfl (by decide) ?_
        refine g_goto hZ 4 dX9_counted_33 rfl ?_
        rw [← e1]
        exact ih (k + 1) (by omega)
      · rw [if_pos c] at e1
        refine g_iconst hZ dX9_counted_23 ?_
        refine g_goto hZ 28 dX9_counted_24 rfl ?_
        refine g_iadd hZ dX9_counted_28 ?_
        refine g_istore_n hZ dX9_counted_29 (by decide) ?_
        refine g_iinc hZ dX9_counted_30 rfl (by decide) ?_
        refine g_goto hZ 4 dX9_counted_33 rfl ?_
        rw [← e1]
        exact ih (k + 1) (by omega)
  refine g_iconst hZ dX9_counted_0 ?_
  refine g_istore_n hZ dX9_counted_1 (by decide) ?_
  refine g_iconst hZ dX9_counted_2 ?_
  refine g_istore_n hZ dX9_counted_3 (by decide) ?_
  exact loop n 0 (by omega)
theorem t_X9_inWay (E : gE) (S : gS) (w h n : Nat) (hg : mG S w h n) (hB : mBd (S 61) n) (f v : Int) (hf : R32 f) (hv : R32 v) : Ct E LAY mX9_inWay [.ref (gad E 27), iV f, iV v] S (fun r S' => S = S' ∧ ∃ z, r = some (iV z) ∧ ((¬ (0 ≤ f ∧ f < n ∧ 0 ≤ v ∧ v ≤ 3) ∧ z = -1001) ∨ ((0 ≤ f ∧ f < n ∧ 0 ≤ v ∧ v ≤ 3) ∧ ((v = 1 ∨ v = 2) ∧ S 61 f.toNat ≠ v ∧ cntZ (S 61) v n = 3) ∧ z = -1003) ∨ ((0 ≤ f ∧ f < n ∧ 0 ≤ v ∧ v ≤ 3) ∧ ¬ ((v = 1 ∨ v = 2) ∧ S 61 f.toNat ≠ v ∧ cntZ (S 61) v n = 3) ∧ z = 0))) := by
  have hn := hg.n15
  refine Ct.intro LAY_ok (by decide +kernel) (Nat.le_of_ble_eq_true rfl) rfl ?_
  intro Z hZ
  refine g_aload_n hZ dX9_inWay_0 rfl ?_
  refine g_iload_n hZ dX9_inWay_1 rfl ?_
  refine g_callV hZ (t_X9_isField E S w h n hg f hf) kX9_77 ⟨by decide, by decide⟩ rfl rfl rfl rfl (Nat.le_of_ble_eq_true rfl) dX9_inWay_2 ?_
  rintro _ _ ⟨rfl, z1, rfl, hz1⟩
  rcases hz1 with ⟨rfl, hz1⟩ | ⟨rfl, hz1⟩
  · refine g_if_eq hZ 17 dX9_inWay_5 rfl (by omega) (fun cX => absurd cX (by omega)) (fun _ => ?_)
    refine g_iload_n hZ dX9_inWay_8 rfl ?_
    refine g_iconst hZ dX9_inWay_9 ?_
    refine g_iconst hZ dX9_inWay_10 ?_
    refine g_callS hZ (t_X9_in E S v 0 3 hv (by omega) (by omega)) kX9_64 ⟨by decide, by decide⟩ rfl rfl (Nat.le_of_ble_eq_true rfl) dX9_inWay_11 ?_
    rintro _ _ ⟨rfl, z2, rfl, hz2⟩
    rcases hz2 with ⟨rfl, hz2⟩ | ⟨rfl, hz2⟩
    · refine g_if_ne hZ 21 dX9_inWay_14 rfl (by omega) (fun _ => ?_) (fun cX => absurd cX (by omega))
      refine g_iload_n hZ dX9_inWay_21 rfl ?_
      refine g_callS hZ (t_X9_isSide E S v hv) kX9_81 ⟨by decide, by decide⟩ rfl rfl (Nat.le_of_ble_eq_true rfl) dX9_inWay_22 ?_
      rintro _ _ ⟨rfl, z3, rfl, hz3⟩
      rcases hz3 with ⟨rfl, hz3⟩ | ⟨rfl, hz3⟩
      · refine g_if_eq hZ 53 dX9_inWay_25 rfl (by omega) (fun cX => absurd cX (by omega)) (fun _ => ?_)
        have hBf := hB f.toNat (by omega)
        refine g_aload_n hZ dX9_inWay_28 rfl ?_
        refine g_getr hZ fX9_16 rfl rfl dX9_inWay_29 ?_
        refine g_iload_n hZ dX9_inWay_32 rfl ?_
        refine g_iald hZ (f.toNat) rfl dX9_inWay_33 ((Int.toNat_of_nonneg hz1.1).symm) (by omega) (by decide) (rfl) ?_
        refine g_iload_n hZ dX9_inWay_34 rfl ?_
        refine g_icmp_eq hZ 53 dX9_inWay_35 rfl (by omega) (fun c => ?_) (fun c => ?_)
        · refine g_iconst hZ dX9_inWay_53 ?_
          refine g_iret hZ dX9_inWay_54 rfl ⟨rfl, 0, rfl, Or.inr (Or.inr ⟨by omega, fun q => q.2.1 c, rfl⟩)⟩
        · refine g_aload_n hZ dX9_inWay_38 rfl ?_
          refine g_iload_n hZ dX9_inWay_39 rfl ?_
          have := cntZ_le (S 61) v n
          refine g_callV hZ (t_X9_counted E S w h n hg v hv hB) kX9_84 ⟨by decide, by decide⟩ rfl rfl rfl rfl (Nat.le_of_ble_eq_true rfl) dX9_inWay_40 ?_
          rintro _ _ ⟨rfl, rfl⟩
          refine g_iconst hZ dX9_inWay_43 ?_
          refine g_icmp_ne hZ 53 dX9_inWay_44 rfl (by omega) (fun c2 => ?_) (fun c2 => ?_)
          · refine g_iconst hZ dX9_inWay_53 ?_
            refine g_iret hZ dX9_inWay_54 rfl ⟨rfl, 0, rfl, Or.inr (Or.inr ⟨by omega, fun q => c2 (by omega), rfl⟩)⟩
          · refine g_sipush hZ (z := (-1003)) dX9_inWay_47 rfl ?_
            refine g_goto hZ 54 dX9_inWay_50 rfl ?_
            refine g_iret hZ dX9_inWay_54 rfl ⟨rfl, -1003, rfl, Or.inr (Or.inl ⟨by omega, ⟨hz3, c, by omega⟩, rfl⟩)⟩
      · refine g_if_eq hZ 53 dX9_inWay_25 rfl (by omega) (fun _ => ?_) (fun cX => absurd (by omega) cX)
        refine g_iconst hZ dX9_inWay_53 ?_
        refine g_iret hZ dX9_inWay_54 rfl ⟨rfl, 0, rfl, Or.inr (Or.inr ⟨by omega, fun q => hz3 q.1, rfl⟩)⟩
    · refine g_if_ne hZ 21 dX9_inWay_14 rfl (by omega) (fun cX => absurd (by omega) cX) (fun _ => ?_)
      refine g_sipush hZ (z := (-1001)) dX9_inWay_17 rfl ?_
      refine g_iret hZ dX9_inWay_20 rfl ⟨rfl, -1001, rfl, Or.inl ⟨by omega, rfl⟩⟩
  · refine g_if_eq hZ 17 dX9_inWay_5 rfl (by omega) (fun _ => ?_) (fun cX => absurd (by omega) cX)
    refine g_sipush hZ (z := (-1001)) dX9_inWay_17 rfl ?_
    refine g_iret hZ dX9_inWay_20 rfl ⟨rfl, -1001, rfl, Or.inl ⟨by omega, rfl⟩⟩
theorem t_X9_puts (E : gE) (S : gS) (f : Nat) (v : Int) (hf : f < 15) : Ct E LAY mX9_puts [.ref (gad E 27), iV (f : Int), iV v] S (fun r S' => S' = upS S 61 f v ∧ r = some (iV (S 61 f))) := by
  refine Ct.intro LAY_ok (by decide +kernel) (Nat.le_of_ble_eq_true rfl) rfl ?_
  intro Z hZ
  refine g_aload_n hZ dX9_puts_0 rfl ?_
  refine g_getr hZ fX9_16 rfl rfl dX9_puts_1 ?_
  refine g_iload_n hZ dX9_puts_4 rfl ?_
  refine g_iald hZ (f) rfl dX9_puts_5 (rfl) (by omega) (by decide) (rfl) ?_
  refine g_istore_n hZ dX9_puts_6 (by decide) ?_
  refine g_aload_n hZ dX9_puts_7 rfl ?_
  refine g_getr hZ fX9_16 rfl rfl dX9_puts_8 ?_
  refine g_iload_n hZ dX9_puts_11 rfl ?_
  refine g_iload_n hZ dX9_puts_12 rfl ?_
  refine g_iast hZ (f) rfl dX9_puts_13 (rfl) (by omega) (by decide) ?_
  refine g_iload_n hZ dX9_puts_14 rfl ?_
  refine g_iret hZ dX9_puts_15 rfl ⟨rfl, rfl⟩
theorem t_X9_sees (E : gE) (S : gS) (w h n : Nat) (hg : mG S w h n) (a b : Nat) (ha : a < n) (hb : b < n) (hB : mBd (S 62) n) : Ct E LAY mX9_sees [.ref (gad E 27), iV (a : Int), iV (b : Int)] S (fun r S' => S = S' ∧ ∃ z, r = some (iV z) ∧ isB z (seenB w (frB (S 62)) a b = true)) := by
  have hn := hg.n15
  have hw := hg.1
  have hO := hg.2.2
  obtain ⟨ow1, ow5, oh1, oh5, -, -⟩ := id hO
  refine Ct.intro LAY_ok (by decide +kernel) (Nat.le_of_ble_eq_true rfl) rfl ?_
  intro Z hZ
  have bx := gdx_b (w := w) (a := a) (b := b) ow1 ow5
  have byy := gdy_b hO ha hb
  have sx := sgz_b (gdx w a b)
  have sy := sgz_b (gdy w a b)
  have mx := sgz_m bx
  have my := sgz_m byy
  have ax : R32 (gdx w a b * sgz (gdx w a b)) := by omega
  have ay : R32 (gdy w a b * sgz (gdy w a b)) := by omega
  have hend : ∀ (z v8 : Int), isB z (seenB w (frB (S 62)) a b = true) → Z S [(0, .ref (gad E 27)), (1, iV (a : Int)), (2, iV (b : Int)), (3, iV (gdx w a b)), (4, iV (gdy w a b)), (5, iV (sgz (gdx w a b))), (6, iV (sgz (gdy w a b))), (7, iV z), (8, iV v8)] 151 [] := by
    intro z v8 hz
    refine g_iload hZ dX9_sees_151 rfl ?_
    refine g_zret hZ dX9_sees_153 rfl (isB_01 hz) ⟨rfl, z, rfl, hz⟩
  have hno : ∀ (v8 : Int), ¬ seenB w (frB (S 62)) a b = true → Z S [(0, .ref (gad E 27)), (1, iV (a : Int)), (2, iV (b : Int)), (3, iV (gdx w a b)), (4, iV (gdy w a b)), (5, iV (sgz (gdx w a b))), (6, iV (sgz (gdy w a b))), (7, iV 0), (8, iV v8)] 105 [] := by
    intro v8 hz
    refine g_iload hZ dX9_sees_105 rfl ?_
    refine g_if_eq hZ 151 dX9_sees_107 rfl (by omega) (fun _ => ?_) (fun cX => absurd (by omega) cX)
    exact hend 0 v8 (Or.inr ⟨rfl, hz⟩)
  have loop : galg w a b = true → ∀ (m i : Nat), i + m = gm w a b → (∀ j, j < i → frB (S 62) (gst w a b (j + 1)) = true) → Z S [(0, .ref (gad E 27)), (1, iV (a : Int)), (2, iV (b : Int)), (3, iV (gdx w a b)), (4, iV (gdy w a b)), (5, iV (sgz (gdx w a b))), (6, iV (sgz (gdy w a b))), (7, iV 1), (8, iV ((gst w a b i : Nat) : Int))] 105 [] := by
    intro hal m
    have hgs := (gst_ok hO ha hb hal).2
    induction m with
    | zero =>
      intro i hi hF
      obtain ⟨-, q2, q3⟩ := hgs i (by omega)
      refine g_iload hZ dX9_sees_105 rfl ?_
      refine g_if_eq hZ 151 dX9_sees_107 rfl (by omega) (fun cX => absurd cX (by omega)) (fun _ => ?_)
      refine g_iload hZ dX9_sees_110 rfl ?_
      refine g_iload_n hZ dX9_sees_112 rfl ?_
      refine g_icmp_eq hZ 151 dX9_sees_113 rfl (by omega) (fun _ => ?_) (fun cX => absurd (by have := q3.mpr (by omega); omega) cX)
      refine hend 1 _ (Or.inl ⟨rfl, ?_⟩)
      unfold seenB
      rw [hal, Bool.true_and, List.all_eq_true]
      exact fun j hj => hF j (by have := List.mem_range.mp hj; omega)
    | succ m ih =>
      intro i hi hF
      obtain ⟨-, q2, q3⟩ := hgs i (by omega)
      obtain ⟨-, p2, p3⟩ := hgs (i + 1) (by omega)
      have hb2 := hB _ p2
      refine g_iload hZ dX9_sees_105 rfl ?_
      refine g_if_eq hZ 151 dX9_sees_107 rfl (by omega) (fun cX => absurd cX (by omega)) (fun _ => ?_)
      refine g_iload hZ dX9_sees_110 rfl ?_
      refine g_iload_n hZ dX9_sees_112 rfl ?_
      refine g_icmp_eq hZ 151 dX9_sees_113 rfl (by omega) (fun cX => absurd cX (by intro e9; have := q3.mp (by omega); omega)) (fun _ => ?_)
      refine g_iload hZ dX9_sees_116 rfl ?_
      refine g_iload hZ dX9_sees_118 rfl ?_
      refine g_aload_n hZ dX9_sees_120 rfl ?_
      refine g_geti hZ fX9_7 rfl rfl dX9_sees_121 hw ?_
      refine g_iload hZ dX9_sees_124 rfl ?_
      refine g_imul hZ dX9_sees_126 ?_
      refine g_iadd hZ dX9_sees_127 ?_
      have est := gst_step hO ha hb hal (show i < gm w a b by omega)
      refine g_iadd hZ dX9_sees_128 ?_
      rw [est]
      refine g_istore hZ dX9_sees_129 (by decide) ?_
      refine g_aload_n hZ dX9_sees_131 rfl ?_
      refine g_getr hZ fX9_20 rfl rfl dX9_sees_132 ?_
      refine g_iload hZ dX9_sees_135 rfl ?_
      refine g_iald hZ ((gst w a b (i + 1))) rfl dX9_sees_137 (rfl) (by omega) (by decide) (rfl) ?_
      refine g_if_ne hZ 145 dX9_sees_138 rfl (by omega) (fun c => ?_) (fun c => ?_)
      · refine g_iconst hZ dX9_sees_145 ?_
        refine g_istore hZ dX9_sees_146 (by decide) ?_
        refine g_goto hZ 105 dX9_sees_148 rfl ?_
        refine hno _ (fun hs => c ?_)
        unfold seenB at hs
        rw [hal, Bool.true_and, List.all_eq_true] at hs
        have := hs i (List.mem_range.mpr (by omega))
        simpa [frB] using this
      · refine g_iconst hZ dX9_sees_141 ?_
        refine g_goto hZ 146 dX9_sees_142 rfl ?_
        refine g_istore hZ dX9_sees_146 (by decide) ?_
        refine g_goto hZ 105 dX9_sees_148 rfl ?_
        refine ih (i + 1) (by omega) (fun j hj => ?_)
        by_cases e9 : j < i
        · exact hF j e9
        · have : j = i := by omega
          subst this
          simpa [frB] using c
  have h100 : ∀ (z : Int), isB z (galg w a b = true) → Z S [(0, .ref (gad E 27)), (1, iV (a : Int)), (2, iV (b : Int)), (3, iV (gdx w a b)), (4, iV (gdy w a b)), (5, iV (sgz (gdx w a b))), (6, iV (sgz (gdy w a b)))] 100 [iV z] := by
    intro z hz
    rcases hz with ⟨rfl, hz⟩ | ⟨rfl, hz⟩
    · refine g_istore hZ dX9_sees_100 (by decide) ?_
      refine g_iload_n hZ dX9_sees_102 rfl ?_
      refine g_istore hZ dX9_sees_103 (by decide) ?_
      have := loop hz (gm w a b) 0 (by omega) (fun j hj => absurd hj (Nat.not_lt_zero j))
      rw [gst_0] at this
      exact this
    · refine g_istore hZ dX9_sees_100 (by decide) ?_
      refine g_iload_n hZ dX9_sees_102 rfl ?_
      refine g_istore hZ dX9_sees_103 (by decide) ?_
      exact hno _ (fun hs => hz (by unfold seenB at hs; exact (Bool.and_eq_true_iff.mp hs).1))
  have h69 : Z S [(0, .ref (gad E 27)), (1, iV (a : Int)), (2, iV (b : Int)), (3, iV (gdx w a b)), (4, iV (gdy w a b)), (5, iV (sgz (gdx w a b))), (6, iV (sgz (gdy w a b)))] 69 [] := by
    refine g_iload_n hZ dX9_sees_69 rfl ?_
    refine g_iload_n hZ dX9_sees_70 rfl ?_
    refine g_icmp_eq hZ 99 dX9_sees_71 rfl (by omega) (fun c1 => ?_) (fun c1 => ?_)
    · refine g_iconst hZ dX9_sees_99 ?_
      exact h100 0 (Or.inr ⟨rfl, fun q => (galg_iff.mp q).1 (by omega)⟩)
    · refine g_iload_n hZ dX9_sees_74 rfl ?_
      refine g_if_eq hZ 95 dX9_sees_75 rfl (by omega) (fun c2 => ?_) (fun c2 => ?_)
      · refine g_iconst hZ dX9_sees_95 ?_
        refine g_goto hZ 100 dX9_sees_96 rfl ?_
        exact h100 1 (Or.inl ⟨rfl, galg_iff.mpr ⟨by omega, Or.inl c2⟩⟩)
      · refine g_iload hZ dX9_sees_78 rfl ?_
        refine g_if_eq hZ 95 dX9_sees_80 rfl (by omega) (fun c3 => ?_) (fun c3 => ?_)
        · refine g_iconst hZ dX9_sees_95 ?_
          refine g_goto hZ 100 dX9_sees_96 rfl ?_
          exact h100 1 (Or.inl ⟨rfl, galg_iff.mpr ⟨by omega, Or.inr (Or.inl c3)⟩⟩)
        · refine g_iload_n hZ dX9_sees_83 rfl ?_
          refine g_iload hZ dX9_sees_84 rfl ?_
          refine g_imul hZ dX9_sees_86 ?_
          refine g_iload hZ dX9_sees_87 rfl ?_
          refine g_iload hZ dX9_sees_89 rfl ?_
          refine g_imul hZ dX9_sees_91 ?_
          refine g_icmp_ne hZ 99 dX9_sees_92 rfl ⟨ax, ay⟩ (fun c4 => ?_) (fun c4 => ?_)
          · refine g_iconst hZ dX9_sees_99 ?_
            exact h100 0 (Or.inr ⟨rfl, fun q => by rcases (galg_iff.mp q).2 with q | q | q; exact c2 q; exact c3 q; exact c4 q⟩)
          · refine g_iconst hZ dX9_sees_95 ?_
            refine g_goto hZ 100 dX9_sees_96 rfl ?_
            exact h100 1 (Or.inl ⟨rfl, galg_iff.mpr ⟨by omega, Or.inr (Or.inr c4)⟩⟩)
  have h67 : Z S [(0, .ref (gad E 27)), (1, iV (a : Int)), (2, iV (b : Int)), (3, iV (gdx w a b)), (4, iV (gdy w a b)), (5, iV (sgz (gdx w a b)))] 67 [iV (sgz (gdy w a b))] := by
    refine g_istore hZ dX9_sees_67 (by decide) ?_
    exact h69
  have h48 : Z S [(0, .ref (gad E 27)), (1, iV (a : Int)), (2, iV (b : Int)), (3, iV (gdx w a b)), (4, iV (gdy w a b)), (5, iV (sgz (gdx w a b)))] 48 [] := by
    refine g_iload hZ dX9_sees_48 rfl ?_
    refine g_if_le hZ 57 dX9_sees_50 rfl (by omega) (fun c1 => ?_) (fun c1 => ?_)
    · refine g_iload hZ dX9_sees_57 rfl ?_
      refine g_if_ge hZ 66 dX9_sees_59 rfl (by omega) (fun c2 => ?_) (fun c2 => ?_)
      · refine g_iconst hZ dX9_sees_66 ?_
        rw [show sgz (gdy w a b) = 0 by unfold sgz; rw [if_neg (by omega), if_neg (by omega)]] at h67
        exact h67
      · refine g_iconst hZ dX9_sees_62 ?_
        refine g_goto hZ 67 dX9_sees_63 rfl ?_
        rw [show sgz (gdy w a b) = -1 by unfold sgz; rw [if_neg (by omega), if_pos (by omega)]] at h67
        exact h67
    · refine g_iconst hZ dX9_sees_53 ?_
      refine g_goto hZ 67 dX9_sees_54 rfl ?_
      rw [show sgz (gdy w a b) = 1 by unfold sgz; rw [if_pos (by omega)]] at h67
      exact h67
  have h46 : Z S [(0, .ref (gad E 27)), (1, iV (a : Int)), (2, iV (b : Int)), (3, iV (gdx w a b)), (4, iV (gdy w a b))] 46 [iV (sgz (gdx w a b))] := by
    refine g_istore hZ dX9_sees_46 (by decide) ?_
    exact h48
  refine g_iload_n hZ dX9_sees_0 rfl ?_
  refine g_aload_n hZ dX9_sees_1 rfl ?_
  refine g_geti hZ fX9_7 rfl rfl dX9_sees_2 hw ?_
  refine g_irem hZ dX9_sees_5 (by omega) (by omega) (by omega) ?_
  refine g_iload_n hZ dX9_sees_6 rfl ?_
  refine g_aload_n hZ dX9_sees_7 rfl ?_
  refine g_geti hZ fX9_7 rfl rfl dX9_sees_8 hw ?_
  refine g_irem hZ dX9_sees_11 (by omega) (by omega) (by omega) ?_
  refine g_isub hZ dX9_sees_12 ?_
  refine g_istore_n hZ dX9_sees_13 (by decide) ?_
  refine g_iload_n hZ dX9_sees_14 rfl ?_
  refine g_aload_n hZ dX9_sees_15 rfl ?_
  refine g_geti hZ fX9_7 rfl rfl dX9_sees_16 hw ?_
  refine g_idiv hZ dX9_sees_19 (by omega) (by omega) (by omega) ?_
  refine g_iload_n hZ dX9_sees_20 rfl ?_
  refine g_aload_n hZ dX9_sees_21 rfl ?_
  refine g_geti hZ fX9_7 rfl rfl dX9_sees_22 hw ?_
  refine g_idiv hZ dX9_sees_25 (by omega) (by omega) (by omega) ?_
  refine g_isub hZ dX9_sees_26 ?_
  refine g_istore hZ dX9_sees_27 (by decide) ?_
  show Z S [(0, .ref (gad E 27)), (1, iV (a : Int)), (2, iV (b : Int)), (3, iV (gdx w a b)), (4, iV (gdy w a b))] 29 []
  refine g_iload_n hZ dX9_sees_29 rfl ?_
  refine g_if_le hZ 37 dX9_sees_30 rfl (by omega) (fun c1 => ?_) (fun c1 => ?_)
  · refine g_iload_n hZ dX9_sees_37 rfl ?_
    refine g_if_ge hZ 45 dX9_sees_38 rfl (by omega) (fun c2 => ?_) (fun c2 => ?_)
    · refine g_iconst hZ dX9_sees_45 ?_
      rw [show sgz (gdx w a b) = 0 by unfold sgz; rw [if_neg (by omega), if_neg (by omega)]] at h46
      exact h46
    · refine g_iconst hZ dX9_sees_41 ?_
      refine g_goto hZ 46 dX9_sees_42 rfl ?_
      rw [show sgz (gdx w a b) = -1 by unfold sgz; rw [if_neg (by omega), if_pos (by omega)]] at h46
      exact h46
  · refine g_iconst hZ dX9_sees_33 ?_
    refine g_goto hZ 46 dX9_sees_34 rfl ?_
    rw [show sgz (gdx w a b) = 1 by unfold sgz; rw [if_pos (by omega)]] at h46
    exact h46
theorem t_X9_shows (E : gE) (S : gS) : Ct E LAY mX9_shows [.ref (gad E 27)] S (fun r S' => S' = setRow S 62 15 (S 61) ∧ r = none) := by
  refine Ct.intro LAY_ok (by decide +kernel) (Nat.le_of_ble_eq_true rfl) rfl ?_
  intro Z hZ
  have loop : ∀ (m k : Nat), k + m = 15 → Z (setRow S 62 k (S 61)) [(0, .ref (gad E 27)), (1, iV (k : Int))] 2 [] := by
    intro m
    induction m with
    | zero =>
      intro k hk
      refine g_iload_n hZ dX9_shows_2 rfl ?_
      refine g_bipush hZ (z := 15) dX9_shows_3 rfl ?_
      refine g_icmp_ge hZ 26 dX9_shows_5 rfl (by omega) (fun _ => ?_) (fun cX => absurd (by omega) cX)
      refine g_vret hZ dX9_shows_26 rfl ⟨by rw [show k = 15 by omega], rfl⟩
    | succ m ih =>
      intro k hk
      refine g_iload_n hZ dX9_shows_2 rfl ?_
      refine g_bipush hZ (z := 15) dX9_shows_3 rfl ?_
      refine g_icmp_ge hZ 26 dX9_shows_5 rfl (by omega) (fun cX => absurd cX (by omega)) (fun _ => ?_)
      refine g_aload_n hZ dX9_shows_8 rfl ?_
      refine g_getr hZ fX9_20 rfl rfl dX9_shows_9 ?_
      refine g_iload_n hZ dX9_shows_12 rfl ?_
      refine g_aload_n hZ dX9_shows_13 rfl ?_
      refine g_getr hZ fX9_16 rfl rfl dX9_shows_14 ?_
      refine g_iload_n hZ dX9_shows_17 rfl ?_
      refine g_iald hZ (k) rfl dX9_shows_18 (rfl) (by omega) (by decide) (rfl) ?_
      refine g_iast hZ (k) rfl dX9_shows_19 (rfl) (by omega) (by decide) ?_
      refine g_iinc hZ dX9_shows_20 rfl (by decide) ?_
      refine g_goto hZ 2 dX9_shows_23 rfl ?_
      have e1 := setRow_succ S 62 k (S 61)
      refine g_state hZ e1 ?_
      exact ih (k + 1) (by omega)
  refine g_iconst hZ dX9_shows_0 ?_
  refine g_istore_n hZ dX9_shows_1 (by decide) ?_
  have := loop 15 0 (by omega)
  rw [setRow_0] at this
  exact this
end
section
/-! the reference: moves, history -/
theorem seenB_free {w h n a b : Nat} {F : Nat → Bool} (hg : gOK w h n) (ha : a < n) (hb : b < n) (hs : seenB w F a b = true) : F b = true ∧ a ≠ b := by
  unfold seenB at hs
  obtain ⟨h1, h2⟩ := Bool.and_eq_true_iff.mp hs
  obtain ⟨g1, g2⟩ := gst_ok hg ha hb h1
  have h3 := List.all_eq_true.mp h2 (gm w a b - 1) (List.mem_range.mpr (by omega))
  rw [show gm w a b - 1 + 1 = gm w a b by omega, ((g2 _ (Nat.le_refl _)).2.2).mpr rfl] at h3
  exact ⟨h3, (galg_iff.mp h1).1⟩
theorem cntZ_set (B : Nat → Int) (x : Nat) (v z : Int) : ∀ n, cntZ (fun f => if f = x then v else B f) z n + (if x < n ∧ B x = z then 1 else 0) = cntZ B z n + (if x < n ∧ v = z then 1 else 0)
  | 0 => by simp [cntZ]
  | n + 1 => by
    have ih := cntZ_set B x v z n
    rw [cntZ, cntZ]
    by_cases h1 : n = x
    · subst h1
      simp only [Nat.lt_irrefl, false_and, if_false, Nat.lt_succ_self, true_and, if_true] at ih ⊢
      omega
    · have h2 : (x < n + 1) = (x < n) := by rw [eq_iff_iff]; omega
      simp only [h2, if_neg h1] at ih ⊢
      omega
/-- the board behind a move -/
def aftB (B : Nat → Int) (q : Nat × Nat × Nat) (s : Int) : Nat → Int := fun f => if f = q.2.2 then 3 else if f = q.2.1 then s else if f = q.1 then 0 else B f
theorem mvs_facts {w h n : Nat} {B : Nat → Int} {s : Int} {q : Nat × Nat × Nat} (hg : gOK w h n) (hs : s ≠ 0) (hq : q ∈ mvs w n B s) : q.1 < n ∧ q.2.1 < n ∧ q.2.2 < n ∧ B q.1 = s ∧ B q.2.1 = 0 ∧ q.1 ≠ q.2.1 ∧ q.2.1 ≠ q.2.2 ∧ (q.2.2 = q.1 ∨ B q.2.2 = 0) := by
  obtain ⟨h1, h2, h3, h4, h5, h6⟩ := mvs_in hq
  have f1 := seenB_free hg h1 h2 h5
  have f2 := seenB_free hg h2 h3 h6
  refine ⟨h1, h2, h3, h4, by simpa [frB] using f1.1, f1.2, f2.2, ?_⟩
  have f3 := f2.1
  unfold frB brB at f3
  have nne : ¬ q.2.2 = q.2.1 := fun e => f2.2 e.symm
  simp only [decide_eq_true_eq, nne, if_false] at f3
  by_cases e : q.2.2 = q.1
  · exact Or.inl e
  · rw [if_neg e] at f3; exact Or.inr f3
theorem aftB_cnt {w h n : Nat} {B : Nat → Int} {s v : Int} {q : Nat × Nat × Nat} (hg : gOK w h n) (hs : s = 1 ∨ s = 2) (hq : q ∈ mvs w n B s) (hv : v = 1 ∨ v = 2) : cntZ (aftB B q s) v n = cntZ B v n := by
  obtain ⟨h1, h2, h3, h4, h5, h6, h7, h8⟩ := mvs_facts hg (by omega) hq
  have e1 := cntZ_set B q.1 0 v n
  have e2 := cntZ_set (fun f => if f = q.1 then 0 else B f) q.2.1 s v n
  have e3 := cntZ_set (fun f => if f = q.2.1 then s else if f = q.1 then 0 else B f) q.2.2 3 v n
  have e4 : (fun f => if f = q.2.2 then 3 else (fun f => if f = q.2.1 then s else if f = q.1 then 0 else B f) f) = aftB B q s := rfl
  have z1 : (if q.2.1 = q.1 then (0 : Int) else B q.2.1) = 0 := by split <;> omega
  have z2 : (if q.2.2 = q.2.1 then s else if q.2.2 = q.1 then (0 : Int) else B q.2.2) = 0 := by
    rw [if_neg (fun e => h7 e.symm)]
    rcases h8 with h8 | h8
    · rw [if_pos h8]
    · split <;> omega
  simp only [z1] at e2
  simp only [z2] at e3
  rw [e4] at e3
  rw [h4] at e1
  have n0 : ¬ ((0 : Int) = v) := by omega
  have n3 : ¬ ((3 : Int) = v) := by omega
  simp only [n0, n3, and_false, if_false, h1, h2, h3, true_and] at e1 e2 e3
  omega
theorem aftB_bd {n : Nat} {B : Nat → Int} {s : Int} {q : Nat × Nat × Nat} (hB : mBd B n) (hs : s = 1 ∨ s = 2) : mBd (aftB B q s) n := by
  intro k hk
  have := hB k hk
  unfold aftB
  split
  · omega
  · split
    · omega
    · split <;> omega
theorem brB_bd {n : Nat} {B : Nat → Int} {s : Int} {a t : Nat} (hB : mBd B n) (hs : s = 1 ∨ s = 2) : mBd (brB B a t s) n := by
  intro k hk
  have := hB k hk
  unfold brB
  split
  · omega
  · split <;> omega
theorem t_X9_isSeen (E : gE) (S : gS) (w h n : Nat) (hg : mG S w h n) (hB : mBd (S 61) n) (f g : Int) (hf : R32 f) (hg2 : R32 g) : Ct E LAY mX9_isSeen [.ref (gad E 27), iV f, iV g] S (fun r S' => Eqx [62] S S' ∧ r = some (iV (if 0 ≤ f ∧ f < n ∧ 0 ≤ g ∧ g < n then (if seenB w (frB (S 61)) f.toNat g.toNat = true then 1 else 0) else -1001))) := by
  have hn := hg.n15
  refine Ct.intro LAY_ok (by decide +kernel) (Nat.le_of_ble_eq_true rfl) rfl ?_
  intro Z hZ
  refine g_aload_n hZ dX9_isSeen_0 rfl ?_
  refine g_iload_n hZ dX9_isSeen_1 rfl ?_
  refine g_callV hZ (t_X9_isField E S w h n hg f hf) kX9_77 ⟨by decide, by decide⟩ rfl rfl rfl rfl (Nat.le_of_ble_eq_true rfl) dX9_isSeen_2 ?_
  rintro _ _ ⟨rfl, z1, rfl, hz1⟩
  rcases hz1 with ⟨rfl, hz1⟩ | ⟨rfl, hz1⟩
  · refine g_if_eq hZ 16 dX9_isSeen_5 rfl (by omega) (fun cX => absurd cX (by omega)) (fun _ => ?_)
    refine g_aload_n hZ dX9_isSeen_8 rfl ?_
    refine g_iload_n hZ dX9_isSeen_9 rfl ?_
    refine g_callV hZ (t_X9_isField E S w h n hg g hg2) kX9_77 ⟨by decide, by decide⟩ rfl rfl rfl rfl (Nat.le_of_ble_eq_true rfl) dX9_isSeen_10 ?_
    rintro _ _ ⟨rfl, z2, rfl, hz2⟩
    rcases hz2 with ⟨rfl, hz2⟩ | ⟨rfl, hz2⟩
    · refine g_if_ne hZ 20 dX9_isSeen_13 rfl (by omega) (fun _ => ?_) (fun cX => absurd cX (by omega))
      refine g_aload_n hZ dX9_isSeen_20 rfl ?_
      refine g_callV hZ (t_X9_shows E S) kX9_95 ⟨by decide, by decide⟩ rfl rfl rfl rfl (Nat.le_of_ble_eq_true rfl) dX9_isSeen_21 ?_
      rintro _ _ ⟨rfl, rfl⟩
      have he₁ : Eqx [62] S (setRow S 62 15 (S 61)) := Eqx.rf.row rfl
      have h62 : ∀ k, k < n → setRow S 62 15 (S 61) 62 k = S 61 k := fun k hk => setRow_in S (S 61) (by omega)
      have hg₁ := hg.x he₁ rfl rfl
      have e1 : f = ((f.toNat : Nat) : Int) := (Int.toNat_of_nonneg hz1.1).symm
      have e2 : g = ((g.toNat : Nat) : Int) := (Int.toNat_of_nonneg hz2.1).symm
      refine g_aload_n hZ dX9_isSeen_24 rfl ?_
      refine g_iload_n hZ dX9_isSeen_25 rfl ?_
      refine g_iload_n hZ dX9_isSeen_26 rfl ?_
      refine g_callV hZ (As := [iV f, iV g]) (by rw [e1, e2]; exact t_X9_sees E _ w h n hg₁ f.toNat g.toNat (by omega) (by omega) (fun k hk => by rw [h62 k hk]; exact hB k hk)) kX9_98 ⟨by decide, by decide⟩ rfl rfl rfl rfl (Nat.le_of_ble_eq_true rfl) dX9_isSeen_27 ?_
      rintro _ _ ⟨rfl, z3, rfl, hz3⟩
      have hz4 : isB z3 (seenB w (frB (S 61)) f.toNat g.toNat = true) := isB_iff hz3 (by rw [seenB_cong hg.2.2 (by omega) (by omega) (F := frB (setRow S 62 15 (S 61) 62)) (G := frB (S 61)) (fun k hk => by unfold frB; rw [h62 k hk])])
      rcases hz4 with ⟨rfl, hz4⟩ | ⟨rfl, hz4⟩
      · refine g_if_eq hZ 37 dX9_isSeen_30 rfl (by omega) (fun cX => absurd cX (by omega)) (fun _ => ?_)
        refine g_iconst hZ dX9_isSeen_33 ?_
        refine g_goto hZ 38 dX9_isSeen_34 rfl ?_
        refine g_iret hZ dX9_isSeen_38 rfl ⟨he₁, by rw [if_pos ⟨hz1.1, hz1.2, hz2.1, hz2.2⟩, if_pos hz4]⟩
      · refine g_if_eq hZ 37 dX9_isSeen_30 rfl (by omega) (fun _ => ?_) (fun cX => absurd (by omega) cX)
        refine g_iconst hZ dX9_isSeen_37 ?_
        refine g_iret hZ dX9_isSeen_38 rfl ⟨he₁, by rw [if_pos ⟨hz1.1, hz1.2, hz2.1, hz2.2⟩, if_neg hz4]⟩
    · refine g_if_ne hZ 20 dX9_isSeen_13 rfl (by omega) (fun cX => absurd (by omega) cX) (fun _ => ?_)
      refine g_sipush hZ (z := (-1001)) dX9_isSeen_16 rfl ?_
      refine g_iret hZ dX9_isSeen_19 rfl ⟨Eqx.rf, by rw [if_neg (by omega)]⟩
  · refine g_if_eq hZ 16 dX9_isSeen_5 rfl (by omega) (fun _ => ?_) (fun cX => absurd (by omega) cX)
    refine g_sipush hZ (z := (-1001)) dX9_isSeen_16 rfl ?_
    refine g_iret hZ dX9_isSeen_19 rfl ⟨Eqx.rf, by rw [if_neg (by omega)]⟩
/-- the list of moves as far as l -/
def MV (S S1 : gS) (l : List (Nat × Nat × Nat)) : Prop := Eqx [55, 62, 66] S S1 ∧ S1 55 0 = (l.length : Int) ∧ HL menc (S1 66) l
theorem MV.to {S S1 : gS} {l l2 : List (Nat × Nat × Nat)} (h : MV S S1 l) (e : l = l2) : MV S S1 l2 := e ▸ h
theorem MV.b {S S1 : gS} {l : List (Nat × Nat × Nat)} {j : Nat} {z : Int} (h : MV S S1 l) : MV S (upS S1 62 j z) l := ⟨h.1.up rfl, h.2.1, h.2.2⟩
theorem t_X9_lists (E : gE) (S : gS) (w h n : Nat) (hg : mG S w h n) (hB : mBd (S 62) n) (s : Int) (hs : s = 1 ∨ s = 2) (hc : cntZ (S 62) s n ≤ 3) : Ct E LAY mX9_lists [.ref (gad E 27), iV s] S (fun r S' => r = none ∧ MV S S' (mvs w n (S 62) s) ∧ S' 62 = S 62) := by
  have hn := hg.n15
  have hO := hg.2.2
  refine Ct.intro LAY_ok (by decide +kernel) (Nat.le_of_ble_eq_true rfl) rfl ?_
  intro Z hZ
  have outer : ∀ (m a : Nat) (S1 : gS), a + m = n → MV S S1 ((List.range a).flatMap (mvA w n (S 62) s)) → S1 62 = S 62 → Z S1 [(0, .ref (gad E 27)), (1, iV s), (2, iV (a : Int))] 7 [] := by
    intro m
    induction m with
    | zero =>
      intro a S1 ha hm hb
      have hg₁ := hg.x hm.1 rfl rfl
      refine g_iload_n hZ dX9_lists_7 rfl ?_
      refine g_aload_n hZ dX9_lists_8 rfl ?_
      refine g_callV hZ (t_X9_size E S1 w h n hg₁) kX9_60 ⟨by decide, by decide⟩ rfl rfl rfl rfl (Nat.le_of_ble_eq_true rfl) dX9_lists_9 ?_
      rintro _ _ ⟨rfl, rfl⟩
      refine g_icmp_ge hZ 144 dX9_lists_12 rfl (by omega) (fun _ => ?_) (fun cX => absurd (by omega) cX)
      refine g_vret hZ dX9_lists_144 rfl ⟨rfl, hm.to (by rw [show a = n by omega]; rfl), hb⟩
    | succ m ih =>
      intro a S1 ha hm hb
      have next : ∀ (S2 : gS), MV S S2 ((List.range a).flatMap (mvA w n (S 62) s) ++ mvA w n (S 62) s a) → S2 62 = S 62 → Z S2 [(0, .ref (gad E 27)), (1, iV s), (2, iV (a : Int))] 138 [] := by
        intro S2 hm2 hb2
        refine g_iinc hZ dX9_lists_138 rfl (by decide) ?_
        refine g_goto hZ 7 dX9_lists_141 rfl ?_
        exact ih (a + 1) S2 (by omega) (hm2.to (by rw [List.range_succ, List.flatMap_append]; simp)) hb2
      have mid : S 62 a = s → ∀ (m2 t : Nat) (S2 : gS), t + m2 = n → MV S S2 ((List.range a).flatMap (mvA w n (S 62) s) ++ (List.range t).flatMap (mvT w n (S 62) s a)) → S2 62 = S 62 → Z S2 [(0, .ref (gad E 27)), (1, iV s), (2, iV (a : Int)), (3, iV (t : Int))] 17 [] := by
        intro hsa m2
        have hca : cntZ (S 62) s a ≤ 2 := by
          have h1 : cntZ (S 62) s (a + 1) = cntZ (S 62) s a + (if S 62 a = s then 1 else 0) := rfl
          have h2 := cntZ_mono (S 62) s (show a + 1 ≤ n by omega)
          rw [if_pos hsa] at h1
          omega
        have hPl := mvsp_len (w := w) (n := n) (B := S 62) (s := s) hn a (by omega)
        induction m2 with
        | zero =>
          intro t S2 ht hm2 hb2
          have hg₂ := hg.x hm2.1 rfl rfl
          refine g_iload_n hZ dX9_lists_17 rfl ?_
          refine g_aload_n hZ dX9_lists_18 rfl ?_
          refine g_callV hZ (t_X9_size E S2 w h n hg₂) kX9_60 ⟨by decide, by decide⟩ rfl rfl rfl rfl (Nat.le_of_ble_eq_true rfl) dX9_lists_19 ?_
          rintro _ _ ⟨rfl, rfl⟩
          refine g_icmp_ge hZ 138 dX9_lists_22 rfl (by omega) (fun _ => ?_) (fun cX => absurd (by omega) cX)
          refine g_keep hZ [0, 1, 2] rfl (next S2 (hm2.to ?_) hb2)
          rw [show t = n by omega]
          unfold mvA
          rw [if_pos hsa]
        | succ m2 ih2 =>
          intro t S2 ht hm2 hb2
          have hg₂ := hg.x hm2.1 rfl rfl
          have hPt := mvAp_len (w := w) (n := n) (B := S 62) (s := s) (a := a) (m := t) hn (by omega) (by omega)
          have step : ∀ (S3 : gS), MV S S3 ((List.range a).flatMap (mvA w n (S 62) s) ++ (List.range t).flatMap (mvT w n (S 62) s a) ++ mvT w n (S 62) s a t) → S3 62 = S 62 → Z S3 [(0, .ref (gad E 27)), (1, iV s), (2, iV (a : Int)), (3, iV (t : Int))] 132 [] := by
            intro S3 hm3 hb3
            refine g_iinc hZ dX9_lists_132 rfl (by decide) ?_
            refine g_goto hZ 17 dX9_lists_135 rfl ?_
            exact ih2 (t + 1) S3 (by omega) (hm3.to (by rw [List.range_succ, List.flatMap_append, List.append_assoc]; simp)) hb3
          refine g_iload_n hZ dX9_lists_17 rfl ?_
          refine g_aload_n hZ dX9_lists_18 rfl ?_
          refine g_callV hZ (t_X9_size E S2 w h n hg₂) kX9_60 ⟨by decide, by decide⟩ rfl rfl rfl rfl (Nat.le_of_ble_eq_true rfl) dX9_lists_19 ?_
          rintro _ _ ⟨rfl, rfl⟩
          refine g_icmp_ge hZ 138 dX9_lists_22 rfl (by omega) (fun cX => absurd cX (by omega)) (fun _ => ?_)
          refine g_aload_n hZ dX9_lists_25 rfl ?_
          refine g_getr hZ fX9_20 rfl rfl dX9_lists_26 ?_
          refine g_iload_n hZ dX9_lists_29 rfl ?_
          refine g_iald hZ (a) rfl dX9_lists_30 (rfl) (by omega) (by decide) ((congrFun hb2 a).trans hsa) ?_
          refine g_iload_n hZ dX9_lists_31 rfl ?_
          refine g_icmp_ne hZ 138 dX9_lists_32 rfl (by omega) (fun cX => absurd (by omega) cX) (fun _ => ?_)
          refine g_aload_n hZ dX9_lists_35 rfl ?_
          refine g_iload_n hZ dX9_lists_36 rfl ?_
          refine g_iload_n hZ dX9_lists_37 rfl ?_
          have hB₂ : mBd (S2 62) n := by rw [hb2]; exact hB
          refine g_callV hZ (t_X9_sees E S2 w h n hg₂ a t (by omega) (by omega) hB₂) kX9_98 ⟨by decide, by decide⟩ rfl rfl rfl rfl (Nat.le_of_ble_eq_true rfl) dX9_lists_38 ?_
          rintro _ _ ⟨rfl, z, rfl, hz⟩
          rw [hb2] at hz
          rcases hz with ⟨rfl, hz⟩ | ⟨rfl, hz⟩
          · refine g_if_eq hZ 132 dX9_lists_41 rfl (by omega) (fun cX => absurd cX (by omega)) (fun _ => ?_)
            refine g_aload_n hZ dX9_lists_44 rfl ?_
            refine g_getr hZ fX9_20 rfl rfl dX9_lists_45 ?_
            refine g_iload_n hZ dX9_lists_48 rfl ?_
            refine g_iconst hZ dX9_lists_49 ?_
            refine g_iast hZ (a) rfl dX9_lists_50 (rfl) (by omega) (by decide) ?_
            refine g_aload_n hZ dX9_lists_51 rfl ?_
            refine g_getr hZ fX9_20 rfl rfl dX9_lists_52 ?_
            refine g_iload_n hZ dX9_lists_55 rfl ?_
            refine g_iload_n hZ dX9_lists_56 rfl ?_
            refine g_iast hZ (t) rfl dX9_lists_57 (rfl) (by omega) (by decide) ?_
            refine g_iconst hZ dX9_lists_58 ?_
            refine g_istore hZ dX9_lists_59 (by decide) ?_
            have inner : ∀ (m3 u : Nat) (S3 : gS), u + m3 = n → MV S S3 ((List.range a).flatMap (mvA w n (S 62) s) ++ (List.range t).flatMap (mvT w n (S 62) s a) ++ ((List.range u).filter (seenB w (frB (brB (S 62) a t s)) t)).map (fun u => (a, t, u))) → S3 62 = brB (S 62) a t s → Z S3 [(0, .ref (gad E 27)), (1, iV s), (2, iV (a : Int)), (3, iV (t : Int)), (4, iV (u : Int))] 61 [] := by
              intro m3
              induction m3 with
              | zero =>
                intro u S3 hu hm3 hb3
                have hg₃ := hg.x hm3.1 rfl rfl
                refine g_iload hZ dX9_lists_61 rfl ?_
                refine g_aload_n hZ dX9_lists_63 rfl ?_
                refine g_callV hZ (t_X9_size E S3 w h n hg₃) kX9_60 ⟨by decide, by decide⟩ rfl rfl rfl rfl (Nat.le_of_ble_eq_true rfl) dX9_lists_64 ?_
                rintro _ _ ⟨rfl, rfl⟩
                refine g_icmp_ge hZ 118 dX9_lists_67 rfl (by omega) (fun _ => ?_) (fun cX => absurd (by omega) cX)
                refine g_aload_n hZ dX9_lists_118 rfl ?_
                refine g_getr hZ fX9_20 rfl rfl dX9_lists_119 ?_
                refine g_iload_n hZ dX9_lists_122 rfl ?_
                refine g_iconst hZ dX9_lists_123 ?_
                refine g_iast hZ (t) rfl dX9_lists_124 (rfl) (by omega) (by decide) ?_
                refine g_aload_n hZ dX9_lists_125 rfl ?_
                refine g_getr hZ fX9_20 rfl rfl dX9_lists_126 ?_
                refine g_iload_n hZ dX9_lists_129 rfl ?_
                refine g_iload_n hZ dX9_lists_130 rfl ?_
                refine g_iast hZ (a) rfl dX9_lists_131 (rfl) (by omega) (by decide) ?_
                refine g_keep hZ [0, 1, 2, 3] rfl (step _ (MV.b (MV.b (hm3.to ?_))) ?_)
                · rw [show u = n by omega]
                  unfold mvT
                  rw [if_pos hz]; rfl
                · funext k
                  have hk := congrFun hb3 k
                  have ft : S 62 t = 0 := by simpa [frB] using (seenB_free hO (show a < n by omega) (show t < n by omega) hz).1
                  rw [upS_if, upS_if]
                  unfold brB at hk
                  by_cases e1 : k = a
                  · rw [if_pos ⟨rfl, e1⟩, e1, hsa]
                  · rw [if_neg (fun q => e1 q.2)]
                    by_cases e2 : k = t
                    · rw [if_pos ⟨rfl, e2⟩, e2, ft]
                    · rw [if_neg (fun q => e2 q.2), hk, if_neg e2, if_neg e1]
              | succ m3 ih3 =>
                intro u S3 hu hm3 hb3
                have hg₃ := hg.x hm3.1 rfl rfl
                have hB₃ : mBd (S3 62) n := by rw [hb3]; exact brB_bd hB hs
                have hPu := burns_len (w := w) (n := n) (B := S 62) (s := s) (a := a) (t := t) (m := u) hn (by omega) (by omega)
                have hlen := hm3.2.1
                have hll : ((List.range a).flatMap (mvA w n (S 62) s) ++ (List.range t).flatMap (mvT w n (S 62) s a) ++ ((List.range u).filter (seenB w (frB (brB (S 62) a t s)) t)).map (fun u => (a, t, u))).length < 700 := by
                  rw [List.length_append, List.length_append, List.length_map]; omega
                have hr : (List.range (u + 1)).filter (seenB w (frB (brB (S 62) a t s)) t) = (List.range u).filter (seenB w (frB (brB (S 62) a t s)) t) ++ [u].filter (seenB w (frB (brB (S 62) a t s)) t) := by rw [List.range_succ, List.filter_append]
                generalize ((List.range a).flatMap (mvA w n (S 62) s) ++ (List.range t).flatMap (mvT w n (S 62) s a)) = P9 at *
                refine g_iload hZ dX9_lists_61 rfl ?_
                refine g_aload_n hZ dX9_lists_63 rfl ?_
                refine g_callV hZ (t_X9_size E S3 w h n hg₃) kX9_60 ⟨by decide, by decide⟩ rfl rfl rfl rfl (Nat.le_of_ble_eq_true rfl) dX9_lists_64 ?_
                rintro _ _ ⟨rfl, rfl⟩
                refine g_icmp_ge hZ 118 dX9_lists_67 rfl (by omega) (fun cX => absurd cX (by omega)) (fun _ => ?_)
                refine g_aload_n hZ dX9_lists_70 rfl ?_
                refine g_iload_n hZ dX9_lists_71 rfl ?_
                refine g_iload hZ dX9_lists_72 rfl ?_
                refine g_callV hZ (t_X9_sees E S3 w h n hg₃ t u (by omega) (by omega) hB₃) kX9_98 ⟨by decide, by decide⟩ rfl rfl rfl rfl (Nat.le_of_ble_eq_true rfl) dX9_lists_74 ?_
                rintro _ _ ⟨rfl, z, rfl, hz3⟩
                rw [hb3] at hz3
                rcases hz3 with ⟨rfl, hz3⟩ | ⟨rfl, hz3⟩
                · refine g_if_eq hZ 112 dX9_lists_77 rfl (by omega) (fun cX => absurd cX (by omega)) (fun _ => ?_)
                  refine g_aload_n hZ dX9_lists_80 rfl ?_
                  refine g_getr hZ fX9_32 rfl rfl dX9_lists_81 ?_
                  refine g_aload_n hZ dX9_lists_84 rfl ?_
                  refine g_geti hZ fX9_102 rfl rfl dX9_lists_85 hlen ?_
                  refine g_sipush hZ (z := 225) dX9_lists_88 rfl ?_
                  refine g_iload_n hZ dX9_lists_91 rfl ?_
                  refine g_imul hZ dX9_lists_92 ?_
                  refine g_bipush hZ (z := 15) dX9_lists_93 rfl ?_
                  refine g_iload_n hZ dX9_lists_95 rfl ?_
                  refine g_imul hZ dX9_lists_96 ?_
                  refine g_iadd hZ dX9_lists_97 ?_
                  refine g_iload hZ dX9_lists_98 rfl ?_
                  refine g_iadd hZ dX9_lists_100 ?_
                  refine g_iast hZ (_) rfl dX9_lists_101 (rfl) (by omega) (by decide) ?_
                  refine g_aload_n hZ dX9_lists_102 rfl ?_
                  refine g_dup hZ dX9_lists_103 rfl ?_
                  refine g_geti hZ fX9_102 rfl rfl dX9_lists_104 hlen ?_
                  refine g_iconst hZ dX9_lists_107 ?_
                  refine g_iadd hZ dX9_lists_108 ?_
                  refine g_puti hZ fX9_102 rfl rfl dX9_lists_109 ?_
                  refine g_iinc hZ dX9_lists_112 rfl (by decide) ?_
                  refine g_goto hZ 61 dX9_lists_115 rfl ?_
                  refine ih3 (u + 1) _ (by omega) ⟨(hm3.1.up rfl).up rfl, ?_, ?_⟩ ?_
                  · rw [hr, List.map_append, ← List.append_assoc, List.length_append]
                    simp [hz3]
                    exact upS_eq _ _ _ _
                  · rw [hr, List.map_append, ← List.append_assoc, show ([u].filter (seenB w (frB (brB (S 62) a t s)) t)).map (fun u => (a, t, u)) = [(a, t, u)] by simp [hz3]]
                    refine HL_add hm3.2.2 (fun k hk => ?_) ?_
                    · rw [upS_v _ _ (by decide), upS_j _ _ (by omega)]
                    · rw [upS_v _ _ (by decide), upS_eq]; rfl
                  · exact hb3
                · refine g_if_eq hZ 112 dX9_lists_77 rfl (by omega) (fun _ => ?_) (fun cX => absurd (by omega) cX)
                  refine g_iinc hZ dX9_lists_112 rfl (by decide) ?_
                  refine g_goto hZ 61 dX9_lists_115 rfl ?_
                  refine ih3 (u + 1) _ (by omega) (hm3.to ?_) hb3
                  rw [hr, show [u].filter (seenB w (frB (brB (S 62) a t s)) t) = [] by simp [hz3], List.append_nil]
            refine inner n 0 _ (by omega) (MV.b (MV.b (hm2.to ?_))) ?_
            · simp
            · funext k
              have hk := congrFun hb2 k
              rw [upS_if, upS_if]
              unfold brB
              by_cases e2 : k = t
              · rw [if_pos ⟨rfl, e2⟩, if_pos e2]
              · rw [if_neg (fun q => e2 q.2), if_neg e2]
                by_cases e1 : k = a
                · rw [if_pos ⟨rfl, e1⟩, if_pos e1]
                · rw [if_neg (fun q => e1 q.2), if_neg e1, hk]
          · refine g_if_eq hZ 132 dX9_lists_41 rfl (by omega) (fun _ => ?_) (fun cX => absurd (by omega) cX)
            refine step S2 (hm2.to ?_) hb2
            unfold mvT
            rw [if_neg hz, List.append_nil]
      have hg₁ := hg.x hm.1 rfl rfl
      refine g_iload_n hZ dX9_lists_7 rfl ?_
      refine g_aload_n hZ dX9_lists_8 rfl ?_
      refine g_callV hZ (t_X9_size E S1 w h n hg₁) kX9_60 ⟨by decide, by decide⟩ rfl rfl rfl rfl (Nat.le_of_ble_eq_true rfl) dX9_lists_9 ?_
      rintro _ _ ⟨rfl, rfl⟩
      refine g_icmp_ge hZ 144 dX9_lists_12 rfl (by omega) (fun cX => absurd cX (by omega)) (fun _ => ?_)
      refine g_iconst hZ dX9_lists_15 ?_
      refine g_istore_n hZ dX9_lists_16 (by decide) ?_
      by_cases hsa : S 62 a = s
      · exact mid hsa n 0 S1 (by omega) (hm.to (by simp)) hb
      · have hBa := hB a (by omega)
        refine g_iload_n hZ dX9_lists_17 rfl ?_
        refine g_aload_n hZ dX9_lists_18 rfl ?_
        refine g_callV hZ (t_X9_size E S1 w h n hg₁) kX9_60 ⟨by decide, by decide⟩ rfl rfl rfl rfl (Nat.le_of_ble_eq_true rfl) dX9_lists_19 ?_
        rintro _ _ ⟨rfl, rfl⟩
        refine g_icmp_ge hZ 138 dX9_lists_22 rfl (by omega) (fun cX => absurd cX (by omega)) (fun _ => ?_)
        refine g_aload_n hZ dX9_lists_25 rfl ?_
        refine g_getr hZ fX9_20 rfl rfl dX9_lists_26 ?_
        refine g_iload_n hZ dX9_lists_29 rfl ?_
        refine g_iald hZ (a) rfl dX9_lists_30 (rfl) (by omega) (by decide) (congrFun hb a) ?_
        refine g_iload_n hZ dX9_lists_31 rfl ?_
        refine g_icmp_ne hZ 138 dX9_lists_32 rfl (by omega) (fun _ => ?_) (fun cX => absurd cX hsa)
        refine g_keep hZ [0, 1, 2] rfl (next S1 (hm.to ?_) hb)
        unfold mvA
        rw [if_neg hsa, List.append_nil]
  refine g_aload_n hZ dX9_lists_0 rfl ?_
  refine g_iconst hZ dX9_lists_1 ?_
  refine g_puti hZ fX9_102 rfl rfl dX9_lists_2 ?_
  refine g_iconst hZ dX9_lists_5 ?_
  refine g_istore_n hZ dX9_lists_6 (by decide) ?_
  refine outer n 0 _ (by omega) ⟨Eqx.rf.up rfl, upS_eq _ _ _ _, ?_⟩ rfl
  exact HL_nil _ _
theorem t_X9_movesNow (E : gE) (S : gS) (w h n : Nat) (hg : mG S w h n) (hB : mBd (S 61) n) (s : Int) (hs : s = 1 ∨ s = 2) (hc : cntZ (S 61) s n ≤ 3) : Ct E LAY mX9_movesNow [.ref (gad E 27), iV s] S (fun r S' => r = some (iV ((mvs w n (S 61) s).length : Int)) ∧ MV S S' (mvs w n (S 61) s) ∧ ∀ k, k < 15 → S' 62 k = S 61 k) := by
  have hn := hg.n15
  refine Ct.intro LAY_ok (by decide +kernel) (Nat.le_of_ble_eq_true rfl) rfl ?_
  intro Z hZ
  refine g_aload_n hZ dX9_movesNow_0 rfl ?_
  refine g_callV hZ (t_X9_shows E S) kX9_95 ⟨by decide, by decide⟩ rfl rfl rfl rfl (Nat.le_of_ble_eq_true rfl) dX9_movesNow_1 ?_
  rintro _ _ ⟨rfl, rfl⟩
  have he₁ : Eqx [62] S (setRow S 62 15 (S 61)) := Eqx.rf.row rfl
  have h62 : ∀ k, k < 15 → setRow S 62 15 (S 61) 62 k = S 61 k := fun k hk => setRow_in S (S 61) hk
  have hg₁ := hg.x he₁ rfl rfl
  have em : mvs w n (setRow S 62 15 (S 61) 62) s = mvs w n (S 61) s := mvs_cong hg.2.2 (fun k hk => h62 k (by omega))
  refine g_aload_n hZ dX9_movesNow_4 rfl ?_
  refine g_iload_n hZ dX9_movesNow_5 rfl ?_
  refine g_callV hZ (t_X9_lists E _ w h n hg₁ (fun k hk => by rw [h62 k (by omega)]; exact hB k hk) s hs (by rw [cntZ_cong (fun k hk => h62 k (by omega))]; exact hc)) kX9_105 ⟨by decide, by decide⟩ rfl rfl rfl rfl (Nat.le_of_ble_eq_true rfl) dX9_movesNow_6 ?_
  rintro _ S₁ ⟨rfl, hm₁, hb₁⟩
  rw [em] at hm₁
  refine g_aload_n hZ dX9_movesNow_9 rfl ?_
  refine g_geti hZ fX9_102 rfl rfl dX9_movesNow_10 hm₁.2.1 ?_
  refine g_iret hZ dX9_movesNow_13 rfl ⟨rfl, ⟨(he₁.mono rfl).tr hm₁.1, hm₁.2.1, hm₁.2.2⟩, fun k hk => by rw [hb₁]; exact h62 k hk⟩
end
section
/-! the reference: moves made, history, the board's calls -/
/-- what noMove answers -/
def mNo (S : gS) (w n : Nat) (s a t u z : Int) : Prop := (¬ ((s = 1 ∨ s = 2) ∧ 0 ≤ a ∧ a < n ∧ 0 ≤ t ∧ t < n ∧ 0 ≤ u ∧ u < n) ∧ z = -1001) ∨ (((s = 1 ∨ s = 2) ∧ 0 ≤ a ∧ a < n ∧ 0 ≤ t ∧ t < n ∧ 0 ≤ u ∧ u < n) ∧ (a.toNat, t.toNat, u.toNat) ∈ mvs w n (S 61) s ∧ z = 0) ∨ (((s = 1 ∨ s = 2) ∧ 0 ≤ a ∧ a < n ∧ 0 ≤ t ∧ t < n ∧ 0 ≤ u ∧ u < n) ∧ (a.toNat, t.toNat, u.toNat) ∉ mvs w n (S 61) s ∧ z = -1002)
/-- the sides have at most three pieces each -/
def mC3 (B : Nat → Int) (n : Nat) : Prop := cntZ B 1 n ≤ 3 ∧ cntZ B 2 n ≤ 3
theorem mC3.s {B : Nat → Int} {n : Nat} {s : Int} (h : mC3 B n) (hs : s = 1 ∨ s = 2) : cntZ B s n ≤ 3 := by rcases hs with rfl | rfl; exact h.1; exact h.2
theorem t_X9_noMove (E : gE) (S : gS) (w h n : Nat) (hg : mG S w h n) (hB : mBd (S 61) n) (hc : mC3 (S 61) n) (s a t u : Int) (rs : R32 s) (ra : R32 a) (rt : R32 t) (ru : R32 u) : Ct E LAY mX9_noMove [.ref (gad E 27), iV s, iV a, iV t, iV u] S (fun r S' => Eqx [55, 62, 66] S S' ∧ ∃ z, r = some (iV z) ∧ mNo S w n s a t u z) := by
  have hn := hg.n15
  refine Ct.intro LAY_ok (by decide +kernel) (Nat.le_of_ble_eq_true rfl) rfl ?_
  intro Z hZ
  refine g_iload_n hZ dX9_noMove_0 rfl ?_
  have bad : ¬ ((s = 1 ∨ s = 2) ∧ 0 ≤ a ∧ a < n ∧ 0 ≤ t ∧ t < n ∧ 0 ≤ u ∧ u < n) → Z S [(0, .ref (gad E 27)), (1, iV s), (2, iV a), (3, iV t), (4, iV u)] 32 [] := by
    intro hb
    refine g_sipush hZ (z := (-1001)) dX9_noMove_32 rfl ?_
    refine g_iret hZ dX9_noMove_35 rfl ⟨Eqx.rf, -1001, rfl, Or.inl ⟨hb, rfl⟩⟩
  refine g_callS hZ (t_X9_isSide E S s rs) kX9_81 ⟨by decide, by decide⟩ rfl rfl (Nat.le_of_ble_eq_true rfl) dX9_noMove_1 ?_
  rintro _ _ ⟨rfl, z1, rfl, hz1⟩
  rcases hz1 with ⟨rfl, hz1⟩ | ⟨rfl, hz1⟩
  · refine g_if_eq hZ 32 dX9_noMove_4 rfl (by omega) (fun cX => absurd cX (by omega)) (fun _ => ?_)
    refine g_aload_n hZ dX9_noMove_7 rfl ?_
    refine g_iload_n hZ dX9_noMove_8 rfl ?_
    refine g_callV hZ (t_X9_isField E S w h n hg a ra) kX9_77 ⟨by decide, by decide⟩ rfl rfl rfl rfl (Nat.le_of_ble_eq_true rfl) dX9_noMove_9 ?_
    rintro _ _ ⟨rfl, z1, rfl, hz2⟩
    rcases hz2 with ⟨rfl, hz2⟩ | ⟨rfl, hz2⟩
    · refine g_if_eq hZ 32 dX9_noMove_12 rfl (by omega) (fun cX => absurd cX (by omega)) (fun _ => ?_)
      refine g_aload_n hZ dX9_noMove_15 rfl ?_
      refine g_iload_n hZ dX9_noMove_16 rfl ?_
      refine g_callV hZ (t_X9_isField E S w h n hg t rt) kX9_77 ⟨by decide, by decide⟩ rfl rfl rfl rfl (Nat.le_of_ble_eq_true rfl) dX9_noMove_17 ?_
      rintro _ _ ⟨rfl, z1, rfl, hz3⟩
      rcases hz3 with ⟨rfl, hz3⟩ | ⟨rfl, hz3⟩
      · refine g_if_eq hZ 32 dX9_noMove_20 rfl (by omega) (fun cX => absurd cX (by omega)) (fun _ => ?_)
        refine g_aload_n hZ dX9_noMove_23 rfl ?_
        refine g_iload hZ dX9_noMove_24 rfl ?_
        refine g_callV hZ (t_X9_isField E S w h n hg u ru) kX9_77 ⟨by decide, by decide⟩ rfl rfl rfl rfl (Nat.le_of_ble_eq_true rfl) dX9_noMove_26 ?_
        rintro _ _ ⟨rfl, z1, rfl, hz4⟩
        rcases hz4 with ⟨rfl, hz4⟩ | ⟨rfl, hz4⟩
        · refine g_if_ne hZ 36 dX9_noMove_29 rfl (by omega) (fun _ => ?_) (fun cX => absurd cX (by omega))
          have hall : (s = 1 ∨ s = 2) ∧ 0 ≤ a ∧ a < n ∧ 0 ≤ t ∧ t < n ∧ 0 ≤ u ∧ u < n := ⟨hz1, hz2.1, hz2.2, hz3.1, hz3.2, hz4.1, hz4.2⟩
          refine g_aload_n hZ dX9_noMove_36 rfl ?_
          refine g_iload_n hZ dX9_noMove_37 rfl ?_
          refine g_callV hZ (t_X9_movesNow E S w h n hg hB s hz1 (hc.s hz1)) kX9_109 ⟨by decide, by decide⟩ rfl rfl rfl rfl (Nat.le_of_ble_eq_true rfl) dX9_noMove_38 ?_
          rintro _ S₁ ⟨rfl, hm₁, -⟩
          have hbnd := mvs_bound (w := w) (B := S 61) (s := s) hn (hc.s hz1)
          have hlen := hm₁.2.1
          have hHL := hm₁.2.2
          have hmem : ∀ q ∈ mvs w n (S 61) s, q.1 < n ∧ q.2.1 < n ∧ q.2.2 < n := fun q hq => ⟨(mvs_in hq).1, (mvs_in hq).2.1, (mvs_in hq).2.2.1⟩
          generalize hM : mvs w n (S 61) s = M9 at *
          have loop : ∀ (m k : Nat), k + m = M9.length → (∀ j, j < k → M9[j]? ≠ some (a.toNat, t.toNat, u.toNat)) → Z S₁ [(0, .ref (gad E 27)), (1, iV s), (2, iV a), (3, iV t), (4, iV u), (5, iV (k : Int))] 45 [] := by
            intro m
            induction m with
            | zero =>
              intro k hk hno
              refine g_iload hZ dX9_noMove_45 rfl ?_
              refine g_aload_n hZ dX9_noMove_47 rfl ?_
              refine g_geti hZ fX9_102 rfl rfl dX9_noMove_48 hlen ?_
              refine g_icmp_ge hZ 85 dX9_noMove_51 rfl (by omega) (fun _ => ?_) (fun cX => absurd (by omega) cX)
              refine g_sipush hZ (z := (-1002)) dX9_noMove_85 rfl ?_
              refine g_iret hZ dX9_noMove_88 rfl ⟨hm₁.1, -1002, rfl, Or.inr (Or.inr ⟨hall, ?_, rfl⟩)⟩
              rw [hM]
              intro hin
              obtain ⟨j, hj⟩ := List.getElem?_of_mem hin
              exact hno j (by have := (List.getElem?_eq_some_iff.mp hj).1; omega) hj
            | succ m ih =>
              intro k hk hno
              obtain ⟨q, hq⟩ : ∃ q, M9[k]? = some q := ⟨_, List.getElem?_eq_getElem (by omega)⟩
              have hqn := hmem q (List.mem_of_getElem? hq)
              have hfk := hHL k q hq
              refine g_iload hZ dX9_noMove_45 rfl ?_
              refine g_aload_n hZ dX9_noMove_47 rfl ?_
              refine g_geti hZ fX9_102 rfl rfl dX9_noMove_48 hlen ?_
              refine g_icmp_ge hZ 85 dX9_noMove_51 rfl (by omega) (fun cX => absurd cX (by omega)) (fun _ => ?_)
              refine g_aload_n hZ dX9_noMove_54 rfl ?_
              refine g_getr hZ fX9_32 rfl rfl dX9_noMove_55 ?_
              refine g_iload hZ dX9_noMove_58 rfl ?_
              refine g_iald hZ (k) rfl dX9_noMove_60 (rfl) (by omega) (by decide) (hfk) ?_
              refine g_sipush hZ (z := 225) dX9_noMove_61 rfl ?_
              refine g_iload_n hZ dX9_noMove_64 rfl ?_
              refine g_imul hZ dX9_noMove_65 ?_
              refine g_bipush hZ (z := 15) dX9_noMove_66 rfl ?_
              refine g_iload_n hZ dX9_noMove_68 rfl ?_
              refine g_imul hZ dX9_noMove_69 ?_
              refine g_iadd hZ dX9_noMove_70 ?_
              refine g_iload hZ dX9_noMove_71 rfl ?_
              refine g_iadd hZ dX9_noMove_73 ?_
              refine g_icmp_ne hZ 79 dX9_noMove_74 rfl (by unfold menc; omega) (fun c => ?_) (fun c => ?_)
              · refine g_iinc hZ dX9_noMove_79 rfl (by decide) ?_
                refine g_goto hZ 45 dX9_noMove_82 rfl ?_
                refine ih (k + 1) (by omega) (fun j hj => ?_)
                by_cases e9 : j = k
                · subst e9
                  rw [hq]
                  intro e8
                  cases e8
                  refine c ?_
                  unfold menc
                  show 225 * ((a.toNat : Nat) : Int) + 15 * ((t.toNat : Nat) : Int) + ((u.toNat : Nat) : Int) = 225 * a + 15 * t + u
                  omega
                · exact hno j (by omega)
              · refine g_iconst hZ dX9_noMove_77 ?_
                refine g_iret hZ dX9_noMove_78 rfl ⟨hm₁.1, 0, rfl, Or.inr (Or.inl ⟨hall, ?_, rfl⟩)⟩
                rw [hM]
                have e7 : q = (a.toNat, t.toNat, u.toNat) := by
                  obtain ⟨q1, q2, q3⟩ := q
                  unfold menc at c
                  dsimp only at c hqn
                  have e1 : q1 = a.toNat := by omega
                  have e2 : q2 = t.toNat := by omega
                  have e3 : q3 = u.toNat := by omega
                  rw [e1, e2, e3]
                rw [← e7]
                exact List.mem_of_getElem? hq
          refine g_pop hZ dX9_noMove_41 rfl ?_
          refine g_iconst hZ dX9_noMove_42 ?_
          refine g_istore hZ dX9_noMove_43 (by decide) ?_
          exact loop M9.length 0 (by omega) (fun j hj => absurd hj (Nat.not_lt_zero j))
        · refine g_if_ne hZ 36 dX9_noMove_29 rfl (by omega) (fun cX => absurd (by omega) cX) (fun _ => ?_)
          exact bad (by omega)
      · refine g_if_eq hZ 32 dX9_noMove_20 rfl (by omega) (fun _ => ?_) (fun cX => absurd (by omega) cX)
        exact bad (by omega)
    · refine g_if_eq hZ 32 dX9_noMove_12 rfl (by omega) (fun _ => ?_) (fun cX => absurd (by omega) cX)
      exact bad (by omega)
  · refine g_if_eq hZ 32 dX9_noMove_4 rfl (by omega) (fun _ => ?_) (fun cX => absurd (by omega) cX)
    exact bad (by omega)
theorem t_X9_goes (E : gE) (S : gS) (w h n : Nat) (hg : mG S w h n) (hB : mBd (S 61) n) (hc : mC3 (S 61) n) (s : Int) (hs : s = 1 ∨ s = 2) (q : Nat × Nat × Nat) (hq : q ∈ mvs w n (S 61) s) : Ct E LAY mX9_goes [.ref (gad E 27), iV s, iV (q.1 : Int), iV (q.2.1 : Int), iV (q.2.2 : Int)] S (fun r S' => r = some (iV ((mvs w n (aftB (S 61) q s) (3 - s)).length : Int)) ∧ Eqx [55, 61, 62, 66] S S' ∧ S' 61 = aftB (S 61) q s) := by
  have hn := hg.n15
  have hqf := mvs_facts hg.2.2 (by omega) hq
  refine Ct.intro LAY_ok (by decide +kernel) (Nat.le_of_ble_eq_true rfl) rfl ?_
  intro Z hZ
  refine g_aload_n hZ dX9_goes_0 rfl ?_
  refine g_getr hZ fX9_16 rfl rfl dX9_goes_1 ?_
  refine g_iload_n hZ dX9_goes_4 rfl ?_
  refine g_iconst hZ dX9_goes_5 ?_
  refine g_iast hZ (q.1) rfl dX9_goes_6 (rfl) (by omega) (by decide) ?_
  refine g_aload_n hZ dX9_goes_7 rfl ?_
  refine g_getr hZ fX9_16 rfl rfl dX9_goes_8 ?_
  refine g_iload_n hZ dX9_goes_11 rfl ?_
  refine g_iload_n hZ dX9_goes_12 rfl ?_
  refine g_iast hZ (q.2.1) rfl dX9_goes_13 (rfl) (by omega) (by decide) ?_
  refine g_aload_n hZ dX9_goes_14 rfl ?_
  refine g_getr hZ fX9_16 rfl rfl dX9_goes_15 ?_
  refine g_iload hZ dX9_goes_18 rfl ?_
  refine g_iconst hZ dX9_goes_20 ?_
  refine g_iast hZ (q.2.2) rfl dX9_goes_21 (rfl) (by omega) (by decide) ?_
  refine g_aload_n hZ dX9_goes_22 rfl ?_
  refine g_iconst hZ dX9_goes_23 ?_
  refine g_iload_n hZ dX9_goes_24 rfl ?_
  refine g_isub hZ dX9_goes_25 ?_
  have e61 : upS (upS (upS S 61 q.1 0) 61 q.2.1 s) 61 q.2.2 3 61 = aftB (S 61) q s := by
    funext k
    unfold aftB
    rw [upS_if, upS_if, upS_if]
    by_cases e1 : k = q.2.2
    · rw [if_pos ⟨rfl, e1⟩, if_pos e1]
    · rw [if_neg (fun q => e1 q.2), if_neg e1]
      by_cases e2 : k = q.2.1
      · rw [if_pos ⟨rfl, e2⟩, if_pos e2]
      · rw [if_neg (fun q => e2 q.2), if_neg e2]
        by_cases e3 : k = q.1
        · rw [if_pos ⟨rfl, e3⟩, if_pos e3]
        · rw [if_neg (fun q => e3 q.2), if_neg e3]
  have he₁ : Eqx [61] S (upS (upS (upS S 61 q.1 0) 61 q.2.1 s) 61 q.2.2 3) := ((Eqx.rf.up rfl).up rfl).up rfl
  have h3s : (3 - s = 1 ∨ 3 - s = 2) := by omega
  refine g_callV hZ (t_X9_movesNow E _ w h n (hg.x he₁ rfl rfl) (by rw [e61]; exact aftB_bd hB hs) (3 - s) h3s (by rw [e61, aftB_cnt hg.2.2 hs hq h3s]; exact hc.s h3s)) kX9_109 ⟨by decide, by decide⟩ rfl rfl rfl rfl (Nat.le_of_ble_eq_true rfl) dX9_goes_26 ?_
  rintro _ S₁ ⟨rfl, hm₁, -⟩
  rw [e61] at hm₁
  refine g_iret hZ dX9_goes_29 rfl ⟨by rw [e61], (he₁.mono rfl).tr (hm₁.1.mono rfl), ?_⟩
  funext k
  exact (hm₁.1 61 k rfl).trans (congrFun e61 k)
abbrev hEn : Type := Nat × Nat × (Nat → Int)
/-- the reference's history -/
def mHs (S : gS) (hs : List hEn) : Prop := S 52 0 = (hs.length : Int) ∧ hs.length ≤ 8 ∧ ∀ (i : Nat) (e : hEn), hs[i]? = some e → S 63 (17 * i) = (e.1 : Int) ∧ S 63 (17 * i + 1) = (e.2.1 : Int) ∧ ∀ k, k < 15 → S 63 (17 * i + 2 + k) = e.2.2 k
def hpush (hs : List hEn) (e : hEn) : List hEn := (if hs.length = 8 then hs.tail else hs) ++ [e]
theorem mHs.x {vs : List Nat} {S S1 : gS} {hs : List hEn} (hh : mHs S hs) (he : Eqx vs S S1) (h1 : vs.contains 52 = false) (h2 : vs.contains 63 = false) : mHs S1 hs := by
  refine ⟨(he 52 0 h1).trans hh.1, hh.2.1, fun i e hi => ?_⟩
  obtain ⟨a1, a2, a3⟩ := hh.2.2 i e hi
  exact ⟨(he 63 _ h2).trans a1, (he 63 _ h2).trans a2, fun k hk => (he 63 _ h2).trans (a3 k hk)⟩
theorem t_X9_keeps (E : gE) (S : gS) (w h n : Nat) (hg : mG S w h n) (hs : List hEn) (hh : mHs S hs) : Ct E LAY mX9_keeps [.ref (gad E 27)] S (fun r S' => r = none ∧ Eqx [52, 63] S S' ∧ mHs S' (hpush hs (w, h, S 61))) := by
  have hn := hg.n15
  obtain ⟨hl1, hl2, hl3⟩ := hh
  refine Ct.intro LAY_ok (by decide +kernel) (Nat.le_of_ble_eq_true rfl) rfl ?_
  intro Z hZ
  have tail : ∀ (S₁ : gS) (gs : List hEn) (L9 : List (Nat × Value)), mHs S₁ gs → gs.length ≤ 7 → Eqx [52, 63] S S₁ → gs ++ [(w, h, S 61)] = hpush hs (w, h, S 61) → lkeep L9 [0] = [(0, .ref (gad E 27))] → Z S₁ L9 48 [] := by
    intro S₁ gs L9 hh₁ hl he hp hL
    refine g_keep hZ [0] hL ?_
    obtain ⟨g1, g2, g3⟩ := hh₁
    have hg₁ := hg.x he rfl rfl
    refine g_aload_n hZ dX9_keeps_48 rfl ?_
    refine g_getr hZ fX9_23 rfl rfl dX9_keeps_49 ?_
    refine g_bipush hZ (z := 17) dX9_keeps_52 rfl ?_
    refine g_aload_n hZ dX9_keeps_54 rfl ?_
    refine g_geti hZ fX9_68 rfl rfl dX9_keeps_55 g1 ?_
    refine g_imul hZ dX9_keeps_58 ?_
    refine g_aload_n hZ dX9_keeps_59 rfl ?_
    refine g_geti hZ fX9_7 rfl rfl dX9_keeps_60 hg₁.1 ?_
    refine g_iast hZ ((17 * gs.length)) rfl dX9_keeps_63 (by omega) (by omega) (by decide) ?_
    refine g_aload_n hZ dX9_keeps_64 rfl ?_
    refine g_getr hZ fX9_23 rfl rfl dX9_keeps_65 ?_
    refine g_bipush hZ (z := 17) dX9_keeps_68 rfl ?_
    refine g_aload_n hZ dX9_keeps_70 rfl ?_
    refine g_geti hZ fX9_68 rfl rfl dX9_keeps_71 g1 ?_
    refine g_imul hZ dX9_keeps_74 ?_
    refine g_iconst hZ dX9_keeps_75 ?_
    refine g_iadd hZ dX9_keeps_76 ?_
    refine g_aload_n hZ dX9_keeps_77 rfl ?_
    refine g_geti hZ fX9_13 rfl rfl dX9_keeps_78 hg₁.2.1 ?_
    refine g_iast hZ ((17 * gs.length + 1)) rfl dX9_keeps_81 (by omega) (by omega) (by decide) ?_
    refine g_iconst hZ dX9_keeps_82 ?_
    refine g_istore_n hZ dX9_keeps_83 (by decide) ?_
    have he₂ : Eqx [63] S₁ (upS (upS S₁ 63 (17 * gs.length) (w : Int)) 63 (17 * gs.length + 1) (h : Int)) := (Eqx.rf.up rfl).up rfl
    have loop : ∀ (m k : Nat) (S₃ : gS), k + m = 15 → Eqx [63] S₁ S₃ → (∀ j, j < 17 * gs.length → S₃ 63 j = S₁ 63 j) → S₃ 63 (17 * gs.length) = w → S₃ 63 (17 * gs.length + 1) = h → (∀ i, i < k → S₃ 63 (17 * gs.length + 2 + i) = S 61 i) → Z S₃ [(0, .ref (gad E 27)), (1, iV (k : Int))] 84 [] := by
      intro m
      induction m with
      | zero =>
        intro k S₃ hk he₃ f1 f2 f3 f4
        have l3 : S₃ 52 0 = (gs.length : Int) := (he₃ 52 0 rfl).trans g1
        refine g_iload_n hZ dX9_keeps_84 rfl ?_
        refine g_bipush hZ (z := 15) dX9_keeps_85 rfl ?_
        refine g_icmp_ge hZ 118 dX9_keeps_87 rfl (by omega) (fun _ => ?_) (fun cX => absurd (by omega) cX)
        refine g_aload_n hZ dX9_keeps_118 rfl ?_
        refine g_dup hZ dX9_keeps_119 rfl ?_
        refine g_geti hZ fX9_68 rfl rfl dX9_keeps_120 l3 ?_
        refine g_iconst hZ dX9_keeps_123 ?_
        refine g_iadd hZ dX9_keeps_124 ?_
        refine g_puti hZ fX9_68 rfl rfl dX9_keeps_125 ?_
        refine g_vret hZ dX9_keeps_128 rfl ⟨rfl, (he.tr (he₃.mono rfl)).up rfl, ?_⟩
        rw [← hp]
        refine ⟨?_, by rw [List.length_append]; simp; omega, fun i e hi => ?_⟩
        · rw [upS_eq, List.length_append]; simp
        · have e9 : ∀ j, upS S₃ 52 0 ((gs.length : Int) + 1) 63 j = S₃ 63 j := fun j => upS_v _ _ (by decide)
          simp only [e9]
          have hil := (List.getElem?_eq_some_iff.mp hi).1
          rw [List.length_append] at hil
          have h1l : ([(w, h, S 61)] : List hEn).length = 1 := rfl
          by_cases q : i < gs.length
          · rw [List.getElem?_append_left q] at hi
            obtain ⟨a1, a2, a3⟩ := g3 i e hi
            refine ⟨(f1 _ (by omega)).trans a1, (f1 _ (by omega)).trans a2, fun k2 hk2 => (f1 _ (by omega)).trans (a3 k2 hk2)⟩
          · have : i = gs.length := by omega
            subst this
            rw [List.getElem?_append_right (Nat.le_refl _)] at hi
            simp at hi
            subst hi
            exact ⟨f2, f3, fun k2 hk2 => f4 k2 (by omega)⟩
      | succ m ih =>
        intro k S₃ hk he₃ f1 f2 f3 f4
        have l3 : S₃ 52 0 = (gs.length : Int) := (he₃ 52 0 rfl).trans g1
        have b3 : S₃ 61 k = S 61 k := (he₃ 61 k rfl).trans (he 61 k rfl)
        refine g_iload_n hZ dX9_keeps_84 rfl ?_
        refine g_bipush hZ (z := 15) dX9_keeps_85 rfl ?_
        refine g_icmp_ge hZ 118 dX9_keeps_87 rfl (by omega) (fun cX => absurd cX (by omega)) (fun _ => ?_)
        refine g_aload_n hZ dX9_keeps_90 rfl ?_
        refine g_getr hZ fX9_23 rfl rfl dX9_keeps_91 ?_
        refine g_bipush hZ (z := 17) dX9_keeps_94 rfl ?_
        refine g_aload_n hZ dX9_keeps_96 rfl ?_
        refine g_geti hZ fX9_68 rfl rfl dX9_keeps_97 l3 ?_
        refine g_imul hZ dX9_keeps_100 ?_
        refine g_iconst hZ dX9_keeps_101 ?_
        refine g_iadd hZ dX9_keeps_102 ?_
        refine g_iload_n hZ dX9_keeps_103 rfl ?_
        refine g_iadd hZ dX9_keeps_104 ?_
        refine g_aload_n hZ dX9_keeps_105 rfl ?_
        refine g_getr hZ fX9_16 rfl rfl dX9_keeps_106 ?_
        refine g_iload_n hZ dX9_keeps_109 rfl ?_
        refine g_iald hZ (k) rfl dX9_keeps_110 (rfl) (by omega) (by decide) (b3) ?_
        refine g_iast hZ ((17 * gs.length + 2 + k)) rfl dX9_keeps_111 (by omega) (by omega) (by decide) ?_
        refine g_iinc hZ dX9_keeps_112 rfl (by decide) ?_
        refine g_goto hZ 84 dX9_keeps_115 rfl ?_
        refine ih (k + 1) _ (by omega) (he₃.up rfl) (fun j hj => ?_) ?_ ?_ (fun i hi => ?_)
        · rw [upS_j _ _ (by omega)]; exact f1 j hj
        · rw [upS_j _ _ (by omega)]; exact f2
        · rw [upS_j _ _ (by omega)]; exact f3
        · by_cases q : i = k
          · subst q; rw [upS_eq]
          · rw [upS_j _ _ (by omega)]; exact f4 i (by omega)
    refine loop 15 0 _ (by omega) he₂ (fun j hj => ?_) ?_ ?_ (fun i hi => absurd hi (Nat.not_lt_zero i))
    · rw [upS_j _ _ (by omega), upS_j _ _ (by omega)]
    · rw [upS_j _ _ (by omega), upS_eq]
    · rw [upS_eq]
  refine g_aload_n hZ dX9_keeps_0 rfl ?_
  refine g_geti hZ fX9_68 rfl rfl dX9_keeps_1 hl1 ?_
  refine g_bipush hZ (z := 8) dX9_keeps_4 rfl ?_
  refine g_icmp_ne hZ 48 dX9_keeps_6 rfl (by omega) (fun c => ?_) (fun c => ?_)
  · refine tail S hs _ ⟨hl1, hl2, hl3⟩ (by omega) Eqx.rf ?_ rfl
    unfold hpush
    rw [if_neg (by omega)]
  · have loop : ∀ (m k : Nat), k + m = 119 → Z (setRow S 63 k (fun j => S 63 (17 + j))) [(0, .ref (gad E 27)), (1, iV (k : Int))] 11 [] := by
      intro m
      induction m with
      | zero =>
        intro k hk
        refine g_iload_n hZ dX9_keeps_11 rfl ?_
        refine g_bipush hZ (z := 119) dX9_keeps_12 rfl ?_
        refine g_icmp_ge hZ 38 dX9_keeps_14 rfl (by omega) (fun _ => ?_) (fun cX => absurd (by omega) cX)
        refine g_aload_n hZ dX9_keeps_38 rfl ?_
        refine g_dup hZ dX9_keeps_39 rfl ?_
        refine g_geti hZ fX9_68 rfl rfl dX9_keeps_40 hl1 ?_
        refine g_iconst hZ dX9_keeps_43 ?_
        refine g_isub hZ dX9_keeps_44 ?_
        refine g_puti hZ fX9_68 rfl rfl dX9_keeps_45 ?_
        refine tail _ hs.tail _ ⟨?_, by rw [List.length_tail]; omega, fun i e hi => ?_⟩ (by rw [List.length_tail]; omega) ((Eqx.rf.row rfl).up rfl) ?_ rfl
        · rw [upS_eq, List.length_tail]; omega
        · rw [List.getElem?_tail] at hi
          obtain ⟨a1, a2, a3⟩ := hl3 (i + 1) e hi
          have hil := (List.getElem?_eq_some_iff.mp hi).1
          have e9 : ∀ j, j < k → upS (setRow S 63 k (fun j => S 63 (17 + j))) 52 0 ((hs.length : Int) - 1) 63 j = S 63 (17 + j) := fun j hj => by rw [upS_v _ _ (by decide), setRow_in _ _ hj]
          refine ⟨?_, ?_, fun k2 hk2 => ?_⟩
          · rw [e9 _ (by omega), ← a1]; congr 1; omega
          · rw [e9 _ (by omega), ← a2]; congr 1; omega
          · rw [e9 _ (by omega), ← a3 k2 hk2]; congr 1; omega
        · unfold hpush
          rw [if_pos (by omega)]
      | succ m ih =>
        intro k hk
        refine g_iload_n hZ dX9_keeps_11 rfl ?_
        refine g_bipush hZ (z := 119) dX9_keeps_12 rfl ?_
        refine g_icmp_ge hZ 38 dX9_keeps_14 rfl (by omega) (fun cX => absurd cX (by omega)) (fun _ => ?_)
        refine g_aload_n hZ dX9_keeps_17 rfl ?_
        refine g_getr hZ fX9_23 rfl rfl dX9_keeps_18 ?_
        refine g_iload_n hZ dX9_keeps_21 rfl ?_
        refine g_aload_n hZ dX9_keeps_22 rfl ?_
        refine g_getr hZ fX9_23 rfl rfl dX9_keeps_23 ?_
        refine g_bipush hZ (z := 17) dX9_keeps_26 rfl ?_
        refine g_iload_n hZ dX9_keeps_28 rfl ?_
        refine g_iadd hZ dX9_keeps_29 ?_
        refine g_iald hZ ((17 + k)) rfl dX9_keeps_30 (rfl) (by omega) (by decide) ((setRow_j S (fun j => S 63 (17 + j)) (show k ≤ 17 + k by omega))) ?_
        refine g_iast hZ (k) rfl dX9_keeps_31 (rfl) (by omega) (by decide) ?_
        refine g_iinc hZ dX9_keeps_32 rfl (by decide) ?_
        refine g_goto hZ 11 dX9_keeps_35 rfl ?_
        have e1 := setRow_succ S 63 k (fun j => S 63 (17 + j))
        refine g_state hZ e1 ?_
        exact ih (k + 1) (by omega)
    refine g_iconst hZ dX9_keeps_9 ?_
    refine g_istore_n hZ dX9_keeps_10 (by decide) ?_
    have := loop 119 0 (by omega)
    rw [setRow_0] at this
    exact this
end
section
/-! the reference: the board's calls -/
def aSet (n : Nat) (B : Nat → Int) (f v : Int) : Int := if 0 ≤ f ∧ f < n ∧ 0 ≤ v ∧ v ≤ 3 then (if (v = 1 ∨ v = 2) ∧ B f.toNat ≠ v ∧ cntZ B v n = 3 then -1003 else B f.toNat) else -1001
def upB (B : Nat → Int) (f : Nat) (v : Int) : Nat → Int := fun j => if j = f then v else B j
theorem upS_61 (S : gS) (v f : Nat) (z : Int) : upS S v f z v = upB (S v) f z := by
  funext j
  rw [upS_if]
  unfold upB
  by_cases q : j = f
  · rw [if_pos ⟨rfl, q⟩, if_pos q]
  · rw [if_neg (fun e => q e.2), if_neg q]
theorem t_X9_setField (E : gE) (S : gS) (w h n : Nat) (hg : mG S w h n) (hB : mBd (S 61) n) (hs : List hEn) (hh : mHs S hs) (f v : Int) (hf : R32 f) (hv : R32 v) : Ct E LAY mX9_setField [.ref (gad E 27), iV f, iV v] S (fun r S' => r = some (iV (aSet n (S 61) f v)) ∧ (aSet n (S 61) f v < 0 → S = S') ∧ (0 ≤ aSet n (S 61) f v → Eqx [52, 61, 63] S S' ∧ S' 61 = upB (S 61) f.toNat v ∧ mHs S' (hpush hs (w, h, S 61)))) := by
  have hn := hg.n15
  refine Ct.intro LAY_ok (by decide +kernel) (Nat.le_of_ble_eq_true rfl) rfl ?_
  intro Z hZ
  refine g_aload_n hZ dX9_setField_0 rfl ?_
  refine g_iload_n hZ dX9_setField_1 rfl ?_
  refine g_iload_n hZ dX9_setField_2 rfl ?_
  refine g_callV hZ (t_X9_inWay E S w h n hg hB f v hf hv) kX9_88 ⟨by decide, by decide⟩ rfl rfl rfl rfl (Nat.le_of_ble_eq_true rfl) dX9_setField_3 ?_
  rintro _ _ ⟨rfl, z, rfl, hz⟩
  have hz2 : (z < 0 ∧ aSet n (S 61) f v = z) ∨ (z = 0 ∧ (0 ≤ f ∧ f < n ∧ 0 ≤ v ∧ v ≤ 3) ∧ aSet n (S 61) f v = S 61 f.toNat) := by
    unfold aSet
    rcases hz with ⟨a1, a2⟩ | ⟨a1, a2, a3⟩ | ⟨a1, a2, a3⟩
    · exact Or.inl ⟨by omega, by rw [if_neg a1, a2]⟩
    · exact Or.inl ⟨by omega, by rw [if_pos a1, if_pos a2, a3]⟩
    · exact Or.inr ⟨by omega, a1, by rw [if_pos a1, if_neg a2]⟩
  have hzr : R32 z := by omega
  refine g_istore_n hZ dX9_setField_6 (by decide) ?_
  refine g_iload_n hZ dX9_setField_7 rfl ?_
  refine g_if_ge hZ 13 dX9_setField_8 rfl (by omega) (fun c => ?_) (fun c => ?_)
  · have hz3 := hz2.resolve_left (by omega)
    have hBf := hB f.toNat (by omega)
    have e1 : f = ((f.toNat : Nat) : Int) := (Int.toNat_of_nonneg hz3.2.1.1).symm
    refine g_aload_n hZ dX9_setField_13 rfl ?_
    refine g_callV hZ (t_X9_keeps E S w h n hg hs hh) kX9_71 ⟨by decide, by decide⟩ rfl rfl rfl rfl (Nat.le_of_ble_eq_true rfl) dX9_setField_14 ?_
    rintro _ S₁ ⟨rfl, he₁, hh₁⟩
    refine g_aload_n hZ dX9_setField_17 rfl ?_
    refine g_iload_n hZ dX9_setField_18 rfl ?_
    refine g_iload_n hZ dX9_setField_19 rfl ?_
    refine g_callV hZ (As := [iV f, iV v]) (by rw [e1]; exact t_X9_puts E S₁ f.toNat v (by omega)) kX9_92 ⟨by decide, by decide⟩ rfl rfl rfl rfl (Nat.le_of_ble_eq_true rfl) dX9_setField_20 ?_
    rintro _ _ ⟨rfl, rfl⟩
    refine g_iret hZ dX9_setField_23 rfl ⟨?_, fun q => ?_, fun _ => ⟨(he₁.mono rfl).up rfl, ?_, hh₁.x (Eqx.rf.up (vs := [61]) rfl) rfl rfl⟩⟩
    · rw [hz3.2.2]; exact congrArg (fun z => some (iV z)) (he₁ 61 _ rfl)
    · omega
    · rw [upS_61, show S₁ 61 = S 61 from funext fun j => he₁ 61 j rfl]
  · have hz3 := hz2.resolve_right (by omega)
    refine g_iload_n hZ dX9_setField_11 rfl ?_
    refine g_iret hZ dX9_setField_12 rfl ⟨by rw [hz3.2], fun _ => rfl, fun q => by omega⟩
theorem t_X9_field (E : gE) (S : gS) (w h n : Nat) (hg : mG S w h n) (f : Int) (hf : R32 f) : Ct E LAY mX9_field [.ref (gad E 27), iV f] S (fun r S' => S = S' ∧ r = some (iV (if 0 ≤ f ∧ f < n then S 61 f.toNat else -1001))) := by
  have hn := hg.n15
  refine Ct.intro LAY_ok (by decide +kernel) (Nat.le_of_ble_eq_true rfl) rfl ?_
  intro Z hZ
  refine g_aload_n hZ dX9_field_0 rfl ?_
  refine g_iload_n hZ dX9_field_1 rfl ?_
  refine g_callV hZ (t_X9_isField E S w h n hg f hf) kX9_77 ⟨by decide, by decide⟩ rfl rfl rfl rfl (Nat.le_of_ble_eq_true rfl) dX9_field_2 ?_
  rintro _ _ ⟨rfl, z1, rfl, hz1⟩
  rcases hz1 with ⟨rfl, hz1⟩ | ⟨rfl, hz1⟩
  · refine g_if_eq hZ 17 dX9_field_5 rfl (by omega) (fun cX => absurd cX (by omega)) (fun _ => ?_)
    refine g_aload_n hZ dX9_field_8 rfl ?_
    refine g_getr hZ fX9_16 rfl rfl dX9_field_9 ?_
    refine g_iload_n hZ dX9_field_12 rfl ?_
    refine g_iald hZ (f.toNat) rfl dX9_field_13 ((Int.toNat_of_nonneg hz1.1).symm) (by omega) (by decide) (rfl) ?_
    refine g_goto hZ 20 dX9_field_14 rfl ?_
    refine g_iret hZ dX9_field_20 rfl ⟨rfl, by rw [if_pos hz1]⟩
  · refine g_if_eq hZ 17 dX9_field_5 rfl (by omega) (fun _ => ?_) (fun cX => absurd (by omega) cX)
    refine g_sipush hZ (z := (-1001)) dX9_field_17 rfl ?_
    refine g_iret hZ dX9_field_20 rfl ⟨rfl, by rw [if_neg hz1]⟩
theorem t_X9_count (E : gE) (S : gS) (w h n : Nat) (hg : mG S w h n) (hB : mBd (S 61) n) (v : Int) (hv : R32 v) : Ct E LAY mX9_count [.ref (gad E 27), iV v] S (fun r S' => S = S' ∧ r = some (iV (if 0 ≤ v ∧ v ≤ 3 then (cntZ (S 61) v n : Int) else -1001))) := by
  refine Ct.intro LAY_ok (by decide +kernel) (Nat.le_of_ble_eq_true rfl) rfl ?_
  intro Z hZ
  refine g_iload_n hZ dX9_count_0 rfl ?_
  refine g_iconst hZ dX9_count_1 ?_
  refine g_iconst hZ dX9_count_2 ?_
  refine g_callS hZ (t_X9_in E S v 0 3 hv (by omega) (by omega)) kX9_64 ⟨by decide, by decide⟩ rfl rfl (Nat.le_of_ble_eq_true rfl) dX9_count_3 ?_
  rintro _ _ ⟨rfl, z1, rfl, hz1⟩
  rcases hz1 with ⟨rfl, hz1⟩ | ⟨rfl, hz1⟩
  · refine g_if_eq hZ 17 dX9_count_6 rfl (by omega) (fun cX => absurd cX (by omega)) (fun _ => ?_)
    refine g_aload_n hZ dX9_count_9 rfl ?_
    refine g_iload_n hZ dX9_count_10 rfl ?_
    refine g_callV hZ (t_X9_counted E S w h n hg v hv hB) kX9_84 ⟨by decide, by decide⟩ rfl rfl rfl rfl (Nat.le_of_ble_eq_true rfl) dX9_count_11 ?_
    rintro _ _ ⟨rfl, rfl⟩
    refine g_goto hZ 20 dX9_count_14 rfl ?_
    refine g_iret hZ dX9_count_20 rfl ⟨rfl, by rw [if_pos hz1]⟩
  · refine g_if_eq hZ 17 dX9_count_6 rfl (by omega) (fun _ => ?_) (fun cX => absurd (by omega) cX)
    refine g_sipush hZ (z := (-1001)) dX9_count_17 rfl ?_
    refine g_iret hZ dX9_count_20 rfl ⟨rfl, by rw [if_neg hz1]⟩
def aMove (w n : Nat) (B : Nat → Int) (s a t u : Int) : Int := if (s = 1 ∨ s = 2) ∧ 0 ≤ a ∧ a < n ∧ 0 ≤ t ∧ t < n ∧ 0 ≤ u ∧ u < n then (if (a.toNat, t.toNat, u.toNat) ∈ mvs w n B s then ((mvs w n (aftB B (a.toNat, t.toNat, u.toNat) s) (3 - s)).length : Int) else -1002) else -1001
theorem t_X9_move (E : gE) (S : gS) (w h n : Nat) (hg : mG S w h n) (hB : mBd (S 61) n) (hc : mC3 (S 61) n) (hs : List hEn) (hh : mHs S hs) (s a t u : Int) (rs : R32 s) (ra : R32 a) (rt : R32 t) (ru : R32 u) : Ct E LAY mX9_move [.ref (gad E 27), iV s, iV a, iV t, iV u] S (fun r S' => r = some (iV (aMove w n (S 61) s a t u)) ∧ (aMove w n (S 61) s a t u < 0 → Eqx [55, 62, 66] S S') ∧ (0 ≤ aMove w n (S 61) s a t u → Eqx [52, 55, 61, 62, 63, 66] S S' ∧ S' 61 = aftB (S 61) (a.toNat, t.toNat, u.toNat) s ∧ mHs S' (hpush hs (w, h, S 61)))) := by
  have hn := hg.n15
  refine Ct.intro LAY_ok (by decide +kernel) (Nat.le_of_ble_eq_true rfl) rfl ?_
  intro Z hZ
  refine g_aload_n hZ dX9_move_0 rfl ?_
  refine g_iload_n hZ dX9_move_1 rfl ?_
  refine g_iload_n hZ dX9_move_2 rfl ?_
  refine g_iload_n hZ dX9_move_3 rfl ?_
  refine g_iload hZ dX9_move_4 rfl ?_
  refine g_callV hZ (t_X9_noMove E S w h n hg hB hc s a t u rs ra rt ru) kX9_112 ⟨by decide, by decide⟩ rfl rfl rfl rfl (Nat.le_of_ble_eq_true rfl) dX9_move_6 ?_
  rintro _ S₁ ⟨he₁, z, rfl, hz⟩
  have hz2 : (z < 0 ∧ aMove w n (S 61) s a t u = z) ∨ (z = 0 ∧ ((s = 1 ∨ s = 2) ∧ 0 ≤ a ∧ a < n ∧ 0 ≤ t ∧ t < n ∧ 0 ≤ u ∧ u < n) ∧ (a.toNat, t.toNat, u.toNat) ∈ mvs w n (S 61) s ∧ aMove w n (S 61) s a t u = ((mvs w n (aftB (S 61) (a.toNat, t.toNat, u.toNat) s) (3 - s)).length : Int)) := by
    unfold aMove
    rcases hz with ⟨a1, a2⟩ | ⟨a1, a2, a3⟩ | ⟨a1, a2, a3⟩
    · exact Or.inl ⟨by omega, by rw [if_neg a1, a2]⟩
    · exact Or.inr ⟨by omega, a1, a2, by rw [if_pos a1, if_pos a2]⟩
    · exact Or.inl ⟨by omega, by rw [if_pos a1, if_neg a2, a3]⟩
  have hzr : R32 z := by unfold mNo at hz; omega
  refine g_istore hZ dX9_move_9 (by decide) ?_
  refine g_iload hZ dX9_move_11 rfl ?_
  refine g_if_ge hZ 19 dX9_move_13 rfl (by omega) (fun c => ?_) (fun c => ?_)
  · obtain ⟨-, hv, hin, e9⟩ := hz2.resolve_left (by omega)
    have hg₁ := hg.x he₁ rfl rfl
    refine g_aload_n hZ dX9_move_19 rfl ?_
    refine g_callV hZ (t_X9_keeps E S₁ w h n hg₁ hs (hh.x he₁ rfl rfl)) kX9_71 ⟨by decide, by decide⟩ rfl rfl rfl rfl (Nat.le_of_ble_eq_true rfl) dX9_move_20 ?_
    rintro _ S₂ ⟨rfl, he₂, hh₂⟩
    have e61 : S₂ 61 = S 61 := funext fun j => (he₂ 61 j rfl).trans (he₁ 61 j rfl)
    have e61' : S₁ 61 = S 61 := funext fun j => he₁ 61 j rfl
    have hg₂ := hg₁.x he₂ rfl rfl
    have ea : a = ((a.toNat : Nat) : Int) := by omega
    have et : t = ((t.toNat : Nat) : Int) := by omega
    have eu : u = ((u.toNat : Nat) : Int) := by omega
    refine g_aload_n hZ dX9_move_23 rfl ?_
    refine g_iload_n hZ dX9_move_24 rfl ?_
    refine g_iload_n hZ dX9_move_25 rfl ?_
    refine g_iload_n hZ dX9_move_26 rfl ?_
    refine g_iload hZ dX9_move_27 rfl ?_
    refine g_callV hZ (As := [iV s, iV a, iV t, iV u]) (by have := t_X9_goes E S₂ w h n hg₂ (by rw [e61]; exact hB) (by rw [e61]; exact hc) s hv.1 (a.toNat, t.toNat, u.toNat) (by rw [e61]; exact hin); rw [← ea, ← et, ← eu] at this; exact this) kX9_116 ⟨by decide, by decide⟩ rfl rfl rfl rfl (Nat.le_of_ble_eq_true rfl) dX9_move_29 ?_
    rintro _ S₃ ⟨rfl, he₃, h61⟩
    rw [e61] at h61
    refine g_iret hZ dX9_move_32 rfl ⟨by rw [e9, e61], fun q => by omega, fun _ => ⟨((he₁.mono rfl).tr (he₂.mono rfl)).tr (he₃.mono rfl), h61, ?_⟩⟩
    rw [e61'] at hh₂
    exact hh₂.x he₃ rfl rfl
  · have hz3 := hz2.resolve_right (by omega)
    refine g_iload hZ dX9_move_16 rfl ?_
    refine g_iret hZ dX9_move_18 rfl ⟨by rw [hz3.2], fun _ => he₁, fun q => by omega⟩
theorem t_X9_moves (E : gE) (S : gS) (w h n : Nat) (hg : mG S w h n) (hB : mBd (S 61) n) (hc : mC3 (S 61) n) (s : Int) (rs : R32 s) : Ct E LAY mX9_moves [.ref (gad E 27), iV s] S (fun r S' => Eqx [55, 62, 66] S S' ∧ r = some (iV (if s = 1 ∨ s = 2 then ((mvs w n (S 61) s).length : Int) else -1001))) := by
  refine Ct.intro LAY_ok (by decide +kernel) (Nat.le_of_ble_eq_true rfl) rfl ?_
  intro Z hZ
  refine g_iload_n hZ dX9_moves_0 rfl ?_
  refine g_callS hZ (t_X9_isSide E S s rs) kX9_81 ⟨by decide, by decide⟩ rfl rfl (Nat.le_of_ble_eq_true rfl) dX9_moves_1 ?_
  rintro _ _ ⟨rfl, z1, rfl, hz1⟩
  rcases hz1 with ⟨rfl, hz1⟩ | ⟨rfl, hz1⟩
  · refine g_if_eq hZ 15 dX9_moves_4 rfl (by omega) (fun cX => absurd cX (by omega)) (fun _ => ?_)
    refine g_aload_n hZ dX9_moves_7 rfl ?_
    refine g_iload_n hZ dX9_moves_8 rfl ?_
    refine g_callV hZ (t_X9_movesNow E S w h n hg hB s hz1 (hc.s hz1)) kX9_109 ⟨by decide, by decide⟩ rfl rfl rfl rfl (Nat.le_of_ble_eq_true rfl) dX9_moves_9 ?_
    rintro _ S₁ ⟨rfl, hm₁, -⟩
    refine g_goto hZ 18 dX9_moves_12 rfl ?_
    refine g_iret hZ dX9_moves_18 rfl ⟨hm₁.1, by rw [if_pos hz1]⟩
  · refine g_if_eq hZ 15 dX9_moves_4 rfl (by omega) (fun _ => ?_) (fun cX => absurd (by omega) cX)
    refine g_sipush hZ (z := (-1001)) dX9_moves_15 rfl ?_
    refine g_iret hZ dX9_moves_18 rfl ⟨Eqx.rf, by rw [if_neg hz1]⟩
/-- what moveAt answers of a move -/
def mpart (q : Nat × Nat × Nat) (v : Int) : Int := if v = 0 then (q.1 : Int) else if v = 1 then (q.2.1 : Int) else (q.2.2 : Int)
def aMoveAt (w n : Nat) (B : Nat → Int) (s i v : Int) : Int := if (s = 1 ∨ s = 2) ∧ 0 ≤ i ∧ 0 ≤ v ∧ v ≤ 2 then (match (mvs w n B s)[i.toNat]? with | some q => mpart q v | none => -1005) else -1001
theorem t_X9_moveAt (E : gE) (S : gS) (w h n : Nat) (hg : mG S w h n) (hB : mBd (S 61) n) (hc : mC3 (S 61) n) (s i v : Int) (rs : R32 s) (ri : R32 i) (rv : R32 v) : Ct E LAY mX9_moveAt [.ref (gad E 27), iV s, iV i, iV v] S (fun r S' => Eqx [55, 62, 66] S S' ∧ r = some (iV (aMoveAt w n (S 61) s i v))) := by
  have hn := hg.n15
  refine Ct.intro LAY_ok (by decide +kernel) (Nat.le_of_ble_eq_true rfl) rfl ?_
  intro Z hZ
  have bad : ¬ ((s = 1 ∨ s = 2) ∧ 0 ≤ i ∧ 0 ≤ v ∧ v ≤ 2) → Z S [(0, .ref (gad E 27)), (1, iV s), (2, iV i), (3, iV v)] 20 [] := by
    intro hb
    refine g_sipush hZ (z := (-1001)) dX9_moveAt_20 rfl ?_
    refine g_iret hZ dX9_moveAt_23 rfl ⟨Eqx.rf, by unfold aMoveAt; rw [if_neg hb]⟩
  refine g_iload_n hZ dX9_moveAt_0 rfl ?_
  refine g_callS hZ (t_X9_isSide E S s rs) kX9_81 ⟨by decide, by decide⟩ rfl rfl (Nat.le_of_ble_eq_true rfl) dX9_moveAt_1 ?_
  rintro _ _ ⟨rfl, z1, rfl, hz1⟩
  rcases hz1 with ⟨rfl, hz1⟩ | ⟨rfl, hz1⟩
  · refine g_if_eq hZ 20 dX9_moveAt_4 rfl (by omega) (fun cX => absurd cX (by omega)) (fun _ => ?_)
    refine g_iload_n hZ dX9_moveAt_7 rfl ?_
    refine g_if_lt hZ 20 dX9_moveAt_8 rfl (by omega) (fun c1 => ?_) (fun c1 => ?_)
    · exact bad (by omega)
    · refine g_iload_n hZ dX9_moveAt_11 rfl ?_
      refine g_iconst hZ dX9_moveAt_12 ?_
      refine g_iconst hZ dX9_moveAt_13 ?_
      refine g_callS hZ (t_X9_in E S v 0 2 rv (by omega) (by omega)) kX9_64 ⟨by decide, by decide⟩ rfl rfl (Nat.le_of_ble_eq_true rfl) dX9_moveAt_14 ?_
      rintro _ _ ⟨rfl, z2, rfl, hz2⟩
      rcases hz2 with ⟨rfl, hz2⟩ | ⟨rfl, hz2⟩
      · refine g_if_ne hZ 24 dX9_moveAt_17 rfl (by omega) (fun _ => ?_) (fun cX => absurd cX (by omega))
        have hv : (s = 1 ∨ s = 2) ∧ 0 ≤ i ∧ 0 ≤ v ∧ v ≤ 2 := ⟨hz1, by omega, hz2.1, hz2.2⟩
        have hbnd := mvs_bound (w := w) (B := S 61) (s := s) hn (hc.s hz1)
        have hfx : ∀ q ∈ mvs w n (S 61) s, q.1 < n ∧ q.2.1 < n ∧ q.2.2 < n := fun q hq => ⟨(mvs_in hq).1, (mvs_in hq).2.1, (mvs_in hq).2.2.1⟩
        refine g_aload_n hZ dX9_moveAt_24 rfl ?_
        refine g_iload_n hZ dX9_moveAt_25 rfl ?_
        refine g_callV hZ (t_X9_movesNow E S w h n hg hB s hz1 (hc.s hz1)) kX9_109 ⟨by decide, by decide⟩ rfl rfl rfl rfl (Nat.le_of_ble_eq_true rfl) dX9_moveAt_26 ?_
        rintro _ S₁ ⟨rfl, hm₁, -⟩
        have hlen := hm₁.2.1
        refine g_pop hZ dX9_moveAt_29 rfl ?_
        refine g_iload_n hZ dX9_moveAt_30 rfl ?_
        refine g_aload_n hZ dX9_moveAt_31 rfl ?_
        refine g_geti hZ fX9_102 rfl rfl dX9_moveAt_32 hlen ?_
        refine g_icmp_lt hZ 42 dX9_moveAt_35 rfl (by omega) (fun c2 => ?_) (fun c2 => ?_)
        · obtain ⟨q, hq⟩ : ∃ q, (mvs w n (S 61) s)[i.toNat]? = some q := ⟨_, List.getElem?_eq_getElem (by omega)⟩
          have hans : aMoveAt w n (S 61) s i v = mpart q v := by unfold aMoveAt; rw [if_pos hv, hq]
          have hqn := hfx q (List.mem_of_getElem? hq)
          have hfk : S₁ 66 i.toNat = ((225 * q.1 + 15 * q.2.1 + q.2.2 : Nat) : Int) := by rw [hm₁.2.2 _ q hq]; unfold menc; omega
          have d1 : (225 * q.1 + 15 * q.2.1 + q.2.2) / 225 = q.1 := by omega
          have d2 : (225 * q.1 + 15 * q.2.1 + q.2.2) / 15 % 15 = q.2.1 := by omega
          have d3 : (225 * q.1 + 15 * q.2.1 + q.2.2) % 15 = q.2.2 := by omega
          refine g_iload_n hZ dX9_moveAt_42 rfl ?_
          refine g_if_ne hZ 59 dX9_moveAt_43 rfl (by omega) (fun c3 => ?_) (fun c3 => ?_)
          · refine g_iload_n hZ dX9_moveAt_59 rfl ?_
            refine g_iconst hZ dX9_moveAt_60 ?_
            refine g_icmp_ne hZ 79 dX9_moveAt_61 rfl (by omega) (fun c4 => ?_) (fun c4 => ?_)
            · refine g_aload_n hZ dX9_moveAt_79 rfl ?_
              refine g_getr hZ fX9_32 rfl rfl dX9_moveAt_80 ?_
              refine g_iload_n hZ dX9_moveAt_83 rfl ?_
              refine g_iald hZ (i.toNat) rfl dX9_moveAt_84 (by omega) (by omega) (by decide) (hfk) ?_
              refine g_bipush hZ (z := 15) dX9_moveAt_85 rfl ?_
              refine g_irem hZ (b := 15) dX9_moveAt_87 (by omega) (by omega) (by omega) ?_
              rw [d3]
              refine g_iret hZ dX9_moveAt_88 rfl ⟨hm₁.1, by rw [hans]; unfold mpart; rw [if_neg c3, if_neg c4]⟩
            · refine g_aload_n hZ dX9_moveAt_64 rfl ?_
              refine g_getr hZ fX9_32 rfl rfl dX9_moveAt_65 ?_
              refine g_iload_n hZ dX9_moveAt_68 rfl ?_
              refine g_iald hZ (i.toNat) rfl dX9_moveAt_69 (by omega) (by omega) (by decide) (hfk) ?_
              refine g_bipush hZ (z := 15) dX9_moveAt_70 rfl ?_
              refine g_idiv hZ (b := 15) dX9_moveAt_72 (by omega) (by omega) (by omega) ?_
              refine g_bipush hZ (z := 15) dX9_moveAt_73 rfl ?_
              refine g_irem hZ (b := 15) dX9_moveAt_75 (by omega) (by omega) (by omega) ?_
              rw [d2]
              refine g_goto hZ 88 dX9_moveAt_76 rfl ?_
              refine g_iret hZ dX9_moveAt_88 rfl ⟨hm₁.1, by rw [hans]; unfold mpart; rw [if_neg c3, if_pos c4]⟩
          · refine g_aload_n hZ dX9_moveAt_46 rfl ?_
            refine g_getr hZ fX9_32 rfl rfl dX9_moveAt_47 ?_
            refine g_iload_n hZ dX9_moveAt_50 rfl ?_
            refine g_iald hZ (i.toNat) rfl dX9_moveAt_51 (by omega) (by omega) (by decide) (hfk) ?_
            refine g_sipush hZ (z := 225) dX9_moveAt_52 rfl ?_
            refine g_idiv hZ (b := 225) dX9_moveAt_55 (by omega) (by omega) (by omega) ?_
            rw [d1]
            refine g_goto hZ 88 dX9_moveAt_56 rfl ?_
            refine g_iret hZ dX9_moveAt_88 rfl ⟨hm₁.1, by rw [hans]; unfold mpart; rw [if_pos c3]⟩
        · have hnone : (mvs w n (S 61) s)[i.toNat]? = none := List.getElem?_eq_none (by omega)
          refine g_sipush hZ (z := (-1005)) dX9_moveAt_38 rfl ?_
          refine g_iret hZ dX9_moveAt_41 rfl ⟨hm₁.1, by unfold aMoveAt; rw [if_pos hv, hnone]⟩
      · refine g_if_ne hZ 24 dX9_moveAt_17 rfl (by omega) (fun cX => absurd (by omega) cX) (fun _ => ?_)
        exact bad (by omega)
  · refine g_if_eq hZ 20 dX9_moveAt_4 rfl (by omega) (fun _ => ?_) (fun cX => absurd (by omega) cX)
    exact bad (by omega)
def aReset (w h : Nat) (W H : Int) : Int := if 1 ≤ W ∧ W ≤ 5 ∧ 1 ≤ H ∧ H ≤ 5 ∧ W * H ≤ 15 then 10 * (w : Int) + h else -1001
theorem t_X9_reset (E : gE) (S : gS) (w h n : Nat) (hg : mG S w h n) (hs : List hEn) (hh : mHs S hs) (W H : Int) (hW : R32 W) (hH : R32 H) : Ct E LAY mX9_reset [.ref (gad E 27), iV W, iV H] S (fun r S' => r = some (iV (aReset w h W H)) ∧ (aReset w h W H < 0 → S = S') ∧ (0 ≤ aReset w h W H → Eqx [50, 51, 52, 53, 61, 63] S S' ∧ S' 50 0 = W ∧ S' 51 0 = H ∧ S' 53 0 = 0 ∧ (S' 61 = fun k => if k < 15 then 0 else S 61 k) ∧ mHs S' (hpush hs (w, h, S 61)) ∧ gOK W.toNat H.toNat (W.toNat * H.toNat))) := by
  have hn := hg.n15
  obtain ⟨hw, hh1, ow⟩ := hg
  obtain ⟨o1, o2, o3, o4, -, -⟩ := id ow
  refine Ct.intro LAY_ok (by decide +kernel) (Nat.le_of_ble_eq_true rfl) rfl ?_
  intro Z hZ
  have bad : ¬ (1 ≤ W ∧ W ≤ 5 ∧ 1 ≤ H ∧ H ≤ 5 ∧ W * H ≤ 15) → Z S [(0, .ref (gad E 27)), (1, iV W), (2, iV H)] 26 [] := by
    intro hb
    have e9 : aReset w h W H = -1001 := by unfold aReset; rw [if_neg hb]
    refine g_sipush hZ (z := (-1001)) dX9_reset_26 rfl ?_
    refine g_iret hZ dX9_reset_29 rfl ⟨by rw [e9], fun _ => rfl, fun q => by omega⟩
  refine g_iload_n hZ dX9_reset_0 rfl ?_
  refine g_iconst hZ dX9_reset_1 ?_
  refine g_iconst hZ dX9_reset_2 ?_
  refine g_callS hZ (t_X9_in E S W 1 5 hW (by omega) (by omega)) kX9_64 ⟨by decide, by decide⟩ rfl rfl (Nat.le_of_ble_eq_true rfl) dX9_reset_3 ?_
  rintro _ _ ⟨rfl, z1, rfl, hz1⟩
  rcases hz1 with ⟨rfl, hz1⟩ | ⟨rfl, hz1⟩
  · refine g_if_eq hZ 26 dX9_reset_6 rfl (by omega) (fun cX => absurd cX (by omega)) (fun _ => ?_)
    refine g_iload_n hZ dX9_reset_9 rfl ?_
    refine g_iconst hZ dX9_reset_10 ?_
    refine g_iconst hZ dX9_reset_11 ?_
    refine g_callS hZ (t_X9_in E S H 1 5 hH (by omega) (by omega)) kX9_64 ⟨by decide, by decide⟩ rfl rfl (Nat.le_of_ble_eq_true rfl) dX9_reset_12 ?_
    rintro _ _ ⟨rfl, z2, rfl, hz2⟩
    rcases hz2 with ⟨rfl, hz2⟩ | ⟨rfl, hz2⟩
    · refine g_if_eq hZ 26 dX9_reset_15 rfl (by omega) (fun cX => absurd cX (by omega)) (fun _ => ?_)
      have hm1 : W * H ≤ 5 * 5 := Int.mul_le_mul hz1.2 hz2.2 (by omega) (by omega)
      have hm0 : 0 ≤ W * H := Int.mul_nonneg (by omega) (by omega)
      refine g_iload_n hZ dX9_reset_18 rfl ?_
      refine g_iload_n hZ dX9_reset_19 rfl ?_
      refine g_imul hZ dX9_reset_20 ?_
      refine g_bipush hZ (z := 15) dX9_reset_21 rfl ?_
      refine g_icmp_le hZ 30 dX9_reset_23 rfl (by omega) (fun c => ?_) (fun c => ?_)
      · have hall : 1 ≤ W ∧ W ≤ 5 ∧ 1 ≤ H ∧ H ≤ 5 ∧ W * H ≤ 15 := ⟨hz1.1, hz1.2, hz2.1, hz2.2, c⟩
        have e9 : aReset w h W H = 10 * (w : Int) + h := by unfold aReset; rw [if_pos hall]
        refine g_aload_n hZ dX9_reset_30 rfl ?_
        refine g_callV hZ (t_X9_keeps E S w h n ⟨hw, hh1, ow⟩ hs hh) kX9_71 ⟨by decide, by decide⟩ rfl rfl rfl rfl (Nat.le_of_ble_eq_true rfl) dX9_reset_31 ?_
        rintro _ S₁ ⟨rfl, he₁, hh₁⟩
        refine g_bipush hZ (z := 10) dX9_reset_34 rfl ?_
        refine g_aload_n hZ dX9_reset_36 rfl ?_
        refine g_geti hZ fX9_7 rfl rfl dX9_reset_37 ((he₁ 50 0 rfl).trans hw) ?_
        refine g_imul hZ dX9_reset_40 ?_
        refine g_aload_n hZ dX9_reset_41 rfl ?_
        refine g_geti hZ fX9_13 rfl rfl dX9_reset_42 ((he₁ 51 0 rfl).trans hh1) ?_
        refine g_iadd hZ dX9_reset_45 ?_
        refine g_istore_n hZ dX9_reset_46 (by decide) ?_
        refine g_aload_n hZ dX9_reset_47 rfl ?_
        refine g_iload_n hZ dX9_reset_48 rfl ?_
        refine g_puti hZ fX9_7 rfl rfl dX9_reset_49 ?_
        refine g_aload_n hZ dX9_reset_52 rfl ?_
        refine g_iload_n hZ dX9_reset_53 rfl ?_
        refine g_puti hZ fX9_13 rfl rfl dX9_reset_54 ?_
        refine g_iconst hZ dX9_reset_57 ?_
        refine g_istore hZ dX9_reset_58 (by decide) ?_
        have e61 : S₁ 61 = S 61 := funext fun j => he₁ 61 j rfl
        have loop : ∀ (m k : Nat), k + m = 15 → Z (setRow (upS (upS S₁ 50 0 W) 51 0 H) 61 k (fun _ => 0)) [(0, .ref (gad E 27)), (1, iV W), (2, iV H), (3, iV (10 * (w : Int) + h)), (4, iV (k : Int))] 60 [] := by
          intro m
          induction m with
          | zero =>
            intro k hk
            have : k = 15 := by omega
            subst this
            refine g_iload hZ dX9_reset_60 rfl ?_
            refine g_bipush hZ (z := 15) dX9_reset_62 rfl ?_
            refine g_icmp_ge hZ 81 dX9_reset_64 rfl (by omega) (fun _ => ?_) (fun cX => absurd (by omega) cX)
            refine g_aload_n hZ dX9_reset_81 rfl ?_
            refine g_iconst hZ dX9_reset_82 ?_
            refine g_puti hZ fX9_74 rfl rfl dX9_reset_83 ?_
            refine g_iload_n hZ dX9_reset_86 rfl ?_
            refine g_iret hZ dX9_reset_87 rfl ⟨by rw [e9], fun q => by omega, fun _ => ⟨((((he₁.mono rfl).up rfl).up rfl).row rfl).up rfl, rfl, rfl, rfl, ?_, ?_, ?_⟩⟩
            · funext k
              rw [upS_v _ _ (by decide)]
              by_cases q : k < 15
              · rw [setRow_in _ _ q, if_pos q]
              · rw [setRow_j _ _ (by omega), if_neg q, upS_v _ _ (by decide), upS_v _ _ (by decide), e61]
            · exact hh₁.x ((((Eqx.rf (vs := [50, 51, 53, 61])).up rfl).up rfl).row rfl |>.up rfl) rfl rfl
            · refine ⟨by omega, by omega, by omega, by omega, rfl, ?_⟩
              have : ((W.toNat * H.toNat : Nat) : Int) = W * H := by rw [Int.natCast_mul, Int.toNat_of_nonneg (by omega), Int.toNat_of_nonneg (by omega)]
              omega
          | succ m ih =>
            intro k hk
            refine g_iload hZ dX9_reset_60 rfl ?_
            refine g_bipush hZ (z := 15) dX9_reset_62 rfl ?_
            refine g_icmp_ge hZ 81 dX9_reset_64 rfl (by omega) (fun cX => absurd cX (by omega)) (fun _ => ?_)
            refine g_aload_n hZ dX9_reset_67 rfl ?_
            refine g_getr hZ fX9_16 rfl rfl dX9_reset_68 ?_
            refine g_iload hZ dX9_reset_71 rfl ?_
            refine g_iconst hZ dX9_reset_73 ?_
            refine g_iast hZ (k) rfl dX9_reset_74 (rfl) (by omega) (by decide) ?_
            refine g_iinc hZ dX9_reset_75 rfl (by decide) ?_
            refine g_goto hZ 60 dX9_reset_78 rfl ?_
            have e1 := setRow_succ (upS (upS S₁ 50 0 W) 51 0 H) 61 k (fun _ => 0)
            refine g_state hZ e1 ?_
            exact ih (k + 1) (by omega)
        have := loop 15 0 (by omega)
        rw [setRow_0] at this
        exact this
      · exact bad (fun q => c q.2.2.2.2)
    · refine g_if_eq hZ 26 dX9_reset_15 rfl (by omega) (fun _ => ?_) (fun cX => absurd (by omega) cX)
      exact bad (by omega)
  · refine g_if_eq hZ 26 dX9_reset_6 rfl (by omega) (fun _ => ?_) (fun cX => absurd (by omega) cX)
    exact bad (by omega)
theorem t_X9_undo (E : gE) (S : gS) (w h n : Nat) (hg : mG S w h n) (hs : List hEn) (hh : mHs S hs) (hv : ∀ e ∈ hs, e.1 ≤ 5 ∧ e.2.1 ≤ 5) (hk0 : R32 (S 53 0)) : Ct E LAY mX9_undo [.ref (gad E 27)] S (fun r S' => (hs = [] ∧ r = some (iV (-1002)) ∧ S = S') ∨ (∃ gs e, hs = gs ++ [e] ∧ r = some (iV (gs.length : Int)) ∧ Eqx [50, 51, 52, 53, 61] S S' ∧ S' 50 0 = e.1 ∧ S' 51 0 = e.2.1 ∧ S' 53 0 = (if e.1 = w ∧ e.2.1 = h then S 53 0 else 0) ∧ (S' 61 = fun k => if k < 15 then e.2.2 k else S 61 k) ∧ mHs S' gs)) := by
  have hn := hg.n15
  obtain ⟨hw, hh1, o1, o2, o3, o4, -⟩ := hg
  obtain ⟨g1, g2, g3⟩ := id hh
  refine Ct.intro LAY_ok (by decide +kernel) (Nat.le_of_ble_eq_true rfl) rfl ?_
  intro Z hZ
  refine g_aload_n hZ dX9_undo_0 rfl ?_
  refine g_geti hZ fX9_68 rfl rfl dX9_undo_1 g1 ?_
  refine g_if_ne hZ 11 dX9_undo_4 rfl (by omega) (fun c => ?_) (fun c => ?_)
  · obtain ⟨gs, e, rfl⟩ : ∃ gs e, hs = gs ++ [e] := ⟨hs.dropLast, hs.getLast (fun q => by rw [q] at c; simp at c), (List.dropLast_concat_getLast _).symm⟩
    have hl9 : (gs ++ [e]).length = gs.length + 1 := by simp
    obtain ⟨a1, a2, a3⟩ := g3 gs.length e (by rw [List.getElem?_append_right (Nat.le_refl _)]; simp)
    have hve := hv e (by simp)
    have e8 : (((gs ++ [e]).length : Nat) : Int) - 1 = (gs.length : Int) := by omega
    refine g_aload_n hZ dX9_undo_11 rfl ?_
    refine g_dup hZ dX9_undo_12 rfl ?_
    refine g_geti hZ fX9_68 rfl rfl dX9_undo_13 g1 ?_
    refine g_iconst hZ dX9_undo_16 ?_
    refine g_isub hZ dX9_undo_17 ?_
    rw [e8]
    refine g_puti hZ fX9_68 rfl rfl dX9_undo_18 ?_
    refine g_bipush hZ (z := 17) dX9_undo_21 rfl ?_
    refine g_aload_n hZ dX9_undo_23 rfl ?_
    refine g_geti hZ fX9_68 rfl rfl dX9_undo_24 (upS_eq _ _ _ _) ?_
    refine g_imul hZ dX9_undo_27 ?_
    refine g_istore_n hZ dX9_undo_28 (by decide) ?_
    refine g_aload_n hZ dX9_undo_29 rfl ?_
    refine g_aload_n hZ dX9_undo_30 rfl ?_
    refine g_getr hZ fX9_23 rfl rfl dX9_undo_31 ?_
    refine g_iload_n hZ dX9_undo_34 rfl ?_
    refine g_iald hZ ((17 * gs.length)) rfl dX9_undo_35 (by omega) (by omega) (by decide) (a1) ?_
    refine g_aload_n hZ dX9_undo_36 rfl ?_
    refine g_geti hZ fX9_7 rfl rfl dX9_undo_37 hw ?_
    have hrest : ∀ (kz : Int), kz = (if e.1 = w ∧ e.2.1 = h then S 53 0 else 0) → Z (upS S 52 0 (gs.length : Int)) [(0, .ref (gad E 27)), (1, iV (17 * (gs.length : Int)))] 66 [iV kz, .ref (gad E 27)] := by
      intro kz hkz
      refine g_puti hZ fX9_74 rfl rfl dX9_undo_66 ?_
      refine g_aload_n hZ dX9_undo_69 rfl ?_
      refine g_aload_n hZ dX9_undo_70 rfl ?_
      refine g_getr hZ fX9_23 rfl rfl dX9_undo_71 ?_
      refine g_iload_n hZ dX9_undo_74 rfl ?_
      refine g_iald hZ ((17 * gs.length)) rfl dX9_undo_75 (by omega) (by omega) (by decide) (a1) ?_
      refine g_puti hZ fX9_7 rfl rfl dX9_undo_76 ?_
      refine g_aload_n hZ dX9_undo_79 rfl ?_
      refine g_aload_n hZ dX9_undo_80 rfl ?_
      refine g_getr hZ fX9_23 rfl rfl dX9_undo_81 ?_
      refine g_iload_n hZ dX9_undo_84 rfl ?_
      refine g_iconst hZ dX9_undo_85 ?_
      refine g_iadd hZ dX9_undo_86 ?_
      refine g_iald hZ ((17 * gs.length + 1)) rfl dX9_undo_87 (by omega) (by omega) (by decide) (a2) ?_
      refine g_puti hZ fX9_13 rfl rfl dX9_undo_88 ?_
      refine g_iconst hZ dX9_undo_91 ?_
      refine g_istore_n hZ dX9_undo_92 (by decide) ?_
      have loop : ∀ (m k : Nat), k + m = 15 → Z (setRow (upS (upS (upS (upS S 52 0 (gs.length : Int)) 53 0 kz) 50 0 (e.1 : Int)) 51 0 (e.2.1 : Int)) 61 k e.2.2) [(0, .ref (gad E 27)), (1, iV (17 * (gs.length : Int))), (2, iV (k : Int))] 93 [] := by
        intro m
        induction m with
        | zero =>
          intro k hk
          have : k = 15 := by omega
          subst this
          refine g_iload_n hZ dX9_undo_93 rfl ?_
          refine g_bipush hZ (z := 15) dX9_undo_94 rfl ?_
          refine g_icmp_ge hZ 121 dX9_undo_96 rfl (by omega) (fun _ => ?_) (fun cX => absurd (by omega) cX)
          refine g_aload_n hZ dX9_undo_121 rfl ?_
          refine g_geti hZ fX9_68 rfl rfl dX9_undo_122 rfl ?_
          refine g_iret hZ dX9_undo_125 rfl (Or.inr ⟨gs, e, rfl, rfl, ((((Eqx.rf.up rfl).up rfl).up rfl).up rfl).row rfl, rfl, rfl, hkz, ?_, rfl, by omega, fun i e2 hi => ?_⟩)
          · funext k
            by_cases q : k < 15
            · rw [setRow_in _ _ q, if_pos q]
            · rw [setRow_j _ _ (by omega), if_neg q]; rfl
          · exact g3 i e2 (by rw [List.getElem?_append_left (List.getElem?_eq_some_iff.mp hi).1]; exact hi)
        | succ m ih =>
          intro k hk
          refine g_iload_n hZ dX9_undo_93 rfl ?_
          refine g_bipush hZ (z := 15) dX9_undo_94 rfl ?_
          refine g_icmp_ge hZ 121 dX9_undo_96 rfl (by omega) (fun cX => absurd cX (by omega)) (fun _ => ?_)
          refine g_aload_n hZ dX9_undo_99 rfl ?_
          refine g_getr hZ fX9_16 rfl rfl dX9_undo_100 ?_
          refine g_iload_n hZ dX9_undo_103 rfl ?_
          refine g_aload_n hZ dX9_undo_104 rfl ?_
          refine g_getr hZ fX9_23 rfl rfl dX9_undo_105 ?_
          refine g_iload_n hZ dX9_undo_108 rfl ?_
          refine g_iconst hZ dX9_undo_109 ?_
          refine g_iadd hZ dX9_undo_110 ?_
          refine g_iload_n hZ dX9_undo_111 rfl ?_
          refine g_iadd hZ dX9_undo_112 ?_
          refine g_iald hZ ((17 * gs.length + 2 + k)) rfl dX9_undo_113 (by omega) (by omega) (by decide) ((a3 k (by omega))) ?_
          refine g_iast hZ (k) rfl dX9_undo_114 (rfl) (by omega) (by decide) ?_
          refine g_iinc hZ dX9_undo_115 rfl (by decide) ?_
          refine g_goto hZ 93 dX9_undo_118 rfl ?_
          have e1 := setRow_succ (upS (upS (upS (upS S 52 0 (gs.length : Int)) 53 0 kz) 50 0 (e.1 : Int)) 51 0 (e.2.1 : Int)) 61 k e.2.2
          refine g_state hZ e1 ?_
          exact ih (k + 1) (by omega)
      have := loop 15 0 (by omega)
      rw [setRow_0] at this
      exact this
    refine g_icmp_ne hZ 65 dX9_undo_40 rfl (by omega) (fun c2 => ?_) (fun c2 => ?_)
    · refine g_iconst hZ dX9_undo_65 ?_
      exact hrest 0 (by rw [if_neg (by omega)])
    · refine g_aload_n hZ dX9_undo_43 rfl ?_
      refine g_getr hZ fX9_23 rfl rfl dX9_undo_44 ?_
      refine g_iload_n hZ dX9_undo_47 rfl ?_
      refine g_iconst hZ dX9_undo_48 ?_
      refine g_iadd hZ dX9_undo_49 ?_
      refine g_iald hZ ((17 * gs.length + 1)) rfl dX9_undo_50 (by omega) (by omega) (by decide) (a2) ?_
      refine g_aload_n hZ dX9_undo_51 rfl ?_
      refine g_geti hZ fX9_13 rfl rfl dX9_undo_52 hh1 ?_
      refine g_icmp_ne hZ 65 dX9_undo_55 rfl (by omega) (fun c3 => ?_) (fun c3 => ?_)
      · refine g_iconst hZ dX9_undo_65 ?_
        exact hrest 0 (by rw [if_neg (by omega)])
      · refine g_aload_n hZ dX9_undo_58 rfl ?_
        refine g_geti hZ fX9_74 rfl rfl dX9_undo_59 rfl ?_
        refine g_goto hZ 66 dX9_undo_62 rfl ?_
        exact hrest (S 53 0) (by rw [if_pos (by omega)])
  · have : hs = [] := List.eq_nil_of_length_eq_zero (by omega)
    refine g_sipush hZ (z := (-1002)) dX9_undo_7 rfl ?_
    refine g_iret hZ dX9_undo_10 rfl (Or.inl ⟨this, rfl, rfl⟩)
end
section
/-! bits of ints, counts, regions; the reference's regions -/
theorem gi_s31 : ∀ n, n < 32 → ((nI n &&& 31).toBitVec.smod 32).toNat = n := by decide +kernel
theorem gi_shl {a k : Nat} (hk : k < 32) (h : a * 2 ^ k < 4294967296) : Int32.ofInt (a : Int) <<< (Int32.ofInt (k : Int) &&& 31) = Int32.ofInt ((a * 2 ^ k : Nat) : Int) := by
  rw [gi_nat, gi_nat, gi_nat]
  exact pk_shlN _ k (gi_s31 k hk) (by omega)
theorem gi_shr {a k : Nat} (hk : k < 32) (h : a < 2147483648) : Int32.ofInt (a : Int) >>> (Int32.ofInt (k : Int) &&& 31) = Int32.ofInt ((a / 2 ^ k : Nat) : Int) := by
  rw [gi_nat, gi_nat, gi_nat]
  exact pk_shrN (by omega) _ k (gi_s31 k hk)
theorem gi_and (a b : Nat) : Int32.ofInt (a : Int) &&& Int32.ofInt (b : Int) = Int32.ofInt ((a &&& b : Nat) : Int) := by
  rw [gi_nat, gi_nat, gi_nat]
  apply Int32.toBitVec_inj.1
  show BitVec.ofNat 32 a &&& BitVec.ofNat 32 b = BitVec.ofNat 32 (a &&& b)
  apply BitVec.eq_of_getLsbD_eq
  intro i hi
  simp [hi]
theorem gi_or (a b : Nat) : Int32.ofInt (a : Int) ||| Int32.ofInt (b : Int) = Int32.ofInt ((a ||| b : Nat) : Int) := by
  rw [gi_nat, gi_nat, gi_nat]
  apply Int32.toBitVec_inj.1
  show BitVec.ofNat 32 a ||| BitVec.ofNat 32 b = BitVec.ofNat 32 (a ||| b)
  apply BitVec.eq_of_getLsbD_eq
  intro i hi
  simp [hi]
theorem gi_ors {a b k : Nat} (h : a < 2 ^ k) : Int32.ofInt (a : Int) ||| Int32.ofInt ((b * 2 ^ k : Nat) : Int) = Int32.ofInt ((a + b * 2 ^ k : Nat) : Int) := by
  rw [gi_or]
  have := Nat.two_pow_add_eq_or_of_lt h b
  rw [Nat.or_comm, Nat.mul_comm b, ← this, Nat.add_comm]
theorem gi_mask (a k : Nat) : Int32.ofInt (a : Int) &&& Int32.ofInt ((2 ^ k - 1 : Nat) : Int) = Int32.ofInt ((a % 2 ^ k : Nat) : Int) := by
  rw [gi_and, Nat.and_two_pow_sub_one_eq_mod]
def cntB (p : Nat → Bool) : Nat → Nat
  | 0 => 0
  | n + 1 => cntB p n + (if p n = true then 1 else 0)
theorem cntB_le (p : Nat → Bool) : ∀ n, cntB p n ≤ n
  | 0 => Nat.le_refl _
  | n + 1 => by
    have := cntB_le p n
    rw [cntB]; split <;> omega
theorem cntB_cong {p q : Nat → Bool} : ∀ {n : Nat}, (∀ k, k < n → p k = q k) → cntB p n = cntB q n
  | 0, _ => rfl
  | n + 1, h => by rw [cntB, cntB, cntB_cong (fun k hk => h k (by omega)), h n (by omega)]
theorem cntB_len (p : Nat → Bool) : ∀ n, ((List.range n).filter p).length = cntB p n
  | 0 => rfl
  | n + 1 => by
    rw [List.range_succ, List.filter_append, List.length_append, cntB_len p n, cntB]
    by_cases q : p n = true
    · simp [q]
    · simp [q]
/-- fields are near if they are the same or neighbours -/
def nearB (w f g : Nat) : Bool := decide (gdx w g f * gdx w g f ≤ 1) && decide (gdy w g f * gdy w g f ≤ 1)
theorem nearB_sym (w f g : Nat) : nearB w f g = nearB w g f := by
  have e1 : gdx w g f * gdx w g f = gdx w f g * gdx w f g := by
    rw [show gdx w g f = -gdx w f g by unfold gdx; omega, Int.neg_mul_neg]
  have e2 : gdy w g f * gdy w g f = gdy w f g * gdy w f g := by
    rw [show gdy w g f = -gdy w f g by unfold gdy; omega, Int.neg_mul_neg]
  unfold nearB
  rw [e1, e2]
/-- one comes from f to g by neighbours that are not burned -/
def cn (w n : Nat) (B : Nat → Int) (f g : Nat) : Prop := ∀ Q : Nat → Prop, Q f → (∀ a b, a < n → b < n → B a ≠ 3 → B b ≠ 3 → nearB w a b = true → Q a → Q b) → Q g
theorem cn.rf {w n : Nat} {B : Nat → Int} {f : Nat} : cn w n B f f := fun _ h _ => h
theorem cn.tr {w n : Nat} {B : Nat → Int} {f g k : Nat} (h1 : cn w n B f g) (h2 : cn w n B g k) : cn w n B f k := fun Q hf hc => h2 Q (h1 Q hf hc) hc
theorem cn.st {w n : Nat} {B : Nat → Int} {a b : Nat} (ha : a < n) (hb : b < n) (oa : B a ≠ 3) (ob : B b ≠ 3) (h : nearB w a b = true) : cn w n B a b := fun Q hf hc => hc a b ha hb oa ob h hf
theorem cn.sy {w n : Nat} {B : Nat → Int} {f g : Nat} (h : cn w n B f g) : cn w n B g f :=
  h (fun x => cn w n B x f) cn.rf (fun a b ha hb oa ob hn hq => (cn.st hb ha ob oa (by rw [nearB_sym]; exact hn)).tr hq)
theorem cn.op {w n : Nat} {B : Nat → Int} {f g : Nat} (h : cn w n B f g) (hf : f < n) (of : B f ≠ 3) : g < n ∧ B g ≠ 3 :=
  h (fun x => x < n ∧ B x ≠ 3) ⟨hf, of⟩ (fun _ _ _ hb _ ob _ _ => ⟨hb, ob⟩)
/-- by fields the lowest field of the region, -1 where it is burned -/
def isRL (w n : Nat) (B r : Nat → Int) : Prop := (∀ f, f < n → B f = 3 → r f = -1) ∧ (∀ f, f < n → B f ≠ 3 → ∃ g : Nat, r f = (g : Int) ∧ g ≤ f ∧ B g ≠ 3 ∧ cn w n B f g) ∧ ∀ f g, f < n → g < n → B f ≠ 3 → B g ≠ 3 → nearB w f g = true → r f = r g
theorem isRL.cn {w n : Nat} {B r : Nat → Int} (h : isRL w n B r) {f g : Nat} (hc : cn w n B f g) : r g = r f :=
  hc (fun x => r x = r f) rfl (fun a b ha hb oa ob hn q => (h.2.2 a b ha hb oa ob hn).symm.trans q)
theorem isRL.le {w n : Nat} {B r r2 : Nat → Int} (h : isRL w n B r) (h2 : isRL w n B r2) {f : Nat} (hf : f < n) (of : B f ≠ 3) : r f ≤ r2 f := by
  obtain ⟨g, e1, e2, e3, e4⟩ := h2.2.1 f hf of
  have hg : g < n := by omega
  obtain ⟨k, k1, k2, -, -⟩ := h.2.1 g hg e3
  have := h.cn e4
  omega
theorem isRL.un {w n : Nat} {B r r2 : Nat → Int} (h : isRL w n B r) (h2 : isRL w n B r2) {f : Nat} (hf : f < n) : r f = r2 f := by
  by_cases of : B f = 3
  · rw [h.1 f hf of, h2.1 f hf of]
  · have := h.le h2 hf of
    have := h2.le h hf of
    omega
noncomputable def rg (w n : Nat) (B : Nat → Int) (f : Nat) : Int := if B f = 3 then -1 else ((Classical.choose (pk_least (fun g => cn w n B f g) ⟨f, cn.rf⟩) : Nat) : Int)
theorem rg_ok (w n : Nat) (B : Nat → Int) : isRL w n B (rg w n B) := by
  have key : ∀ f, f < n → B f ≠ 3 → ∃ g : Nat, rg w n B f = (g : Int) ∧ cn w n B f g ∧ ∀ j, j < g → ¬ cn w n B f j := by
    intro f hf of
    have sp := Classical.choose_spec (pk_least (fun g => cn w n B f g) ⟨f, cn.rf⟩)
    refine ⟨_, ?_, sp.1, sp.2⟩
    unfold rg
    rw [if_neg of]
  refine ⟨fun f hf hb => by unfold rg; rw [if_pos hb], fun f hf of => ?_, fun f g hf hg of og hn => ?_⟩
  · obtain ⟨g, e1, e2, e3⟩ := key f hf of
    refine ⟨g, e1, ?_, (e2.op hf of).2, e2⟩
    rcases Nat.lt_or_ge f g with q | q
    · exact absurd cn.rf (e3 f q)
    · exact q
  · obtain ⟨a, e1, e2, e3⟩ := key f hf of
    obtain ⟨b, k1, k2, k3⟩ := key g hg og
    have c := cn.st hf hg of og hn
    rw [e1, k1]
    rcases Nat.lt_trichotomy a b with q | q | q
    · exact absurd (c.sy.tr e2) (k3 a q)
    · rw [q]
    · exact absurd (c.tr k2) (e3 b q)
theorem rg_cong {w n : Nat} {B B2 : Nat → Int} (hB : ∀ k, k < n → B k = B2 k) {f : Nat} (hf : f < n) : rg w n B f = rg w n B2 f := by
  have hc : ∀ a b, cn w n B a b → cn w n B2 a b := fun a b h Q ha hst => h Q ha (fun x y hx hy ox oy hn => hst x y hx hy (by rw [← hB x hx]; exact ox) (by rw [← hB y hy]; exact oy) hn)
  obtain ⟨h1, h2, h3⟩ := rg_ok w n B
  refine isRL.un (w := w) (n := n) (B := B2) ⟨fun f hf hb => h1 f hf (by rw [hB f hf]; exact hb), fun f hf of => ?_, fun f g hf hg of og hn => h3 f g hf hg (by rw [hB f hf]; exact of) (by rw [hB g hg]; exact og) hn⟩ (rg_ok w n B2) hf
  obtain ⟨g, e1, e2, e3, e4⟩ := h2 f hf (by rw [hB f hf]; exact of)
  exact ⟨g, e1, e2, by rw [← hB g (by omega)]; exact e3, hc _ _ e4⟩
theorem rg_bd {w n : Nat} {B : Nat → Int} {f : Nat} (hf : f < n) : -1 ≤ rg w n B f ∧ rg w n B f ≤ f := by
  by_cases of : B f = 3
  · rw [(rg_ok w n B).1 f hf of]; omega
  · obtain ⟨g, e1, e2, -, -⟩ := (rg_ok w n B).2.1 f hf of
    omega
/-- a sum of labels, for the end of the spreading -/
def muR (r : Nat → Int) : Nat → Nat
  | 0 => 0
  | n + 1 => muR r n + (r n + 1).toNat
theorem muR_cong {r r2 : Nat → Int} : ∀ {n : Nat}, (∀ k, k < n → r k = r2 k) → muR r n = muR r2 n
  | 0, _ => rfl
  | n + 1, h => by rw [muR, muR, muR_cong (fun k hk => h k (by omega)), h n (by omega)]
theorem muR_lt {r r2 : Nat → Int} {f : Nat} (h0 : 0 ≤ r2 f) (h1 : r2 f < r f) (ho : ∀ k, k ≠ f → r2 k = r k) : ∀ {n : Nat}, f < n → muR r2 n < muR r n
  | 0, h => absurd h (Nat.not_lt_zero f)
  | n + 1, h => by
    rw [muR, muR]
    by_cases q : f = n
    · subst q
      have := muR_cong (r := r2) (r2 := r) (n := f) (fun k hk => ho k (by omega))
      omega
    · have ih := muR_lt h0 h1 ho (n := n) (by omega)
      rw [ho n (fun e => q e.symm)]
      omega
theorem t_X9_areNear (E : gE) (S : gS) (w h n : Nat) (hg : mG S w h n) (f g : Nat) (hf : f < n) (hg2 : g < n) : Ct E LAY mX9_areNear [.ref (gad E 27), iV (f : Int), iV (g : Int)] S (fun r S' => S = S' ∧ ∃ z, r = some (iV z) ∧ isB z (nearB w f g = true)) := by
  have hn := hg.n15
  have hw := hg.1
  have hO := hg.2.2
  obtain ⟨ow1, ow5, oh1, oh5, -, -⟩ := id hO
  refine Ct.intro LAY_ok (by decide +kernel) (Nat.le_of_ble_eq_true rfl) rfl ?_
  intro Z hZ
  have bx := gdx_b (w := w) (a := g) (b := f) ow1 ow5
  have byy := gdy_b hO hg2 hf
  have sq : ∀ z : Int, -4 ≤ z → z ≤ 4 → 0 ≤ z * z ∧ z * z ≤ 16 := by
    intro z h1 h2
    have : z = -4 ∨ z = -3 ∨ z = -2 ∨ z = -1 ∨ z = 0 ∨ z = 1 ∨ z = 2 ∨ z = 3 ∨ z = 4 := by omega
    rcases this with rfl | rfl | rfl | rfl | rfl | rfl | rfl | rfl | rfl <;> decide
  have qx := sq _ bx.1 bx.2
  have qy := sq _ byy.1 byy.2
  have rx : R32 (gdx w g f * gdx w g f) := by omega
  have ry : R32 (gdy w g f * gdy w g f) := by omega
  refine g_iload_n hZ dX9_areNear_0 rfl ?_
  refine g_aload_n hZ dX9_areNear_1 rfl ?_
  refine g_geti hZ fX9_7 rfl rfl dX9_areNear_2 hw ?_
  refine g_irem hZ dX9_areNear_5 (by omega) (by omega) (by omega) ?_
  refine g_iload_n hZ dX9_areNear_6 rfl ?_
  refine g_aload_n hZ dX9_areNear_7 rfl ?_
  refine g_geti hZ fX9_7 rfl rfl dX9_areNear_8 hw ?_
  refine g_irem hZ dX9_areNear_11 (by omega) (by omega) (by omega) ?_
  refine g_isub hZ dX9_areNear_12 ?_
  refine g_istore_n hZ dX9_areNear_13 (by decide) ?_
  refine g_iload_n hZ dX9_areNear_14 rfl ?_
  refine g_aload_n hZ dX9_areNear_15 rfl ?_
  refine g_geti hZ fX9_7 rfl rfl dX9_areNear_16 hw ?_
  refine g_idiv hZ dX9_areNear_19 (by omega) (by omega) (by omega) ?_
  refine g_iload_n hZ dX9_areNear_20 rfl ?_
  refine g_aload_n hZ dX9_areNear_21 rfl ?_
  refine g_geti hZ fX9_7 rfl rfl dX9_areNear_22 hw ?_
  refine g_idiv hZ dX9_areNear_25 (by omega) (by omega) (by omega) ?_
  refine g_isub hZ dX9_areNear_26 ?_
  refine g_istore hZ dX9_areNear_27 (by decide) ?_
  show Z S [(0, .ref (gad E 27)), (1, iV (f : Int)), (2, iV (g : Int)), (3, iV (gdx w g f)), (4, iV (gdy w g f))] 29 []
  refine g_iload_n hZ dX9_areNear_29 rfl ?_
  refine g_iload_n hZ dX9_areNear_30 rfl ?_
  refine g_imul hZ dX9_areNear_31 ?_
  refine g_iconst hZ dX9_areNear_32 ?_
  refine g_icmp_gt hZ 49 dX9_areNear_33 rfl ⟨rx, by omega⟩ (fun c1 => ?_) (fun c1 => ?_)
  · refine g_iconst hZ dX9_areNear_49 ?_
    refine g_zret hZ dX9_areNear_50 rfl (Or.inl rfl) ⟨rfl, 0, rfl, Or.inr ⟨rfl, by unfold nearB; simp; intro; omega⟩⟩
  · refine g_iload hZ dX9_areNear_36 rfl ?_
    refine g_iload hZ dX9_areNear_38 rfl ?_
    refine g_imul hZ dX9_areNear_40 ?_
    refine g_iconst hZ dX9_areNear_41 ?_
    refine g_icmp_gt hZ 49 dX9_areNear_42 rfl ⟨ry, by omega⟩ (fun c2 => ?_) (fun c2 => ?_)
    · refine g_iconst hZ dX9_areNear_49 ?_
      refine g_zret hZ dX9_areNear_50 rfl (Or.inl rfl) ⟨rfl, 0, rfl, Or.inr ⟨rfl, by unfold nearB; simp; intro; omega⟩⟩
    · refine g_iconst hZ dX9_areNear_45 ?_
      refine g_goto hZ 50 dX9_areNear_46 rfl ?_
      refine g_zret hZ dX9_areNear_50 rfl (Or.inr rfl) ⟨rfl, 1, rfl, Or.inl ⟨rfl, by unfold nearB; simp; omega⟩⟩
theorem t_X9_parts (E : gE) (S : gS) (w h n : Nat) (hg : mG S w h n) (hB : mBd (S 61) n) : Ct E LAY mX9_parts [.ref (gad E 27)] S (fun r S' => r = none ∧ Eqx [72] S S' ∧ ∀ f, f < n → S' 72 f = rg w n (S 61) f) := by
  have hn := hg.n15
  have hO := hg.2.2
  refine Ct.intro LAY_ok (by decide +kernel) (Nat.le_of_ble_eq_true rfl) rfl ?_
  intro Z hZ
  have spread : ∀ (μ : Nat) (S₁ : gS) (L9 : List (Nat × Value)), muR (S₁ 72) n ≤ μ → Eqx [72] S S₁ → (∀ f, f < n → S 61 f = 3 → S₁ 72 f = -1) → (∀ f, f < n → S 61 f ≠ 3 → ∃ g : Nat, S₁ 72 f = (g : Int) ∧ g ≤ f ∧ S 61 g ≠ 3 ∧ cn w n (S 61) f g) → lkeep L9 [0, 1] = [(0, .ref (gad E 27)), (1, iV 1)] → Z S₁ L9 39 [] := by
    intro μ
    induction μ with
    | zero =>
      intro S₁ L9 hμ he p1 p2 hL
      -- every label is -1: then all is burned; the pass changes nothing. The same walk as below, with no smaller measure
      have hall : ∀ k, k < n → S₁ 72 k = -1 := by
        intro k hk
        have : ∀ (m : Nat), k < m → muR (S₁ 72) m = 0 → (S₁ 72 k + 1).toNat = 0 := by
          intro m
          induction m with
          | zero => intro h; omega
          | succ m ihm =>
            intro h1 h2
            rw [muR] at h2
            by_cases q : k = m
            · subst q; omega
            · exact ihm (by omega) (by omega)
        have h1 := this n hk (by omega)
        by_cases q : S 61 k = 3
        · exact p1 k hk q
        · obtain ⟨g, e1, -, -, -⟩ := p2 k hk q
          omega
      have hg₁ := hg.x he rfl rfl
      refine g_keep hZ [0, 1] hL ?_
      refine g_iload_n hZ dX9_parts_39 rfl ?_
      refine g_if_eq hZ 151 dX9_parts_40 rfl (by omega) (fun cX => absurd cX (by omega)) (fun _ => ?_)
      refine g_iconst hZ dX9_parts_43 ?_
      refine g_istore_n hZ dX9_parts_44 (by decide) ?_
      refine g_iconst hZ dX9_parts_45 ?_
      refine g_istore_n hZ dX9_parts_46 (by decide) ?_
      have pass : ∀ (m k : Nat), k + m = 225 → ∀ (L9 : List (Nat × Value)), lkeep L9 [0, 1, 2] = [(0, .ref (gad E 27)), (1, iV 0), (2, iV (k : Int))] → Z S₁ L9 47 [] := by
        intro m
        induction m with
        | zero =>
          intro k hk L9 hL
          refine g_keep hZ [0, 1, 2] hL ?_
          refine g_iload_n hZ dX9_parts_47 rfl ?_
          refine g_sipush hZ (z := 225) dX9_parts_48 rfl ?_
          refine g_icmp_ge hZ 148 dX9_parts_51 rfl (by omega) (fun _ => ?_) (fun cX => absurd (by omega) cX)
          refine g_goto hZ 39 dX9_parts_148 rfl ?_
          refine g_iload_n hZ dX9_parts_39 rfl ?_
          refine g_if_eq hZ 151 dX9_parts_40 rfl (by omega) (fun _ => ?_) (fun cX => absurd (by omega) cX)
          refine g_vret hZ dX9_parts_151 rfl ⟨rfl, he, fun f hf => ?_⟩
          by_cases q : S 61 f = 3
          · rw [p1 f hf q, (rg_ok w n (S 61)).1 f hf q]
          · obtain ⟨g, e1, -, -, -⟩ := p2 f hf q
            have := hall f hf
            omega
        | succ m ih =>
          intro k hk L9 hL
          refine g_keep hZ [0, 1, 2] hL ?_
          refine g_iload_n hZ dX9_parts_47 rfl ?_
          refine g_sipush hZ (z := 225) dX9_parts_48 rfl ?_
          refine g_icmp_ge hZ 148 dX9_parts_51 rfl (by omega) (fun cX => absurd cX (by omega)) (fun _ => ?_)
          refine g_iload_n hZ dX9_parts_54 rfl ?_
          refine g_bipush hZ (z := 15) dX9_parts_55 rfl ?_
          refine g_idiv hZ (b := 15) dX9_parts_57 (by omega) (by omega) (by omega) ?_
          refine g_istore_n hZ dX9_parts_58 (by decide) ?_
          refine g_iload_n hZ dX9_parts_59 rfl ?_
          refine g_bipush hZ (z := 15) dX9_parts_60 rfl ?_
          refine g_irem hZ (b := 15) dX9_parts_62 (by omega) (by omega) (by omega) ?_
          refine g_istore hZ dX9_parts_63 (by decide) ?_
          refine g_aload_n hZ dX9_parts_65 rfl ?_
          refine g_iload_n hZ dX9_parts_66 rfl ?_
          have fin : ∀ (L9 : List (Nat × Value)), lkeep L9 [0, 1, 2] = [(0, .ref (gad E 27)), (1, iV 0), (2, iV (k : Int))] → Z S₁ L9 142 [] := by
            intro L9 hL
            refine g_keep hZ [0, 1, 2] hL ?_
            refine g_iinc hZ dX9_parts_142 rfl (by decide) ?_
            refine g_goto hZ 47 dX9_parts_145 rfl ?_
            exact ih (k + 1) (by omega) _ rfl
          refine g_callV hZ (t_X9_isField E S₁ w h n hg₁ _ (by omega)) kX9_77 ⟨by decide, by decide⟩ rfl rfl rfl rfl (Nat.le_of_ble_eq_true rfl) dX9_parts_67 ?_
          rintro _ _ ⟨rfl, z, rfl, hz⟩
          rcases hz with ⟨rfl, hz⟩ | ⟨rfl, hz⟩
          · refine g_if_eq hZ 142 dX9_parts_70 rfl (by omega) (fun cX => absurd cX (by omega)) (fun _ => ?_)
            refine g_aload_n hZ dX9_parts_73 rfl ?_
            refine g_iload hZ dX9_parts_74 rfl ?_
            refine g_callV hZ (t_X9_isField E S₁ w h n hg₁ _ (by omega)) kX9_77 ⟨by decide, by decide⟩ rfl rfl rfl rfl (Nat.le_of_ble_eq_true rfl) dX9_parts_76 ?_
            rintro _ _ ⟨rfl, z, rfl, hz2⟩
            rcases hz2 with ⟨rfl, hz2⟩ | ⟨rfl, hz2⟩
            · refine g_if_eq hZ 142 dX9_parts_79 rfl (by omega) (fun cX => absurd cX (by omega)) (fun _ => ?_)
              refine g_aload_n hZ dX9_parts_82 rfl ?_
              refine g_getr hZ fX9_51 rfl rfl dX9_parts_83 ?_
              refine g_iload_n hZ dX9_parts_86 rfl ?_
              refine g_iald hZ ((k / 15)) rfl dX9_parts_87 (rfl) (by omega) (by decide) (hall _ (by omega)) ?_
              refine g_if_lt hZ 142 dX9_parts_88 rfl (by omega) (fun _ => ?_) (fun cX => absurd (by omega) cX)
              exact fin _ rfl
            · refine g_if_eq hZ 142 dX9_parts_79 rfl (by omega) (fun _ => ?_) (fun cX => absurd (by omega) cX)
              exact fin _ rfl
          · refine g_if_eq hZ 142 dX9_parts_70 rfl (by omega) (fun _ => ?_) (fun cX => absurd (by omega) cX)
            exact fin _ rfl
      exact pass 225 0 (by omega) _ rfl
    | succ μ ihμ =>
      intro S₁ L9 hμ he p1 p2 hL
      refine g_keep hZ [0, 1] hL ?_
      refine g_iload_n hZ dX9_parts_39 rfl ?_
      refine g_if_eq hZ 151 dX9_parts_40 rfl (by omega) (fun cX => absurd cX (by omega)) (fun _ => ?_)
      refine g_iconst hZ dX9_parts_43 ?_
      refine g_istore_n hZ dX9_parts_44 (by decide) ?_
      refine g_iconst hZ dX9_parts_45 ?_
      refine g_istore_n hZ dX9_parts_46 (by decide) ?_
      have pass : ∀ (m k : Nat) (S₂ : gS) (more : Int), k + m = 225 → Eqx [72] S S₂ → (∀ f, f < n → S 61 f = 3 → S₂ 72 f = -1) → (∀ f, f < n → S 61 f ≠ 3 → ∃ g : Nat, S₂ 72 f = (g : Int) ∧ g ≤ f ∧ S 61 g ≠ 3 ∧ cn w n (S 61) f g) → ((more = 1 ∧ muR (S₂ 72) n ≤ μ) ∨ (more = 0 ∧ S₂ = S₁ ∧ ∀ f g, f < n → g < n → 15 * f + g < k → S 61 f ≠ 3 → S 61 g ≠ 3 → nearB w f g = true → S₁ 72 f ≤ S₁ 72 g)) → ∀ (L9 : List (Nat × Value)), lkeep L9 [0, 1, 2] = [(0, .ref (gad E 27)), (1, iV more), (2, iV (k : Int))] → Z S₂ L9 47 [] := by
        intro m
        induction m with
        | zero =>
          intro k S₂ more hk he₂ q1 q2 hmore L9 hL
          refine g_keep hZ [0, 1, 2] hL ?_
          refine g_iload_n hZ dX9_parts_47 rfl ?_
          refine g_sipush hZ (z := 225) dX9_parts_48 rfl ?_
          refine g_icmp_ge hZ 148 dX9_parts_51 rfl (by omega) (fun _ => ?_) (fun cX => absurd (by omega) cX)
          refine g_goto hZ 39 dX9_parts_148 rfl ?_
          rcases hmore with ⟨rfl, hm⟩ | ⟨rfl, rfl, hfix⟩
          · exact ihμ S₂ _ hm he₂ q1 q2 rfl
          · refine g_iload_n hZ dX9_parts_39 rfl ?_
            refine g_if_eq hZ 151 dX9_parts_40 rfl (by omega) (fun _ => ?_) (fun cX => absurd (by omega) cX)
            refine g_vret hZ dX9_parts_151 rfl ⟨rfl, he₂, fun f hf => ?_⟩
            refine isRL.un (w := w) (n := n) (B := S 61) ⟨q1, q2, fun f g hf hg of og hn2 => ?_⟩ (rg_ok w n (S 61)) hf
            have z1 := hfix f g hf hg (by omega) of og hn2
            have z2 := hfix g f hg hf (by omega) og of (by rw [nearB_sym]; exact hn2)
            omega
        | succ m ih =>
          intro k S₂ more hk he₂ q1 q2 hmore L9 hL
          have hg₂ := hg.x he₂ rfl rfl
          refine g_keep hZ [0, 1, 2] hL ?_
          refine g_iload_n hZ dX9_parts_47 rfl ?_
          refine g_sipush hZ (z := 225) dX9_parts_48 rfl ?_
          refine g_icmp_ge hZ 148 dX9_parts_51 rfl (by omega) (fun cX => absurd cX (by omega)) (fun _ => ?_)
          refine g_iload_n hZ dX9_parts_54 rfl ?_
          refine g_bipush hZ (z := 15) dX9_parts_55 rfl ?_
          refine g_idiv hZ (b := 15) dX9_parts_57 (by omega) (by omega) (by omega) ?_
          refine g_istore_n hZ dX9_parts_58 (by decide) ?_
          refine g_iload_n hZ dX9_parts_59 rfl ?_
          refine g_bipush hZ (z := 15) dX9_parts_60 rfl ?_
          refine g_irem hZ (b := 15) dX9_parts_62 (by omega) (by omega) (by omega) ?_
          refine g_istore hZ dX9_parts_63 (by decide) ?_
          refine g_aload_n hZ dX9_parts_65 rfl ?_
          refine g_iload_n hZ dX9_parts_66 rfl ?_
          have kd : k = 15 * (k / 15) + k % 15 := by omega
          have fin : (∀ (f g : Nat), k = 15 * f + g → g < 15 → f < n → g < n → S 61 f ≠ 3 → S 61 g ≠ 3 → nearB w f g = true → S₂ 72 f ≤ S₂ 72 g) → ∀ (L9 : List (Nat × Value)), lkeep L9 [0, 1, 2] = [(0, .ref (gad E 27)), (1, iV more), (2, iV (k : Int))] → Z S₂ L9 142 [] := by
            intro hno L9 hL
            refine g_keep hZ [0, 1, 2] hL ?_
            refine g_iinc hZ dX9_parts_142 rfl (by decide) ?_
            refine g_goto hZ 47 dX9_parts_145 rfl ?_
            refine ih (k + 1) S₂ more (by omega) he₂ q1 q2 ?_ _ rfl
            rcases hmore with hm | ⟨e1, e2, hfix⟩
            · exact Or.inl hm
            · refine Or.inr ⟨e1, e2, fun f g hf hg hlt of og hn2 => ?_⟩
              by_cases q : 15 * f + g < k
              · exact hfix f g hf hg q of og hn2
              · rw [← e2]
                exact hno f g (by omega) (by omega) hf hg of og hn2
          generalize hff : k / 15 = f at *
          generalize hgg : k % 15 = g at *
          have hg15 : g < 15 := by omega
          have unq : ∀ (f2 g2 : Nat), k = 15 * f2 + g2 → g2 < 15 → f2 = f ∧ g2 = g := by intro f2 g2 e1 e2; omega
          have nofin : ¬ (f < n ∧ g < n ∧ S 61 f ≠ 3 ∧ S 61 g ≠ 3 ∧ nearB w f g = true ∧ ¬ S₂ 72 f ≤ S₂ 72 g) → ∀ (L9 : List (Nat × Value)), lkeep L9 [0, 1, 2] = [(0, .ref (gad E 27)), (1, iV more), (2, iV (k : Int))] → Z S₂ L9 142 [] := by
            intro hno
            refine fin (fun f2 g2 e1 e2 hf hg of og hn2 => ?_)
            obtain ⟨rfl, rfl⟩ := unq f2 g2 e1 e2
            by_cases q : S₂ 72 f2 ≤ S₂ 72 g2
            · exact q
            · exact absurd ⟨hf, hg, of, og, hn2, q⟩ hno
          refine g_callV hZ (t_X9_isField E S₂ w h n hg₂ _ (by omega)) kX9_77 ⟨by decide, by decide⟩ rfl rfl rfl rfl (Nat.le_of_ble_eq_true rfl) dX9_parts_67 ?_
          rintro _ _ ⟨rfl, z, rfl, hz⟩
          rcases hz with ⟨rfl, hz⟩ | ⟨rfl, hz⟩
          · refine g_if_eq hZ 142 dX9_parts_70 rfl (by omega) (fun cX => absurd cX (by omega)) (fun _ => ?_)
            refine g_aload_n hZ dX9_parts_73 rfl ?_
            refine g_iload hZ dX9_parts_74 rfl ?_
            refine g_callV hZ (t_X9_isField E S₂ w h n hg₂ _ (by omega)) kX9_77 ⟨by decide, by decide⟩ rfl rfl rfl rfl (Nat.le_of_ble_eq_true rfl) dX9_parts_76 ?_
            rintro _ _ ⟨rfl, z, rfl, hz2⟩
            rcases hz2 with ⟨rfl, hz2⟩ | ⟨rfl, hz2⟩
            · refine g_if_eq hZ 142 dX9_parts_79 rfl (by omega) (fun cX => absurd cX (by omega)) (fun _ => ?_)
              have rf : R32 (S₂ 72 f) := by
                by_cases q : S 61 f = 3
                · rw [q1 f (by omega) q]; omega
                · obtain ⟨g0, e1, e2, -, -⟩ := q2 f (by omega) q
                  omega
              have rgg : R32 (S₂ 72 g) := by
                by_cases q : S 61 g = 3
                · rw [q1 g (by omega) q]; omega
                · obtain ⟨g0, e1, e2, -, -⟩ := q2 g (by omega) q
                  omega
              refine g_aload_n hZ dX9_parts_82 rfl ?_
              refine g_getr hZ fX9_51 rfl rfl dX9_parts_83 ?_
              refine g_iload_n hZ dX9_parts_86 rfl ?_
              refine g_iald hZ (f) rfl dX9_parts_87 (rfl) (by omega) (by decide) (rfl) ?_
              refine g_if_lt hZ 142 dX9_parts_88 rfl (by omega) (fun c1 => ?_) (fun c1 => ?_)
              · exact nofin (fun q => by obtain ⟨g0, e1, -, -, -⟩ := q2 f (by omega) q.2.2.1; omega) _ rfl
              · have of : S 61 f ≠ 3 := fun q => by have := q1 f (by omega) q; omega
                refine g_aload_n hZ dX9_parts_91 rfl ?_
                refine g_getr hZ fX9_51 rfl rfl dX9_parts_92 ?_
                refine g_iload hZ dX9_parts_95 rfl ?_
                refine g_iald hZ (g) rfl dX9_parts_97 (rfl) (by omega) (by decide) (rfl) ?_
                refine g_if_lt hZ 142 dX9_parts_98 rfl (by omega) (fun c2 => ?_) (fun c2 => ?_)
                · exact nofin (fun q => by obtain ⟨g0, e1, -, -, -⟩ := q2 g (by omega) q.2.2.2.1; omega) _ rfl
                · have og : S 61 g ≠ 3 := fun q => by have := q1 g (by omega) q; omega
                  refine g_aload_n hZ dX9_parts_101 rfl ?_
                  refine g_getr hZ fX9_51 rfl rfl dX9_parts_102 ?_
                  refine g_iload hZ dX9_parts_105 rfl ?_
                  refine g_iald hZ (g) rfl dX9_parts_107 (rfl) (by omega) (by decide) (rfl) ?_
                  refine g_aload_n hZ dX9_parts_108 rfl ?_
                  refine g_getr hZ fX9_51 rfl rfl dX9_parts_109 ?_
                  refine g_iload_n hZ dX9_parts_112 rfl ?_
                  refine g_iald hZ (f) rfl dX9_parts_113 (rfl) (by omega) (by decide) (rfl) ?_
                  refine g_icmp_ge hZ 142 dX9_parts_114 rfl (by omega) (fun c3 => ?_) (fun c3 => ?_)
                  · exact nofin (fun q => by omega) _ rfl
                  · refine g_aload_n hZ dX9_parts_117 rfl ?_
                    refine g_iload_n hZ dX9_parts_118 rfl ?_
                    refine g_iload hZ dX9_parts_119 rfl ?_
                    refine g_callV hZ (t_X9_areNear E S₂ w h n hg₂ f g (by omega) (by omega)) kX9_119 ⟨by decide, by decide⟩ rfl rfl rfl rfl (Nat.le_of_ble_eq_true rfl) dX9_parts_121 ?_
                    rintro _ _ ⟨rfl, z, rfl, hz3⟩
                    rcases hz3 with ⟨rfl, hz3⟩ | ⟨rfl, hz3⟩
                    · refine g_if_eq hZ 142 dX9_parts_124 rfl (by omega) (fun cX => absurd cX (by omega)) (fun _ => ?_)
                      refine g_aload_n hZ dX9_parts_127 rfl ?_
                      refine g_getr hZ fX9_51 rfl rfl dX9_parts_128 ?_
                      refine g_iload_n hZ dX9_parts_131 rfl ?_
                      refine g_aload_n hZ dX9_parts_132 rfl ?_
                      refine g_getr hZ fX9_51 rfl rfl dX9_parts_133 ?_
                      refine g_iload hZ dX9_parts_136 rfl ?_
                      refine g_iald hZ (g) rfl dX9_parts_138 (rfl) (by omega) (by decide) (rfl) ?_
                      refine g_iast hZ (f) rfl dX9_parts_139 (rfl) (by omega) (by decide) ?_
                      refine g_iconst hZ dX9_parts_140 ?_
                      refine g_istore_n hZ dX9_parts_141 (by decide) ?_
                      refine g_iinc hZ dX9_parts_142 rfl (by decide) ?_
                      refine g_goto hZ 47 dX9_parts_145 rfl ?_
                      obtain ⟨g0, e1, e2, e3, e4⟩ := q2 g (by omega) og
                      have c := cn.st (w := w) (n := n) (B := S 61) (show f < n by omega) (show g < n by omega) of og hz3
                      obtain ⟨f0, f1, f2, -, -⟩ := q2 f (by omega) of
                      refine ih (k + 1) _ 1 (by omega) (he₂.up rfl) (fun f2 hf2 hb2 => ?_) (fun f2 hf2 of2 => ?_) (Or.inl ⟨rfl, ?_⟩) _ rfl
                      · rw [upS_j _ _ (fun e => of (by rw [← e]; exact hb2))]; exact q1 f2 hf2 hb2
                      · by_cases q : f2 = f
                        · subst q
                          rw [upS_eq]
                          exact ⟨g0, e1, by omega, e3, c.tr e4⟩
                        · rw [upS_j _ _ q]; exact q2 f2 hf2 of2
                      · have hlt : muR (upS S₂ 72 f (S₂ 72 g) 72) n < muR (S₂ 72) n := muR_lt (f := f) (by rw [upS_eq]; omega) (by rw [upS_eq]; omega) (fun k hk => upS_j _ _ hk) (by omega)
                        have hle : muR (S₂ 72) n ≤ μ + 1 := by
                          rcases hmore with ⟨-, hm⟩ | ⟨-, e2, -⟩
                          · omega
                          · rw [e2]; exact hμ
                        omega
                    · refine g_if_eq hZ 142 dX9_parts_124 rfl (by omega) (fun _ => ?_) (fun cX => absurd (by omega) cX)
                      exact nofin (fun q => hz3 q.2.2.2.2.1) _ rfl
            · refine g_if_eq hZ 142 dX9_parts_79 rfl (by omega) (fun _ => ?_) (fun cX => absurd (by omega) cX)
              exact nofin (fun q => by omega) _ rfl
          · refine g_if_eq hZ 142 dX9_parts_70 rfl (by omega) (fun _ => ?_) (fun cX => absurd (by omega) cX)
            exact nofin (fun q => by omega) _ rfl
      exact pass 225 0 S₁ 0 (by omega) he p1 p2 (Or.inr ⟨rfl, rfl, fun f g _ _ q => by omega⟩) _ rfl
  have init : ∀ (m k : Nat) (S₁ : gS), k + m = n → Eqx [72] S S₁ → (∀ f, f < k → S₁ 72 f = if S 61 f = 3 then -1 else (f : Int)) → Z S₁ [(0, .ref (gad E 27)), (1, iV (k : Int))] 2 [] := by
    intro m
    induction m with
    | zero =>
      intro k S₁ hk he hr
      refine g_iload_n hZ dX9_parts_2 rfl ?_
      refine g_aload_n hZ dX9_parts_3 rfl ?_
      refine g_callV hZ (t_X9_size E S₁ w h n (hg.x he rfl rfl)) kX9_60 ⟨by decide, by decide⟩ rfl rfl rfl rfl (Nat.le_of_ble_eq_true rfl) dX9_parts_4 ?_
      rintro _ _ ⟨rfl, rfl⟩
      refine g_icmp_ge hZ 37 dX9_parts_7 rfl (by omega) (fun _ => ?_) (fun cX => absurd (by omega) cX)
      refine g_iconst hZ dX9_parts_37 ?_
      refine g_istore_n hZ dX9_parts_38 (by decide) ?_
      refine spread (muR (S₁ 72) n) S₁ _ (Nat.le_refl _) he (fun f hf hb => by rw [hr f (by omega), if_pos hb]) (fun f hf of => ⟨f, by rw [hr f (by omega), if_neg of], Nat.le_refl f, of, cn.rf⟩) rfl
    | succ m ih =>
      intro k S₁ hk he hr
      have b61 : S₁ 61 k = S 61 k := he 61 k rfl
      have hBk := hB k (by omega)
      refine g_iload_n hZ dX9_parts_2 rfl ?_
      refine g_aload_n hZ dX9_parts_3 rfl ?_
      refine g_callV hZ (t_X9_size E S₁ w h n (hg.x he rfl rfl)) kX9_60 ⟨by decide, by decide⟩ rfl rfl rfl rfl (Nat.le_of_ble_eq_true rfl) dX9_parts_4 ?_
      rintro _ _ ⟨rfl, rfl⟩
      refine g_icmp_ge hZ 37 dX9_parts_7 rfl (by omega) (fun cX => absurd cX (by omega)) (fun _ => ?_)
      refine g_aload_n hZ dX9_parts_10 rfl ?_
      refine g_getr hZ fX9_51 rfl rfl dX9_parts_11 ?_
      refine g_iload_n hZ dX9_parts_14 rfl ?_
      refine g_aload_n hZ dX9_parts_15 rfl ?_
      refine g_getr hZ fX9_16 rfl rfl dX9_parts_16 ?_
      refine g_iload_n hZ dX9_parts_19 rfl ?_
      refine g_iald hZ (k) rfl dX9_parts_20 (rfl) (by omega) (by decide) (b61) ?_
      refine g_iconst hZ dX9_parts_21 ?_
      refine g_icmp_ne hZ 29 dX9_parts_22 rfl (by omega) (fun c => ?_) (fun c => ?_)
      · refine g_iload_n hZ dX9_parts_29 rfl ?_
        refine g_iast hZ (k) rfl dX9_parts_30 (rfl) (by omega) (by decide) ?_
        refine g_iinc hZ dX9_parts_31 rfl (by decide) ?_
        refine g_goto hZ 2 dX9_parts_34 rfl ?_
        refine ih (k + 1) _ (by omega) (he.up rfl) (fun f hf => ?_)
        by_cases q : f = k
        · subst q; rw [upS_eq, if_neg c]
        · rw [upS_j _ _ q]; exact hr f (by omega)
      · refine g_iconst hZ dX9_parts_25 ?_
        refine g_goto hZ 30 dX9_parts_26 rfl ?_
        refine g_iast hZ (k) rfl dX9_parts_30 (rfl) (by omega) (by decide) ?_
        refine g_iinc hZ dX9_parts_31 rfl (by decide) ?_
        refine g_goto hZ 2 dX9_parts_34 rfl ?_
        refine ih (k + 1) _ (by omega) (he.up rfl) (fun f hf => ?_)
        by_cases q : f = k
        · subst q; rw [upS_eq, if_pos c]
        · rw [upS_j _ _ q]; exact hr f (by omega)
  refine g_iconst hZ dX9_parts_0 ?_
  refine g_istore_n hZ dX9_parts_1 (by decide) ?_
  exact init n 0 S (by omega) Eqx.rf (fun f hf => absurd hf (Nat.not_lt_zero f))
end
section
/-! the reference: what regions are asked -/
def rootB (r : Nat → Int) (k : Nat) : Bool := decide (r k = (k : Int))
def rts (r : Nat → Int) (n : Nat) : List Nat := (List.range n).filter (rootB r)
theorem flt_at {p : Nat → Bool} {k : Nat} (hp : p k = true) : ∀ {n : Nat}, k < n → ((List.range n).filter p)[cntB p k]? = some k
  | 0, h => absurd h (Nat.not_lt_zero k)
  | n + 1, h => by
    rw [List.range_succ, List.filter_append]
    by_cases q : k = n
    · subst q
      rw [List.getElem?_append_right (by rw [cntB_len]; exact Nat.le_refl _), cntB_len]
      simp [hp]
    · have ih := flt_at hp (n := n) (by omega)
      rw [List.getElem?_append_left (List.getElem?_eq_some_iff.mp ih).1]
      exact ih
theorem rts_len (r : Nat → Int) (n : Nat) : (rts r n).length = cntB (rootB r) n := cntB_len _ _
def wthB (r B : Nat → Int) (root v : Int) : Nat → Bool := fun k => decide (r k = root) && (decide (v < 0) || decide (B k = v))
def kindF (r B : Nat → Int) (n : Nat) (root : Int) : Int := (if 0 < cntB (wthB r B root 1) n then 1 else 0) + (if 0 < cntB (wthB r B root 2) n then 2 else 0)
def aLow (r : Nat → Int) (n : Nat) (i : Int) : Int := if i < 0 then -1 else match (rts r n)[i.toNat]? with | some k => (k : Int) | none => -1
theorem aLow_bd {r : Nat → Int} {n : Nat} {i : Int} : (aLow r n i = -1 ∧ ¬ (0 ≤ i ∧ i < (rts r n).length)) ∨ ∃ k : Nat, aLow r n i = (k : Int) ∧ k < n ∧ r k = (k : Int) ∧ 0 ≤ i ∧ (rts r n)[i.toNat]? = some k := by
  unfold aLow
  by_cases q : i < 0
  · rw [if_pos q]; exact Or.inl ⟨rfl, by omega⟩
  · rw [if_neg q]
    cases e : (rts r n)[i.toNat]? with
    | none => exact Or.inl ⟨rfl, by have := List.getElem?_eq_none_iff.mp e; omega⟩
    | some k =>
      refine Or.inr ⟨k, rfl, ?_⟩
      obtain ⟨h1, h2⟩ := List.mem_filter.mp (List.mem_of_getElem? e)
      exact ⟨List.mem_range.mp h1, by simpa [rootB] using h2, by omega, rfl⟩
/-- the reference's row of regions stands -/
def mRg (S : gS) (w n : Nat) : Prop := ∀ f, f < n → S 72 f = rg w n (S 61) f
theorem t_X9_lowest (E : gE) (S : gS) (w h n : Nat) (hg : mG S w h n) (hB : mBd (S 61) n) (i : Int) (hi : R32 i) : Ct E LAY mX9_lowest [.ref (gad E 27), iV i] S (fun r S' => Eqx [72] S S' ∧ mRg S' w n ∧ r = some (iV (aLow (rg w n (S 61)) n i))) := by
  have hn := hg.n15
  refine Ct.intro LAY_ok (by decide +kernel) (Nat.le_of_ble_eq_true rfl) rfl ?_
  intro Z hZ
  refine g_aload_n hZ dX9_lowest_0 rfl ?_
  refine g_callV hZ (t_X9_parts E S w h n hg hB) kX9_122 ⟨by decide, by decide⟩ rfl rfl rfl rfl (Nat.le_of_ble_eq_true rfl) dX9_lowest_1 ?_
  rintro _ S₁ ⟨rfl, he₁, hr₁⟩
  have hg₁ := hg.x he₁ rfl rfl
  have e61 : S₁ 61 = S 61 := funext fun j => he₁ 61 j rfl
  have hm₁ : mRg S₁ w n := fun f hf => by rw [e61]; exact hr₁ f hf
  refine g_iload_n hZ dX9_lowest_4 rfl ?_
  refine g_istore_n hZ dX9_lowest_5 (by decide) ?_
  refine g_iconst hZ dX9_lowest_6 ?_
  refine g_istore_n hZ dX9_lowest_7 (by decide) ?_
  by_cases hneg : i < 0
  · have ea : aLow (rg w n (S 61)) n i = -1 := by unfold aLow; rw [if_pos hneg]
    refine g_iload_n hZ dX9_lowest_8 rfl ?_
    refine g_aload_n hZ dX9_lowest_9 rfl ?_
    refine g_callV hZ (t_X9_size E S₁ w h n hg₁) kX9_60 ⟨by decide, by decide⟩ rfl rfl rfl rfl (Nat.le_of_ble_eq_true rfl) dX9_lowest_10 ?_
    rintro _ _ ⟨rfl, rfl⟩
    refine g_icmp_ge hZ 45 dX9_lowest_13 rfl (by omega) (fun c => ?_) (fun c => ?_)
    · refine g_iconst hZ dX9_lowest_45 ?_
      refine g_iret hZ dX9_lowest_46 rfl ⟨he₁, hm₁, by rw [ea]⟩
    · refine g_iload_n hZ dX9_lowest_16 rfl ?_
      refine g_if_lt hZ 45 dX9_lowest_17 rfl (by omega) (fun _ => ?_) (fun cX => absurd (by omega) cX)
      refine g_iconst hZ dX9_lowest_45 ?_
      refine g_iret hZ dX9_lowest_46 rfl ⟨he₁, hm₁, by rw [ea]⟩
  · have loop : ∀ (m k : Nat) (left : Int), k + m = n → left = i - cntB (rootB (rg w n (S 61))) k → 0 ≤ left → Z S₁ [(0, .ref (gad E 27)), (1, iV i), (2, iV left), (3, iV (k : Int))] 8 [] := by
      intro m
      induction m with
      | zero =>
        intro k left hk hl h0
        refine g_iload_n hZ dX9_lowest_8 rfl ?_
        refine g_aload_n hZ dX9_lowest_9 rfl ?_
        refine g_callV hZ (t_X9_size E S₁ w h n hg₁) kX9_60 ⟨by decide, by decide⟩ rfl rfl rfl rfl (Nat.le_of_ble_eq_true rfl) dX9_lowest_10 ?_
        rintro _ _ ⟨rfl, rfl⟩
        refine g_icmp_ge hZ 45 dX9_lowest_13 rfl (by omega) (fun _ => ?_) (fun cX => absurd (by omega) cX)
        refine g_iconst hZ dX9_lowest_45 ?_
        refine g_iret hZ dX9_lowest_46 rfl ⟨he₁, hm₁, ?_⟩
        have : (rts (rg w n (S 61)) n)[i.toNat]? = none := List.getElem?_eq_none (by rw [rts_len, show n = k by omega]; rw [show n = k by omega] at hl; omega)
        unfold aLow
        rw [if_neg hneg, this]
      | succ m ih =>
        intro k left hk hl h0
        have rb := rg_bd (w := w) (B := S 61) (show k < n by omega)
        have ec : cntB (rootB (rg w n (S 61))) (k + 1) = cntB (rootB (rg w n (S 61))) k + (if rootB (rg w n (S 61)) k = true then 1 else 0) := rfl
        refine g_iload_n hZ dX9_lowest_8 rfl ?_
        refine g_aload_n hZ dX9_lowest_9 rfl ?_
        refine g_callV hZ (t_X9_size E S₁ w h n hg₁) kX9_60 ⟨by decide, by decide⟩ rfl rfl rfl rfl (Nat.le_of_ble_eq_true rfl) dX9_lowest_10 ?_
        rintro _ _ ⟨rfl, rfl⟩
        refine g_icmp_ge hZ 45 dX9_lowest_13 rfl (by omega) (fun cX => absurd cX (by omega)) (fun _ => ?_)
        refine g_iload_n hZ dX9_lowest_16 rfl ?_
        refine g_if_lt hZ 45 dX9_lowest_17 rfl (by omega) (fun cX => absurd cX (by omega)) (fun _ => ?_)
        refine g_aload_n hZ dX9_lowest_20 rfl ?_
        refine g_getr hZ fX9_51 rfl rfl dX9_lowest_21 ?_
        refine g_iload_n hZ dX9_lowest_24 rfl ?_
        refine g_iald hZ (k) rfl dX9_lowest_25 (rfl) (by omega) (by decide) (hr₁ k (by omega)) ?_
        refine g_iload_n hZ dX9_lowest_26 rfl ?_
        refine g_icmp_ne hZ 39 dX9_lowest_27 rfl (by omega) (fun c => ?_) (fun c => ?_)
        · refine g_iinc hZ dX9_lowest_39 rfl (by decide) ?_
          refine g_goto hZ 8 dX9_lowest_42 rfl ?_
          have : rootB (rg w n (S 61)) k = false := by simpa [rootB] using c
          rw [this] at ec
          exact ih (k + 1) left (by omega) (by rw [hl, ec]; simp) h0
        · have hrk : rootB (rg w n (S 61)) k = true := by simpa [rootB] using c
          rw [if_pos hrk] at ec
          refine g_iload_n hZ dX9_lowest_30 rfl ?_
          refine g_if_ne hZ 36 dX9_lowest_31 rfl (by omega) (fun c2 => ?_) (fun c2 => ?_)
          · refine g_iinc hZ dX9_lowest_36 rfl (by decide) ?_
            refine g_iinc hZ dX9_lowest_39 rfl (by decide) ?_
            refine g_goto hZ 8 dX9_lowest_42 rfl ?_
            exact ih (k + 1) (left + -1) (by omega) (by rw [hl, ec]; omega) (by omega)
          · refine g_iload_n hZ dX9_lowest_34 rfl ?_
            refine g_iret hZ dX9_lowest_35 rfl ⟨he₁, hm₁, ?_⟩
            have := flt_at hrk (show k < n by omega)
            unfold aLow
            rw [if_neg hneg, show i.toNat = cntB (rootB (rg w n (S 61))) k by omega, show (rts (rg w n (S 61)) n)[cntB (rootB (rg w n (S 61))) k]? = some k from this]
    exact loop n 0 i (by omega) (by simp [cntB]) (by omega)
theorem t_X9_regions (E : gE) (S : gS) (w h n : Nat) (hg : mG S w h n) (hB : mBd (S 61) n) : Ct E LAY mX9_regions [.ref (gad E 27)] S (fun r S' => Eqx [72] S S' ∧ r = some (iV ((rts (rg w n (S 61)) n).length : Int))) := by
  have hn := hg.n15
  refine Ct.intro LAY_ok (by decide +kernel) (Nat.le_of_ble_eq_true rfl) rfl ?_
  intro Z hZ
  refine g_aload_n hZ dX9_regions_0 rfl ?_
  refine g_callV hZ (t_X9_parts E S w h n hg hB) kX9_122 ⟨by decide, by decide⟩ rfl rfl rfl rfl (Nat.le_of_ble_eq_true rfl) dX9_regions_1 ?_
  rintro _ S₁ ⟨rfl, he₁, hr₁⟩
  have hg₁ := hg.x he₁ rfl rfl
  have loop : ∀ (m k : Nat), k + m = n → Z S₁ [(0, .ref (gad E 27)), (1, iV (cntB (rootB (rg w n (S 61))) k : Int)), (2, iV (k : Int))] 8 [] := by
    intro m
    induction m with
    | zero =>
      intro k hk
      refine g_iload_n hZ dX9_regions_8 rfl ?_
      refine g_aload_n hZ dX9_regions_9 rfl ?_
      refine g_callV hZ (t_X9_size E S₁ w h n hg₁) kX9_60 ⟨by decide, by decide⟩ rfl rfl rfl rfl (Nat.le_of_ble_eq_true rfl) dX9_regions_10 ?_
      rintro _ _ ⟨rfl, rfl⟩
      refine g_icmp_ge hZ 40 dX9_regions_13 rfl (by omega) (fun _ => ?_) (fun cX => absurd (by omega) cX)
      refine g_iload_n hZ dX9_regions_40 rfl ?_
      refine g_iret hZ dX9_regions_41 rfl ⟨he₁, by rw [rts_len, show n = k by omega]⟩
    | succ m ih =>
      intro k hk
      have rb := rg_bd (w := w) (B := S 61) (show k < n by omega)
      have ec : (cntB (rootB (rg w n (S 61))) (k + 1) : Int) = cntB (rootB (rg w n (S 61))) k + (if rootB (rg w n (S 61)) k = true then 1 else 0) := by rw [cntB]; split <;> simp
      refine g_iload_n hZ dX9_regions_8 rfl ?_
      refine g_aload_n hZ dX9_regions_9 rfl ?_
      refine g_callV hZ (t_X9_size E S₁ w h n hg₁) kX9_60 ⟨by decide, by decide⟩ rfl rfl rfl rfl (Nat.le_of_ble_eq_true rfl) dX9_regions_10 ?_
      rintro _ _ ⟨rfl, rfl⟩
      refine g_icmp_ge hZ 40 dX9_regions_13 rfl (by omega) (fun cX => absurd cX (by omega)) (fun _ => ?_)
      refine g_iload_n hZ dX9_regions_16 rfl ?_
      refine g_aload_n hZ dX9_regions_17 rfl ?_
      refine g_getr hZ fX9_51 rfl rfl dX9_regions_18 ?_
      refine g_iload_n hZ dX9_regions_21 rfl ?_
      refine g_iald hZ (k) rfl dX9_regions_22 (rfl) (by omega) (by decide) (hr₁ k (by omega)) ?_
      refine g_iload_n hZ dX9_regions_23 rfl ?_
      refine g_icmp_ne hZ 31 dX9_regions_24 rfl (by omega) (fun c => ?_) (fun c => ?_)
      · have : rootB (rg w n (S 61)) k = false := by simpa [rootB] using c
        rw [this] at ec
        refine g_iconst hZ dX9_regions_31 ?_
        refine g_iadd hZ dX9_regions_32 ?_
        refine g_istore_n hZ dX9_regions_33 (by decide) ?_
        refine g_iinc hZ dX9_regions_34 rfl (by decide) ?_
        refine g_goto hZ 8 dX9_regions_37 rfl ?_
        have := ih (k + 1) (by omega)
        rw [ec] at this
        exact this
      · have hrk : rootB (rg w n (S 61)) k = true := by simpa [rootB] using c
        rw [if_pos hrk] at ec
        refine g_iconst hZ dX9_regions_27 ?_
        refine g_goto hZ 32 dX9_regions_28 rfl ?_
        refine g_iadd hZ dX9_regions_32 ?_
        refine g_istore_n hZ dX9_regions_33 (by decide) ?_
        refine g_iinc hZ dX9_regions_34 rfl (by decide) ?_
        refine g_goto hZ 8 dX9_regions_37 rfl ?_
        have := ih (k + 1) (by omega)
        rw [ec] at this
        exact this
  refine g_iconst hZ dX9_regions_4 ?_
  refine g_istore_n hZ dX9_regions_5 (by decide) ?_
  refine g_iconst hZ dX9_regions_6 ?_
  refine g_istore_n hZ dX9_regions_7 (by decide) ?_
  exact loop n 0 (by omega)
def aRegOf (r : Nat → Int) (n : Nat) (f : Int) : Int := if 0 ≤ f ∧ f < n then (if r f.toNat < 0 then -1005 else (cntB (rootB r) (r f.toNat).toNat : Int)) else -1001
theorem t_X9_regionOf (E : gE) (S : gS) (w h n : Nat) (hg : mG S w h n) (hB : mBd (S 61) n) (f : Int) (hf : R32 f) : Ct E LAY mX9_regionOf [.ref (gad E 27), iV f] S (fun r S' => Eqx [72] S S' ∧ r = some (iV (aRegOf (rg w n (S 61)) n f))) := by
  have hn := hg.n15
  refine Ct.intro LAY_ok (by decide +kernel) (Nat.le_of_ble_eq_true rfl) rfl ?_
  intro Z hZ
  refine g_aload_n hZ dX9_regionOf_0 rfl ?_
  refine g_iload_n hZ dX9_regionOf_1 rfl ?_
  refine g_callV hZ (t_X9_isField E S w h n hg f hf) kX9_77 ⟨by decide, by decide⟩ rfl rfl rfl rfl (Nat.le_of_ble_eq_true rfl) dX9_regionOf_2 ?_
  rintro _ _ ⟨rfl, z1, rfl, hz1⟩
  rcases hz1 with ⟨rfl, hz1⟩ | ⟨rfl, hz1⟩
  · refine g_if_ne hZ 12 dX9_regionOf_5 rfl (by omega) (fun _ => ?_) (fun cX => absurd cX (by omega))
    refine g_aload_n hZ dX9_regionOf_12 rfl ?_
    refine g_callV hZ (t_X9_parts E S w h n hg hB) kX9_122 ⟨by decide, by decide⟩ rfl rfl rfl rfl (Nat.le_of_ble_eq_true rfl) dX9_regionOf_13 ?_
    rintro _ S₁ ⟨rfl, he₁, hr₁⟩
    have rb := rg_bd (w := w) (B := S 61) (show f.toNat < n by omega)
    have hrf := hr₁ f.toNat (by omega)
    have ef : f = ((f.toNat : Nat) : Int) := by omega
    have loop : ∀ (m k : Nat), k + m = (rg w n (S 61) f.toNat).toNat → Z S₁ [(0, .ref (gad E 27)), (1, iV f), (2, iV (cntB (rootB (rg w n (S 61))) k : Int)), (3, iV (k : Int))] 20 [] := by
      intro m
      induction m with
      | zero =>
        intro k hk
        refine g_iload_n hZ dX9_regionOf_20 rfl ?_
        refine g_aload_n hZ dX9_regionOf_21 rfl ?_
        refine g_getr hZ fX9_51 rfl rfl dX9_regionOf_22 ?_
        refine g_iload_n hZ dX9_regionOf_25 rfl ?_
        refine g_iald hZ (f.toNat) rfl dX9_regionOf_26 (ef) (by omega) (by decide) (hrf) ?_
        refine g_icmp_ge hZ 54 dX9_regionOf_27 rfl (by omega) (fun _ => ?_) (fun cX => absurd (by omega) cX)
        refine g_aload_n hZ dX9_regionOf_54 rfl ?_
        refine g_getr hZ fX9_51 rfl rfl dX9_regionOf_55 ?_
        refine g_iload_n hZ dX9_regionOf_58 rfl ?_
        refine g_iald hZ (f.toNat) rfl dX9_regionOf_59 (ef) (by omega) (by decide) (hrf) ?_
        refine g_if_ge hZ 69 dX9_regionOf_60 rfl (by omega) (fun c => ?_) (fun c => ?_)
        · refine g_iload_n hZ dX9_regionOf_69 rfl ?_
          refine g_iret hZ dX9_regionOf_70 rfl ⟨he₁, by unfold aRegOf; rw [if_pos hz1, if_neg (by omega), show (rg w n (S 61) f.toNat).toNat = k by omega]⟩
        · refine g_sipush hZ (z := (-1005)) dX9_regionOf_63 rfl ?_
          refine g_goto hZ 70 dX9_regionOf_66 rfl ?_
          refine g_iret hZ dX9_regionOf_70 rfl ⟨he₁, by unfold aRegOf; rw [if_pos hz1, if_pos (by omega)]⟩
      | succ m ih =>
        intro k hk
        have rb2 := rg_bd (w := w) (B := S 61) (show k < n by omega)
        have ec : (cntB (rootB (rg w n (S 61))) (k + 1) : Int) = cntB (rootB (rg w n (S 61))) k + (if rootB (rg w n (S 61)) k = true then 1 else 0) := by rw [cntB]; split <;> simp
        refine g_iload_n hZ dX9_regionOf_20 rfl ?_
        refine g_aload_n hZ dX9_regionOf_21 rfl ?_
        refine g_getr hZ fX9_51 rfl rfl dX9_regionOf_22 ?_
        refine g_iload_n hZ dX9_regionOf_25 rfl ?_
        refine g_iald hZ (f.toNat) rfl dX9_regionOf_26 (ef) (by omega) (by decide) (hrf) ?_
        refine g_icmp_ge hZ 54 dX9_regionOf_27 rfl (by omega) (fun cX => absurd cX (by omega)) (fun _ => ?_)
        refine g_iload_n hZ dX9_regionOf_30 rfl ?_
        refine g_aload_n hZ dX9_regionOf_31 rfl ?_
        refine g_getr hZ fX9_51 rfl rfl dX9_regionOf_32 ?_
        refine g_iload_n hZ dX9_regionOf_35 rfl ?_
        refine g_iald hZ (k) rfl dX9_regionOf_36 (rfl) (by omega) (by decide) (hr₁ k (by omega)) ?_
        refine g_iload_n hZ dX9_regionOf_37 rfl ?_
        refine g_icmp_ne hZ 45 dX9_regionOf_38 rfl (by omega) (fun c => ?_) (fun c => ?_)
        · have : rootB (rg w n (S 61)) k = false := by simpa [rootB] using c
          rw [this] at ec
          refine g_iconst hZ dX9_regionOf_45 ?_
          refine g_iadd hZ dX9_regionOf_46 ?_
          refine g_istore_n hZ dX9_regionOf_47 (by decide) ?_
          refine g_iinc hZ dX9_regionOf_48 rfl (by decide) ?_
          refine g_goto hZ 20 dX9_regionOf_51 rfl ?_
          have := ih (k + 1) (by omega)
          rw [ec] at this
          exact this
        · have hrk : rootB (rg w n (S 61)) k = true := by simpa [rootB] using c
          rw [if_pos hrk] at ec
          refine g_iconst hZ dX9_regionOf_41 ?_
          refine g_goto hZ 46 dX9_regionOf_42 rfl ?_
          refine g_iadd hZ dX9_regionOf_46 ?_
          refine g_istore_n hZ dX9_regionOf_47 (by decide) ?_
          refine g_iinc hZ dX9_regionOf_48 rfl (by decide) ?_
          refine g_goto hZ 20 dX9_regionOf_51 rfl ?_
          have := ih (k + 1) (by omega)
          rw [ec] at this
          exact this
    refine g_iconst hZ dX9_regionOf_16 ?_
    refine g_istore_n hZ dX9_regionOf_17 (by decide) ?_
    refine g_iconst hZ dX9_regionOf_18 ?_
    refine g_istore_n hZ dX9_regionOf_19 (by decide) ?_
    exact loop _ 0 (Nat.zero_add _)
  · refine g_if_ne hZ 12 dX9_regionOf_5 rfl (by omega) (fun cX => absurd (by omega) cX) (fun _ => ?_)
    refine g_sipush hZ (z := (-1001)) dX9_regionOf_8 rfl ?_
    refine g_iret hZ dX9_regionOf_11 rfl ⟨Eqx.rf, by unfold aRegOf; rw [if_neg hz1]⟩
theorem t_X9_within (E : gE) (S : gS) (w h n : Nat) (hg : mG S w h n) (hB : mBd (S 61) n) (hr : mRg S w n) (root v : Int) (rr : R32 root) (rv : R32 v) : Ct E LAY mX9_within [.ref (gad E 27), iV root, iV v] S (fun r S' => S = S' ∧ r = some (iV (cntB (wthB (rg w n (S 61)) (S 61) root v) n : Int))) := by
  have hn := hg.n15
  refine Ct.intro LAY_ok (by decide +kernel) (Nat.le_of_ble_eq_true rfl) rfl ?_
  intro Z hZ
  have loop : ∀ (m k : Nat), k + m = n → Z S [(0, .ref (gad E 27)), (1, iV root), (2, iV v), (3, iV (cntB (wthB (rg w n (S 61)) (S 61) root v) k : Int)), (4, iV (k : Int))] 5 [] := by
    intro m
    induction m with
    | zero =>
      intro k hk
      refine g_iload hZ dX9_within_5 rfl ?_
      refine g_aload_n hZ dX9_within_7 rfl ?_
      refine g_callV hZ (t_X9_size E S w h n hg) kX9_60 ⟨by decide, by decide⟩ rfl rfl rfl rfl (Nat.le_of_ble_eq_true rfl) dX9_within_8 ?_
      rintro _ _ ⟨rfl, rfl⟩
      refine g_icmp_ge hZ 54 dX9_within_11 rfl (by omega) (fun _ => ?_) (fun cX => absurd (by omega) cX)
      refine g_iload_n hZ dX9_within_54 rfl ?_
      refine g_iret hZ dX9_within_55 rfl ⟨rfl, by rw [show n = k by omega]⟩
    | succ m ih =>
      intro k hk
      have rb := rg_bd (w := w) (B := S 61) (show k < n by omega)
      have hBk := hB k (by omega)
      have ec : (cntB (wthB (rg w n (S 61)) (S 61) root v) (k + 1) : Int) = cntB (wthB (rg w n (S 61)) (S 61) root v) k + (if wthB (rg w n (S 61)) (S 61) root v k = true then 1 else 0) := by rw [cntB]; split <;> simp
      have yes : wthB (rg w n (S 61)) (S 61) root v k = true → Z S [(0, .ref (gad E 27)), (1, iV root), (2, iV v), (3, iV (cntB (wthB (rg w n (S 61)) (S 61) root v) k : Int)), (4, iV (k : Int))] 41 [iV (cntB (wthB (rg w n (S 61)) (S 61) root v) k : Int)] := by
        intro hy
        rw [if_pos hy] at ec
        refine g_iconst hZ dX9_within_41 ?_
        refine g_goto hZ 46 dX9_within_42 rfl ?_
        refine g_iadd hZ dX9_within_46 ?_
        refine g_istore_n hZ dX9_within_47 (by decide) ?_
        refine g_iinc hZ dX9_within_48 rfl (by decide) ?_
        refine g_goto hZ 5 dX9_within_51 rfl ?_
        have := ih (k + 1) (by omega)
        rw [ec] at this
        exact this
      have no : ¬ wthB (rg w n (S 61)) (S 61) root v k = true → Z S [(0, .ref (gad E 27)), (1, iV root), (2, iV v), (3, iV (cntB (wthB (rg w n (S 61)) (S 61) root v) k : Int)), (4, iV (k : Int))] 45 [iV (cntB (wthB (rg w n (S 61)) (S 61) root v) k : Int)] := by
        intro hy
        rw [if_neg hy] at ec
        refine g_iconst hZ dX9_within_45 ?_
        refine g_iadd hZ dX9_within_46 ?_
        refine g_istore_n hZ dX9_within_47 (by decide) ?_
        refine g_iinc hZ dX9_within_48 rfl (by decide) ?_
        refine g_goto hZ 5 dX9_within_51 rfl ?_
        have := ih (k + 1) (by omega)
        rw [ec] at this
        exact this
      refine g_iload hZ dX9_within_5 rfl ?_
      refine g_aload_n hZ dX9_within_7 rfl ?_
      refine g_callV hZ (t_X9_size E S w h n hg) kX9_60 ⟨by decide, by decide⟩ rfl rfl rfl rfl (Nat.le_of_ble_eq_true rfl) dX9_within_8 ?_
      rintro _ _ ⟨rfl, rfl⟩
      refine g_icmp_ge hZ 54 dX9_within_11 rfl (by omega) (fun cX => absurd cX (by omega)) (fun _ => ?_)
      refine g_iload_n hZ dX9_within_14 rfl ?_
      refine g_aload_n hZ dX9_within_15 rfl ?_
      refine g_getr hZ fX9_51 rfl rfl dX9_within_16 ?_
      refine g_iload hZ dX9_within_19 rfl ?_
      refine g_iald hZ (k) rfl dX9_within_21 (rfl) (by omega) (by decide) (hr k (by omega)) ?_
      refine g_iload_n hZ dX9_within_22 rfl ?_
      refine g_icmp_ne hZ 45 dX9_within_23 rfl (by omega) (fun c => ?_) (fun c => ?_)
      · exact no (by unfold wthB; simp; intro q; exact absurd q c)
      · refine g_iload_n hZ dX9_within_26 rfl ?_
        refine g_if_lt hZ 41 dX9_within_27 rfl (by omega) (fun c2 => ?_) (fun c2 => ?_)
        · exact yes (by unfold wthB; simp; exact ⟨c, Or.inl c2⟩)
        · refine g_aload_n hZ dX9_within_30 rfl ?_
          refine g_getr hZ fX9_16 rfl rfl dX9_within_31 ?_
          refine g_iload hZ dX9_within_34 rfl ?_
          refine g_iald hZ (k) rfl dX9_within_36 (rfl) (by omega) (by decide) (rfl) ?_
          refine g_iload_n hZ dX9_within_37 rfl ?_
          refine g_icmp_ne hZ 45 dX9_within_38 rfl (by omega) (fun c3 => ?_) (fun c3 => ?_)
          · exact no (by unfold wthB; simp; intro _; exact ⟨by omega, c3⟩)
          · exact yes (by unfold wthB; simp; exact ⟨c, Or.inr c3⟩)
  refine g_iconst hZ dX9_within_0 ?_
  refine g_istore_n hZ dX9_within_1 (by decide) ?_
  refine g_iconst hZ dX9_within_2 ?_
  refine g_istore hZ dX9_within_3 (by decide) ?_
  exact loop n 0 (by omega)
theorem t_X9_kind (E : gE) (S : gS) (w h n : Nat) (hg : mG S w h n) (hB : mBd (S 61) n) (hr : mRg S w n) (root : Int) (rr : R32 root) : Ct E LAY mX9_kind [.ref (gad E 27), iV root] S (fun r S' => S = S' ∧ r = some (iV (kindF (rg w n (S 61)) (S 61) n root))) := by
  have hn := hg.n15
  have l1 := cntB_le (wthB (rg w n (S 61)) (S 61) root 1) n
  have l2 := cntB_le (wthB (rg w n (S 61)) (S 61) root 2) n
  refine Ct.intro LAY_ok (by decide +kernel) (Nat.le_of_ble_eq_true rfl) rfl ?_
  intro Z hZ
  have second : ∀ (z : Int), z = (if 0 < cntB (wthB (rg w n (S 61)) (S 61) root 1) n then 1 else 0) → Z S [(0, .ref (gad E 27)), (1, iV root)] 14 [iV z] := by
    intro z hz
    refine g_aload_n hZ dX9_kind_14 rfl ?_
    refine g_iload_n hZ dX9_kind_15 rfl ?_
    refine g_iconst hZ dX9_kind_16 ?_
    refine g_callV hZ (t_X9_within E S w h n hg hB hr root 2 rr (by omega)) kX9_125 ⟨by decide, by decide⟩ rfl rfl rfl rfl (Nat.le_of_ble_eq_true rfl) dX9_kind_17 ?_
    rintro _ _ ⟨rfl, rfl⟩
    refine g_if_le hZ 27 dX9_kind_20 rfl (by omega) (fun c => ?_) (fun c => ?_)
    · refine g_iconst hZ dX9_kind_27 ?_
      refine g_iadd hZ dX9_kind_28 ?_
      refine g_iret hZ dX9_kind_29 rfl ⟨rfl, by unfold kindF; rw [hz, if_neg (show ¬ 0 < cntB (wthB (rg w n (S 61)) (S 61) root 2) n by omega)]⟩
    · refine g_iconst hZ dX9_kind_23 ?_
      refine g_goto hZ 28 dX9_kind_24 rfl ?_
      refine g_iadd hZ dX9_kind_28 ?_
      refine g_iret hZ dX9_kind_29 rfl ⟨rfl, by unfold kindF; rw [hz, if_pos (show 0 < cntB (wthB (rg w n (S 61)) (S 61) root 2) n by omega)]⟩
  refine g_aload_n hZ dX9_kind_0 rfl ?_
  refine g_iload_n hZ dX9_kind_1 rfl ?_
  refine g_iconst hZ dX9_kind_2 ?_
  refine g_callV hZ (t_X9_within E S w h n hg hB hr root 1 rr (by omega)) kX9_125 ⟨by decide, by decide⟩ rfl rfl rfl rfl (Nat.le_of_ble_eq_true rfl) dX9_kind_3 ?_
  rintro _ _ ⟨rfl, rfl⟩
  refine g_if_le hZ 13 dX9_kind_6 rfl (by omega) (fun c => ?_) (fun c => ?_)
  · refine g_iconst hZ dX9_kind_13 ?_
    exact second 0 (by rw [if_neg (by omega)])
  · refine g_iconst hZ dX9_kind_9 ?_
    refine g_goto hZ 14 dX9_kind_10 rfl ?_
    exact second 1 (by rw [if_pos (by omega)])
theorem kindF_bd {r B : Nat → Int} {n : Nat} {root : Int} : 0 ≤ kindF r B n root ∧ kindF r B n root ≤ 3 := by unfold kindF; split <;> split <;> omega
def aInfo (r B : Nat → Int) (n : Nat) (i v : Int) : Int := if 0 ≤ aLow r n i ∧ 0 ≤ v ∧ v ≤ 5 then (if v = 0 then kindF r B n (aLow r n i) else if v = 5 then aLow r n i else (cntB (wthB r B (aLow r n i) (if v = 1 then -1 else v - 2)) n : Int)) else -1001
theorem t_X9_regionInfo (E : gE) (S : gS) (w h n : Nat) (hg : mG S w h n) (hB : mBd (S 61) n) (i v : Int) (ri : R32 i) (rv : R32 v) : Ct E LAY mX9_regionInfo [.ref (gad E 27), iV i, iV v] S (fun r S' => Eqx [72] S S' ∧ r = some (iV (aInfo (rg w n (S 61)) (S 61) n i v))) := by
  have hn := hg.n15
  refine Ct.intro LAY_ok (by decide +kernel) (Nat.le_of_ble_eq_true rfl) rfl ?_
  intro Z hZ
  refine g_aload_n hZ dX9_regionInfo_0 rfl ?_
  refine g_iload_n hZ dX9_regionInfo_1 rfl ?_
  refine g_callV hZ (t_X9_lowest E S w h n hg hB i ri) kX9_128 ⟨by decide, by decide⟩ rfl rfl rfl rfl (Nat.le_of_ble_eq_true rfl) dX9_regionInfo_2 ?_
  rintro _ S₁ ⟨he₁, hr₁, rfl⟩
  have hg₁ := hg.x he₁ rfl rfl
  have e61 : S₁ 61 = S 61 := funext fun j => he₁ 61 j rfl
  have hB₁ : mBd (S₁ 61) n := by rw [e61]; exact hB
  have hlow := aLow_bd (r := rg w n (S 61)) (n := n) (i := i)
  generalize hA : aLow (rg w n (S 61)) n i = A at *
  have rA : R32 A := by
    rcases hlow with ⟨q, -⟩ | ⟨k, q, q2, -⟩ <;> omega
  have bad : ¬ (0 ≤ A ∧ 0 ≤ v ∧ v ≤ 5) → Z S₁ [(0, .ref (gad E 27)), (1, iV i), (2, iV v), (3, iV A)] 19 [] := by
    intro hb
    refine g_sipush hZ (z := (-1001)) dX9_regionInfo_19 rfl ?_
    refine g_iret hZ dX9_regionInfo_22 rfl ⟨he₁, by unfold aInfo; rw [hA, if_neg hb]⟩
  refine g_istore_n hZ dX9_regionInfo_5 (by decide) ?_
  refine g_iload_n hZ dX9_regionInfo_6 rfl ?_
  refine g_if_lt hZ 19 dX9_regionInfo_7 rfl (by omega) (fun c => ?_) (fun c => ?_)
  · exact bad (by omega)
  · refine g_iload_n hZ dX9_regionInfo_10 rfl ?_
    refine g_iconst hZ dX9_regionInfo_11 ?_
    refine g_iconst hZ dX9_regionInfo_12 ?_
    refine g_callS hZ (t_X9_in E S₁ v 0 5 rv (by omega) (by omega)) kX9_64 ⟨by decide, by decide⟩ rfl rfl (Nat.le_of_ble_eq_true rfl) dX9_regionInfo_13 ?_
    rintro _ _ ⟨rfl, z1, rfl, hz1⟩
    rcases hz1 with ⟨rfl, hz1⟩ | ⟨rfl, hz1⟩
    · refine g_if_ne hZ 23 dX9_regionInfo_16 rfl (by omega) (fun _ => ?_) (fun cX => absurd cX (by omega))
      have hall : 0 ≤ A ∧ 0 ≤ v ∧ v ≤ 5 := ⟨by omega, hz1⟩
      refine g_iload_n hZ dX9_regionInfo_23 rfl ?_
      refine g_if_ne hZ 35 dX9_regionInfo_24 rfl (by omega) (fun c2 => ?_) (fun c2 => ?_)
      · refine g_iload_n hZ dX9_regionInfo_35 rfl ?_
        refine g_iconst hZ dX9_regionInfo_36 ?_
        refine g_icmp_ne hZ 44 dX9_regionInfo_37 rfl (by omega) (fun c3 => ?_) (fun c3 => ?_)
        · have wi : ∀ (x : Int), x = (if v = 1 then -1 else v - 2) → Z S₁ [(0, .ref (gad E 27)), (1, iV i), (2, iV v), (3, iV A)] 58 [iV x, iV A, .ref (gad E 27)] := by
            intro x hx
            have rx : R32 x := by rw [hx]; split <;> omega
            refine g_callV hZ (t_X9_within E S₁ w h n hg₁ hB₁ hr₁ A x rA rx) kX9_125 ⟨by decide, by decide⟩ rfl rfl rfl rfl (Nat.le_of_ble_eq_true rfl) dX9_regionInfo_58 ?_
            rintro _ _ ⟨rfl, rfl⟩
            refine g_iret hZ dX9_regionInfo_61 rfl ⟨he₁, by unfold aInfo; rw [hA, if_pos hall, if_neg c2, if_neg c3, e61, hx]⟩
          refine g_aload_n hZ dX9_regionInfo_44 rfl ?_
          refine g_iload_n hZ dX9_regionInfo_45 rfl ?_
          refine g_iload_n hZ dX9_regionInfo_46 rfl ?_
          refine g_iconst hZ dX9_regionInfo_47 ?_
          refine g_icmp_ne hZ 55 dX9_regionInfo_48 rfl (by omega) (fun c4 => ?_) (fun c4 => ?_)
          · refine g_iload_n hZ dX9_regionInfo_55 rfl ?_
            refine g_iconst hZ dX9_regionInfo_56 ?_
            refine g_isub hZ dX9_regionInfo_57 ?_
            exact wi _ (by rw [if_neg c4])
          · refine g_iconst hZ dX9_regionInfo_51 ?_
            refine g_goto hZ 58 dX9_regionInfo_52 rfl ?_
            exact wi _ (by rw [if_pos c4])
        · refine g_iload_n hZ dX9_regionInfo_40 rfl ?_
          refine g_goto hZ 61 dX9_regionInfo_41 rfl ?_
          refine g_iret hZ dX9_regionInfo_61 rfl ⟨he₁, by unfold aInfo; rw [hA, if_pos hall, if_neg c2, if_pos c3]⟩
      · refine g_aload_n hZ dX9_regionInfo_27 rfl ?_
        refine g_iload_n hZ dX9_regionInfo_28 rfl ?_
        refine g_callV hZ (t_X9_kind E S₁ w h n hg₁ hB₁ hr₁ A rA) kX9_131 ⟨by decide, by decide⟩ rfl rfl rfl rfl (Nat.le_of_ble_eq_true rfl) dX9_regionInfo_29 ?_
        rintro _ _ ⟨rfl, rfl⟩
        refine g_goto hZ 61 dX9_regionInfo_32 rfl ?_
        refine g_iret hZ dX9_regionInfo_61 rfl ⟨he₁, by unfold aInfo; rw [hA, if_pos hall, if_pos c2, e61]⟩
    · refine g_if_ne hZ 23 dX9_regionInfo_16 rfl (by omega) (fun cX => absurd (by omega) cX) (fun _ => ?_)
      exact bad (by omega)
end
section
/-! boards as numbers, tables by linear probing, the list of what is reached (fb_holes: a starting text of the kit) -/
theorem fb_holes : ∀ (m n : Nat) (f : Nat → Nat), (∀ i, i < n → f i < m) → (∀ i j, i < j → j < n → f i ≠ f j) → n ≤ m := by
  intro m
  induction m with
  | zero =>
    intro n f h1 _
    rcases Nat.eq_zero_or_pos n with h | h
    · omega
    · exact absurd (h1 0 h) (Nat.not_lt_zero _)
  | succ m ih =>
    intro n f h1 h2
    by_cases hx : ∃ i, i < n ∧ f i = m
    · obtain ⟨a, ha, hfa⟩ := hx
      have hg := ih (n - 1) (fun i => if i < a then f i else f (i + 1)) (by
        intro i hi
        by_cases q : i < a
        · simp only [if_pos q]
          have b1 := h1 i (by omega)
          have b2 := h2 i a q ha
          omega
        · simp only [if_neg q]
          have b1 := h1 (i + 1) (by omega)
          have b2 := h2 a (i + 1) (by omega) (by omega)
          omega) (by
        intro i j hij hj
        by_cases q : i < a
        · by_cases r : j < a
          · simp only [if_pos q, if_pos r]
            exact h2 i j hij (by omega)
          · simp only [if_pos q, if_neg r]
            exact h2 i (j + 1) (by omega) (by omega)
        · have r : ¬ j < a := by omega
          simp only [if_neg q, if_neg r]
          exact h2 (i + 1) (j + 1) (by omega) (by omega))
      omega
    · have hg := ih n f (fun i hi => by
        have b1 := h1 i hi
        have b2 : f i ≠ m := fun e => hx ⟨i, hi, e⟩
        omega) h2
      omega
def cod (x : Nat → Int) : Nat → Nat
  | 0 => 0
  | n + 1 => cod x n + (x n).toNat * 4 ^ n
theorem cod_lt {x : Nat → Int} : ∀ {n : Nat}, mBd x n → cod x n < 4 ^ n
  | 0, _ => Nat.one_pos
  | n + 1, h => by
    have ih := cod_lt (x := x) (n := n) (fun k hk => h k (by omega))
    have h1 := h n (by omega)
    have h2 : (x n).toNat * 4 ^ n ≤ 3 * 4 ^ n := Nat.mul_le_mul_right _ (by omega)
    rw [cod, Nat.pow_succ]
    omega
theorem cod_cong {x y : Nat → Int} : ∀ {n : Nat}, (∀ k, k < n → x k = y k) → cod x n = cod y n
  | 0, _ => rfl
  | n + 1, h => by rw [cod, cod, cod_cong (fun k hk => h k (by omega)), h n (by omega)]
theorem p4_lt {k : Nat} (h : k ≤ 14) : 0 < 4 ^ k ∧ 4 ^ k ≤ 268435456 := by
  constructor
  · exact Nat.pow_pos (by omega)
  · have := Nat.pow_le_pow_right (show 0 < 4 by omega) h
    have e : 4 ^ 14 = 268435456 := by decide
    omega
theorem cod_dig {x : Nat → Int} : ∀ {n : Nat}, mBd x n → ∀ (b k : Nat), k < n → (cod x n + 4 ^ n * b) / 4 ^ k % 4 = (x k).toNat
  | 0, _, _, k, hk => absurd hk (Nat.not_lt_zero k)
  | n + 1, h, b, k, hk => by
    have hl := cod_lt (x := x) (n := n) (fun k hk => h k (by omega))
    have hxn := h n (by omega)
    have e1 : cod x (n + 1) + 4 ^ (n + 1) * b = cod x n + 4 ^ n * ((x n).toNat + 4 * b) := by
      rw [cod, Nat.pow_succ, Nat.mul_add, Nat.mul_comm (4 ^ n) (x n).toNat, Nat.mul_assoc]
      omega
    rw [e1]
    by_cases q : k = n
    · subst q
      rw [Nat.add_mul_div_left _ _ (Nat.pow_pos (by omega)), Nat.div_eq_of_lt hl]
      omega
    · exact cod_dig (x := x) (n := n) (fun k hk => h k (by omega)) _ k (by omega)
theorem cod_hi {x : Nat → Int} {n k : Nat} (h : mBd x n) (hk : n ≤ k) : cod x n / 4 ^ k % 4 = 0 := by
  have hl := cod_lt h
  have h2 := Nat.pow_le_pow_right (show 0 < 4 by omega) hk
  rw [Nat.div_eq_of_lt (by omega)]
theorem cod_lt30 {x : Nat → Int} {n : Nat} (hn : n ≤ 15) (h : mBd x n) : cod x n < 1073741824 := by
  have h1 := cod_lt h
  have h2 := Nat.pow_le_pow_right (show 0 < 4 by omega) hn
  have e : 4 ^ 15 = 1073741824 := by decide
  omega
def bdP (p k : Nat) : Int := ((p / 4 ^ k % 4 : Nat) : Int)
def sdP (p : Nat) : Nat := p / 1073741824 % 2 + 1
theorem bdP_bd (p n : Nat) : mBd (bdP p) n := fun k _ => by unfold bdP; omega
theorem sdP_12 (p : Nat) : ((sdP p : Nat) : Int) = 1 ∨ ((sdP p : Nat) : Int) = 2 := by unfold sdP; omega
theorem bdP_side {c b k : Nat} (hk : k < 15) : bdP (c + 1073741824 * b) k = bdP c k := by
  unfold bdP
  have e : 1073741824 * b = 4 ^ k * (4 * (4 ^ (14 - k) * b)) := by
    rw [← Nat.mul_assoc, ← Nat.mul_assoc, Nat.mul_comm (4 ^ k) 4, ← Nat.pow_succ']
    have : 4 ^ (k + 1) * 4 ^ (14 - k) = 4 ^ 15 := by rw [← Nat.pow_add]; congr 1; omega
    rw [this]
  rw [e, Nat.add_mul_div_left _ _ (Nat.pow_pos (by omega))]
  congr 1
  omega
theorem sdP_side {c b : Nat} (hc : c < 1073741824) (hb : b < 2) : sdP (c + 1073741824 * b) = b + 1 := by unfold sdP; omega
theorem bdP_cod {x : Nat → Int} {n k : Nat} (h : mBd x n) (hk : k < n) : bdP (cod x n) k = x k := by
  have := cod_dig h 0 k hk
  rw [Nat.mul_zero, Nat.add_zero] at this
  unfold bdP
  rw [this]
  have := h k hk
  omega
/-- the number of the board behind a move -/
def nxP (n : Nat) (alt : Bool) (p : Nat) (q : Nat × Nat × Nat) : Nat := cod (aftB (bdP p) q (sdP p : Int)) n + 1073741824 * (cond alt (2 - sdP p) (sdP p - 1))
def scP (w n : Nat) (alt : Bool) (p : Nat) : List Nat := (mvs w n (bdP p) (sdP p : Int)).map (nxP n alt p)
def vP (n p : Nat) : Prop := p < 2147483648 ∧ mC3 (bdP p) n
theorem nxP_facts {w h n : Nat} {alt : Bool} {p : Nat} {q : Nat × Nat × Nat} (hg : gOK w h n) (hq : q ∈ mvs w n (bdP p) (sdP p : Int)) : nxP n alt p q < 2147483648 ∧ sdP (nxP n alt p q) = cond alt (3 - sdP p) (sdP p) ∧ ∀ k, k < n → bdP (nxP n alt p q) k = aftB (bdP p) q (sdP p : Int) k := by
  have hn := hg.2.2.2.2.2
  have hb := aftB_bd (q := q) (bdP_bd p n) (sdP_12 p)
  have hl := cod_lt30 hn hb
  have h12 := sdP_12 p
  have hbb : cond alt (2 - sdP p) (sdP p - 1) < 2 := by cases alt <;> simp <;> omega
  refine ⟨?_, ?_, fun k hk => ?_⟩
  · unfold nxP; omega
  · unfold nxP
    rw [sdP_side hl hbb]
    cases alt <;> simp <;> omega
  · unfold nxP
    rw [bdP_side (by omega), bdP_cod hb hk]
theorem vP_nx {w h n : Nat} {alt : Bool} {p : Nat} (hg : gOK w h n) (hp : vP n p) : ∀ c ∈ scP w n alt p, vP n c := by
  intro c hc
  obtain ⟨q, hq, rfl⟩ := List.mem_map.mp hc
  obtain ⟨h1, h2, h3⟩ := nxP_facts (alt := alt) hg hq
  refine ⟨h1, ?_, ?_⟩
  · rw [cntZ_cong h3, aftB_cnt hg (sdP_12 p) hq (Or.inl rfl)]; exact hp.2.1
  · rw [cntZ_cong h3, aftB_cnt hg (sdP_12 p) hq (Or.inr rfl)]; exact hp.2.2
/-! a table by linear probing: place and list -/
def htI (f : Nat → Int) (N : Nat) (hsh : Nat → Nat) (L : List Nat) : Prop := (∀ s, s < N → 0 ≤ f s ∧ f s ≤ (L.length : Int)) ∧ (∀ s t, s < N → t < N → 0 < f s → f s = f t → s = t) ∧ ∀ (i c : Nat), L[i]? = some c → ∃ d, d < N ∧ f ((hsh c + d) % N) = ((i + 1 : Nat) : Int) ∧ ∀ e, e < d → 0 < f ((hsh c + e) % N)
def modsep (N : Nat) : Prop := 0 < N ∧ ∀ a i j : Nat, i < j → j < N → (a + i) % N ≠ (a + j) % N
theorem ht_stop {f : Nat → Int} {N : Nat} {hsh : Nat → Nat} {L : List Nat} (hN : modsep N) (h : htI f N hsh L) (hl : L.length < N) (a : Nat) : ∃ d, d < N ∧ f ((a + d) % N) = 0 := by
  refine Classical.byContradiction fun hno => ?_
  have pos : ∀ d, d < N → 0 < f ((a + d) % N) := fun d hd => by
    have h1 := (h.1 ((a + d) % N) (Nat.mod_lt _ hN.1)).1
    have h2 : f ((a + d) % N) ≠ 0 := fun e => hno ⟨d, hd, e⟩
    omega
  have := fb_holes L.length N (fun i => (f ((a + i) % N)).toNat - 1) (fun i hi => by
    have h1 := (h.1 ((a + i) % N) (Nat.mod_lt _ hN.1)).2
    have h2 := pos i hi
    show (f ((a + i) % N)).toNat - 1 < L.length
    omega) (fun i j hij hj e => by
    have h1 := pos i (by omega)
    have h2 := pos j hj
    have e2 : f ((a + i) % N) = f ((a + j) % N) := by
      have e3 : (f ((a + i) % N)).toNat - 1 = (f ((a + j) % N)).toNat - 1 := e
      omega
    exact hN.2 a i j hij hj (h.2.1 _ _ (Nat.mod_lt _ hN.1) (Nat.mod_lt _ hN.1) h1 e2))
  omega
theorem ht_no {f : Nat → Int} {N : Nat} {hsh : Nat → Nat} {L : List Nat} (h : htI f N hsh L) {c d : Nat} (h0 : f ((hsh c + d) % N) = 0) (hd : ∀ e, e < d → 0 < f ((hsh c + e) % N) ∧ L[(f ((hsh c + e) % N)).toNat - 1]? ≠ some c) : c ∉ L := by
  intro hc
  obtain ⟨i, hi⟩ := List.getElem?_of_mem hc
  obtain ⟨d0, h1, h2, h3⟩ := h.2.2 i c hi
  rcases Nat.lt_trichotomy d d0 with q | q | q
  · have := h3 d q; omega
  · subst q; omega
  · exact (hd d0 q).2 (by rw [h2]; show L[((i + 1 : Nat) : Int).toNat - 1]? = some c; rw [show ((i + 1 : Nat) : Int).toNat - 1 = i by omega]; exact hi)
theorem ht_add {f g : Nat → Int} {N : Nat} {hsh : Nat → Nat} {L : List Nat} (hN : modsep N) (h : htI f N hsh L) {c d : Nat} (hd : d < N) (h0 : f ((hsh c + d) % N) = 0) (hp : ∀ e, e < d → 0 < f ((hsh c + e) % N)) (hg : ∀ s, g s = if s = (hsh c + d) % N then ((L.length + 1 : Nat) : Int) else f s) : htI g N hsh (L ++ [c]) := by
  have hll : (L ++ [c]).length = L.length + 1 := by simp
  have hs := Nat.mod_lt (hsh c + d) hN.1
  refine ⟨fun s hs2 => ?_, fun s t hs2 ht2 h1 h2 => ?_, fun i x hi => ?_⟩
  · rw [hg s, hll]
    have := h.1 s hs2
    split <;> omega
  · rw [hg s, hg t] at h2
    rw [hg s] at h1
    by_cases q1 : s = (hsh c + d) % N
    · by_cases q2 : t = (hsh c + d) % N
      · rw [q1, q2]
      · rw [if_pos q1, if_neg q2] at h2
        have := (h.1 t ht2).2
        omega
    · by_cases q2 : t = (hsh c + d) % N
      · rw [if_neg q1, if_pos q2] at h2
        have := (h.1 s hs2).2
        omega
      · rw [if_neg q1, if_neg q2] at h2
        rw [if_neg q1] at h1
        exact h.2.1 s t hs2 ht2 h1 h2
  · have hil := (List.getElem?_eq_some_iff.mp hi).1
    rw [hll] at hil
    by_cases q : i < L.length
    · rw [List.getElem?_append_left q] at hi
      obtain ⟨d0, e1, e2, e3⟩ := h.2.2 i x hi
      refine ⟨d0, e1, ?_, fun e he => ?_⟩
      · rw [hg, if_neg (fun z => by rw [z, h0] at e2; omega)]; exact e2
      · rw [hg]
        have := e3 e he
        split <;> omega
    · have : i = L.length := by omega
      subst this
      rw [List.getElem?_append_right (Nat.le_refl _)] at hi
      simp at hi
      subst hi
      refine ⟨d, hd, ?_, fun e he => ?_⟩
      · rw [hg, if_pos rfl]
      · rw [hg]
        have := hp e he
        split <;> omega
theorem ht_nil (N : Nat) (hsh : Nat → Nat) {f : Nat → Int} (h : ∀ s, s < N → f s = 0) : htI f N hsh [] := ⟨fun s hs => by rw [h s hs]; simp, fun s t hs _ h1 => by rw [h s hs] at h1; omega, fun i c hi => by simp at hi⟩
/-! what is reached -/
def addL (L : List Nat) : List Nat → Option (List Nat)
  | [] => some L
  | c :: r => if c ∈ L then addL L r else if L.length = 1500 then none else addL (L ++ [c]) r
def bfs (sc : Nat → List Nat) : Nat → Nat → List Nat → Option (List Nat)
  | 0, _, L => some L
  | f + 1, k, L => match L[k]? with
    | none => some L
    | some p => match addL L (sc p) with
      | none => none
      | some L2 => bfs sc f (k + 1) L2
theorem addL_ok : ∀ {r L L2 : List Nat}, addL L r = some L2 → L.Nodup → L.length ≤ 1500 → (∃ N, L2 = L ++ N ∧ (∀ x ∈ N, x ∈ r)) ∧ L2.Nodup ∧ L2.length ≤ 1500 ∧ ∀ x ∈ r, x ∈ L2
  | [], L, L2, h, hn, hl => by
    cases h
    exact ⟨⟨[], by simp, by simp⟩, hn, hl, by simp⟩
  | c :: r, L, L2, h, hn, hl => by
    rw [addL] at h
    by_cases q : c ∈ L
    · rw [if_pos q] at h
      obtain ⟨⟨N, h1, h2⟩, h3, h4, h5⟩ := addL_ok h hn hl
      refine ⟨⟨N, h1, fun x hx => List.mem_cons_of_mem _ (h2 x hx)⟩, h3, h4, fun x hx => ?_⟩
      rcases List.mem_cons.mp hx with e | hx
      · rw [e, h1]; exact List.mem_append_left _ q
      · exact h5 x hx
    · rw [if_neg q] at h
      by_cases q2 : L.length = 1500
      · rw [if_pos q2] at h; cases h
      · rw [if_neg q2] at h
        obtain ⟨⟨N, h1, h2⟩, h3, h4, h5⟩ := addL_ok h (List.nodup_append.mpr ⟨hn, by simp, fun a ha b hb e => q (by rw [List.mem_singleton] at hb; rw [← hb, ← e]; exact ha)⟩) (by simp; omega)
        refine ⟨⟨c :: N, by rw [h1]; simp, fun x hx => ?_⟩, h3, h4, fun x hx => ?_⟩
        · rcases List.mem_cons.mp hx with e | hx
          · rw [e]; exact List.mem_cons_self
          · exact List.mem_cons_of_mem _ (h2 x hx)
        · rcases List.mem_cons.mp hx with e | hx
          · rw [e, h1]; simp
          · exact h5 x hx
/-- the list while it grows -/
def bI (sc : Nat → List Nat) (rk : Nat → Nat) (Q : Nat → Prop) (k : Nat) (L : List Nat) : Prop := L.Nodup ∧ L.length ≤ 1500 ∧ k ≤ L.length ∧ (∀ p ∈ L, Q p) ∧ (∀ i p : Nat, i < k → L[i]? = some p → ∀ c ∈ sc p, c ∈ L) ∧ (∀ i j p q : Nat, i ≤ j → L[i]? = some p → L[j]? = some q → rk p ≤ rk q) ∧ (∀ p j q : Nat, L[k]? = some p → L[j]? = some q → rk q ≤ rk p + 1)
theorem bI_step {sc : Nat → List Nat} {rk : Nat → Nat} {Q : Nat → Prop} (hQ : ∀ p, Q p → ∀ c ∈ sc p, Q c ∧ rk c = rk p + 1) {k p : Nat} {L L2 : List Nat} (h : bI sc rk Q k L) (hk : L[k]? = some p) (ha : addL L (sc p) = some L2) : bI sc rk Q (k + 1) L2 := by
  obtain ⟨h1, h2, h3, h4, h5, h6, h7⟩ := h
  obtain ⟨⟨N, n1, n2⟩, a2, a3, a4⟩ := addL_ok ha h1 h2
  have hkl := (List.getElem?_eq_some_iff.mp hk).1
  have hp := h4 p (List.mem_of_getElem? hk)
  have rN : ∀ x ∈ N, Q x ∧ rk x = rk p + 1 := fun x hx => hQ p hp x (n2 x hx)
  have get : ∀ j q : Nat, L2[j]? = some q → (j < L.length ∧ L[j]? = some q) ∨ (L.length ≤ j ∧ q ∈ N) := by
    intro j q hj
    rw [n1] at hj
    by_cases z : j < L.length
    · rw [List.getElem?_append_left z] at hj; exact Or.inl ⟨z, hj⟩
    · rw [List.getElem?_append_right (by omega)] at hj
      exact Or.inr ⟨by omega, List.mem_of_getElem? hj⟩
  have up : ∀ j q : Nat, L2[j]? = some q → rk q ≤ rk p + 1 := by
    intro j q hj
    rcases get j q hj with ⟨_, z⟩ | ⟨_, z⟩
    · exact h7 p j q hk z
    · rw [(rN q z).2]; exact Nat.le_refl _
  have hll : L2.length = L.length + N.length := by rw [n1, List.length_append]
  refine ⟨a2, a3, by omega, fun x hx => ?_, fun i x hi hix c hc => ?_, fun i j x y hij hx hy => ?_, fun x j y hx hy => ?_⟩
  · rw [n1] at hx
    rcases List.mem_append.mp hx with z | z
    · exact h4 x z
    · exact (rN x z).1
  · rcases get i x hix with ⟨z1, z2⟩ | ⟨z1, z2⟩
    · by_cases e : i = k
      · subst e
        rw [hk] at z2
        cases z2
        exact a4 c hc
      · rw [n1]; exact List.mem_append_left _ (h5 i x (by omega) z2 c hc)
    · omega
  · rcases get j y hy with ⟨y1, y2⟩ | ⟨y1, y2⟩
    · rcases get i x hx with ⟨z1, z2⟩ | ⟨z1, z2⟩
      · exact h6 i j x y hij z2 y2
      · omega
    · rw [(rN y y2).2]; exact up i x hx
  · have hxy := up j y hy
    have hpx : rk p ≤ rk x := by
      rcases get (k + 1) x hx with ⟨z1, z2⟩ | ⟨z1, z2⟩
      · exact h6 k (k + 1) p x (by omega) hk z2
      · rw [(rN x z2).2]; omega
    omega
/-- the whole list -/
def bOK (sc : Nat → List Nat) (Q : Nat → Prop) (L : List Nat) : Prop := L.Nodup ∧ L.length ≤ 1500 ∧ (∀ p ∈ L, Q p) ∧ ∀ i p c : Nat, L[i]? = some p → c ∈ sc p → ∃ j, i < j ∧ L[j]? = some c
theorem bfs_pre {sc : Nat → List Nat} : ∀ {f k : Nat} {L L2 : List Nat}, L.Nodup → L.length ≤ 1500 → bfs sc f k L = some L2 → ∃ N, L2 = L ++ N
  | 0, k, L, L2, _, _, h => by cases h; exact ⟨[], by simp⟩
  | f + 1, k, L, L2, h1, h2, h => by
    rw [bfs] at h
    cases e : L[k]? with
    | none => rw [e] at h; cases h; exact ⟨[], by simp⟩
    | some p =>
      rw [e] at h
      cases e2 : addL L (sc p) with
      | none => simp [e2] at h
      | some L3 =>
        simp only [e2] at h
        obtain ⟨⟨N, n1, -⟩, a2, a3, -⟩ := addL_ok e2 h1 h2
        obtain ⟨N2, n2⟩ := bfs_pre a2 a3 h
        exact ⟨N ++ N2, by rw [n2, n1, List.append_assoc]⟩
theorem bfs_ok {sc : Nat → List Nat} {rk : Nat → Nat} {Q : Nat → Prop} (hQ : ∀ p, Q p → ∀ c ∈ sc p, Q c ∧ rk c = rk p + 1) : ∀ {f k : Nat} {L L2 : List Nat}, f + k = 1501 → bI sc rk Q k L → bfs sc f k L = some L2 → bOK sc Q L2
  | 0, k, L, L2, hf, h, _ => by
    have := h.2.1
    have := h.2.2.1
    omega
  | f + 1, k, L, L2, hf, h, hb => by
    rw [bfs] at hb
    cases e : L[k]? with
    | none =>
      rw [e] at hb
      cases hb
      obtain ⟨h1, h2, h3, h4, h5, h6, h7⟩ := h
      have hk := List.getElem?_eq_none_iff.mp e
      refine ⟨h1, h2, h4, fun i p c hi hc => ?_⟩
      have hil := (List.getElem?_eq_some_iff.mp hi).1
      obtain ⟨j, hj⟩ := List.getElem?_of_mem (h5 i p (by omega) hi c hc)
      refine ⟨j, ?_, hj⟩
      have hr := (hQ p (h4 p (List.mem_of_getElem? hi)) c hc).2
      rcases Nat.lt_or_ge i j with z | z
      · exact z
      · have := h6 j i c p z hj hi; omega
    | some p =>
      rw [e] at hb
      cases e2 : addL L (sc p) with
      | none => simp [e2] at hb
      | some L3 =>
        simp only [e2] at hb
        exact bfs_ok hQ (by omega) (bI_step hQ h e e2) hb
theorem bI_0 {sc : Nat → List Nat} {rk : Nat → Nat} {Q : Nat → Prop} {p : Nat} (hp : Q p) : bI sc rk Q 0 [p] := by
  have one : ∀ (j q : Nat), ([p] : List Nat)[j]? = some q → q = p := fun j q hj => by
    have := List.mem_of_getElem? hj
    simpa using this
  exact ⟨by simp, by simp, by simp, by simpa using hp, fun i _ hi => absurd hi (Nat.not_lt_zero i), fun i j x y _ hx hy => by rw [one i x hx, one j y hy]; exact Nat.le_refl _, fun x j y hx hy => by rw [one 0 x hx, one j y hy]; omega⟩
/-- how many fields are burned -/
def bcP (n p : Nat) : Nat := cntZ (bdP p) 3 n
theorem aftB_cnt3 {w h n : Nat} {B : Nat → Int} {s : Int} {q : Nat × Nat × Nat} (hg : gOK w h n) (hs : s = 1 ∨ s = 2) (hq : q ∈ mvs w n B s) : cntZ (aftB B q s) 3 n = cntZ B 3 n + 1 := by
  obtain ⟨h1, h2, h3, h4, h5, h6, h7, h8⟩ := mvs_facts hg (by omega) hq
  have e1 := cntZ_set B q.1 0 3 n
  have e2 := cntZ_set (fun f => if f = q.1 then 0 else B f) q.2.1 s 3 n
  have e3 := cntZ_set (fun f => if f = q.2.1 then s else if f = q.1 then 0 else B f) q.2.2 3 3 n
  have e4 : (fun f => if f = q.2.2 then 3 else (fun f => if f = q.2.1 then s else if f = q.1 then 0 else B f) f) = aftB B q s := rfl
  have z1 : (if q.2.1 = q.1 then (0 : Int) else B q.2.1) = 0 := by split <;> omega
  have z2 : (if q.2.2 = q.2.1 then s else if q.2.2 = q.1 then (0 : Int) else B q.2.2) = 0 := by
    rw [if_neg (fun e => h7 e.symm)]
    rcases h8 with h8 | h8
    · rw [if_pos h8]
    · split <;> omega
  simp only [z1] at e2
  simp only [z2] at e3
  rw [e4] at e3
  rw [h4] at e1
  have n0 : ¬ ((0 : Int) = 3) := by omega
  have ns : ¬ (s = 3) := by omega
  simp only [n0, ns, and_false, if_false, h3, true_and, if_true] at e1 e2 e3
  omega
theorem bcP_nx {w h n : Nat} {alt : Bool} {p : Nat} (hg : gOK w h n) : ∀ c ∈ scP w n alt p, bcP n c = bcP n p + 1 := by
  intro c hc
  obtain ⟨q, hq, rfl⟩ := List.mem_map.mp hc
  unfold bcP
  rw [cntZ_cong (nxP_facts (alt := alt) hg hq).2.2, aftB_cnt3 hg (sdP_12 p) hq]
end
section
/-! the reference: boards as numbers, what is reached -/
theorem gi_shl4 {a k : Nat} (hk : k ≤ 14) (h : a ≤ 3) : Int32.ofInt (a : Int) <<< (Int32.ofInt (2 * (k : Int)) &&& 31) = Int32.ofInt ((a * 4 ^ k : Nat) : Int) := by
  have e : (2 * (k : Int)) = ((2 * k : Nat) : Int) := by omega
  have p := p4_lt hk
  have e2 : 2 ^ (2 * k) = 4 ^ k := by rw [Nat.pow_mul]
  rw [e, gi_shl (by omega) (by rw [e2]; have : a * 4 ^ k ≤ 3 * 4 ^ k := Nat.mul_le_mul_right _ h; omega), e2]
theorem gi_or4 {a b k : Nat} (h : a < 4 ^ k) : Int32.ofInt (a : Int) ||| Int32.ofInt ((b * 4 ^ k : Nat) : Int) = Int32.ofInt ((a + b * 4 ^ k : Nat) : Int) := by
  have e2 : 2 ^ (2 * k) = 4 ^ k := by rw [Nat.pow_mul]
  rw [← e2] at h ⊢
  exact gi_ors h
theorem gi_shr4 {a k : Nat} (hk : k ≤ 14) (h : a < 2147483648) : Int32.ofInt (a : Int) >>> (Int32.ofInt (2 * (k : Int)) &&& 31) = Int32.ofInt ((a / 4 ^ k : Nat) : Int) := by
  have e : (2 * (k : Int)) = ((2 * k : Nat) : Int) := by omega
  have e2 : 2 ^ (2 * k) = 4 ^ k := by rw [Nat.pow_mul]
  rw [e, gi_shr (by omega) h, e2]
theorem gi_and3 (a : Nat) : Int32.ofInt (a : Int) &&& Int32.ofInt 3 = Int32.ofInt ((a % 4 : Nat) : Int) := gi_mask a 2
theorem gi_and1 (a : Nat) : Int32.ofInt (a : Int) &&& Int32.ofInt 1 = Int32.ofInt ((a % 2 : Nat) : Int) := gi_mask a 1
/-- the board of a region alone; root -1: the whole board -/
def alnB (r B : Nat → Int) (root : Int) : Nat → Int := fun k => if 0 ≤ root ∧ r k ≠ root then 3 else B k
theorem alnB_bd {r B : Nat → Int} {root : Int} {n : Nat} (h : mBd B n) : mBd (alnB r B root) n := fun k hk => by
  have := h k hk
  unfold alnB; split <;> omega
theorem t_X9_coded (E : gE) (S : gS) (w h n : Nat) (hg : mG S w h n) (hB : mBd (S 61) n) (root : Int) (rr : R32 root) (hr : 0 ≤ root → mRg S w n) : Ct E LAY mX9_coded [.ref (gad E 27), iV root] S (fun r S' => S = S' ∧ r = some (iV (cod (alnB (rg w n (S 61)) (S 61) root) n : Int))) := by
  have hn := hg.n15
  refine Ct.intro LAY_ok (by decide +kernel) (Nat.le_of_ble_eq_true rfl) rfl ?_
  intro Z hZ
  have loop : ∀ (m k : Nat), k + m = n → Z S [(0, .ref (gad E 27)), (1, iV root), (2, iV (cod (alnB (rg w n (S 61)) (S 61) root) k : Int)), (3, iV (k : Int))] 4 [] := by
    intro m
    induction m with
    | zero =>
      intro k hk
      refine g_iload_n hZ dX9_coded_4 rfl ?_
      refine g_aload_n hZ dX9_coded_5 rfl ?_
      refine g_callV hZ (t_X9_size E S w h n hg) kX9_60 ⟨by decide, by decide⟩ rfl rfl rfl rfl (Nat.le_of_ble_eq_true rfl) dX9_coded_6 ?_
      rintro _ _ ⟨rfl, rfl⟩
      refine g_icmp_ge hZ 49 dX9_coded_9 rfl (by omega) (fun _ => ?_) (fun cX => absurd (by omega) cX)
      refine g_iload_n hZ dX9_coded_49 rfl ?_
      refine g_iret hZ dX9_coded_50 rfl ⟨rfl, by rw [show n = k by omega]⟩
    | succ m ih =>
      intro k hk
      have hBk := hB k (by omega)
      have hAk := alnB_bd (r := rg w n (S 61)) (root := root) hB k (by omega)
      have hlt := cod_lt (x := alnB (rg w n (S 61)) (S 61) root) (n := k) (fun j hj => alnB_bd hB j (by omega))
      have join : ∀ (x : Int), x = alnB (rg w n (S 61)) (S 61) root k → Z S [(0, .ref (gad E 27)), (1, iV root), (2, iV (cod (alnB (rg w n (S 61)) (S 61) root) k : Int)), (3, iV (k : Int))] 37 [iV x, iV (cod (alnB (rg w n (S 61)) (S 61) root) k : Int)] := by
        intro x hx
        have ex : x = ((x.toNat : Nat) : Int) := by omega
        rw [ex]
        refine g_iconst hZ dX9_coded_37 ?_
        refine g_iload_n hZ dX9_coded_38 rfl ?_
        refine g_imul hZ dX9_coded_39 ?_
        refine g_ishl hZ dX9_coded_40 (gi_shl4 (by omega) (by omega)) ?_
        refine g_ior hZ dX9_coded_41 (gi_or4 hlt) ?_
        refine g_istore_n hZ dX9_coded_42 (by decide) ?_
        refine g_iinc hZ dX9_coded_43 rfl (by decide) ?_
        refine g_goto hZ 4 dX9_coded_46 rfl ?_
        have := ih (k + 1) (by omega)
        rw [cod, ← hx] at this
        exact this
      refine g_iload_n hZ dX9_coded_4 rfl ?_
      refine g_aload_n hZ dX9_coded_5 rfl ?_
      refine g_callV hZ (t_X9_size E S w h n hg) kX9_60 ⟨by decide, by decide⟩ rfl rfl rfl rfl (Nat.le_of_ble_eq_true rfl) dX9_coded_6 ?_
      rintro _ _ ⟨rfl, rfl⟩
      refine g_icmp_ge hZ 49 dX9_coded_9 rfl (by omega) (fun cX => absurd cX (by omega)) (fun _ => ?_)
      refine g_iload_n hZ dX9_coded_12 rfl ?_
      refine g_iload_n hZ dX9_coded_13 rfl ?_
      refine g_if_lt hZ 31 dX9_coded_14 rfl (by omega) (fun c => ?_) (fun c => ?_)
      · refine g_aload_n hZ dX9_coded_31 rfl ?_
        refine g_getr hZ fX9_16 rfl rfl dX9_coded_32 ?_
        refine g_iload_n hZ dX9_coded_35 rfl ?_
        refine g_iald hZ (k) rfl dX9_coded_36 (rfl) (by omega) (by decide) (rfl) ?_
        exact join _ (by unfold alnB; rw [if_neg (by omega)])
      · have hrk := hr (by omega) k (by omega)
        have rb := rg_bd (w := w) (B := S 61) (show k < n by omega)
        refine g_aload_n hZ dX9_coded_17 rfl ?_
        refine g_getr hZ fX9_51 rfl rfl dX9_coded_18 ?_
        refine g_iload_n hZ dX9_coded_21 rfl ?_
        refine g_iald hZ (k) rfl dX9_coded_22 (rfl) (by omega) (by decide) (hrk) ?_
        refine g_iload_n hZ dX9_coded_23 rfl ?_
        refine g_icmp_eq hZ 31 dX9_coded_24 rfl (by omega) (fun c2 => ?_) (fun c2 => ?_)
        · refine g_aload_n hZ dX9_coded_31 rfl ?_
          refine g_getr hZ fX9_16 rfl rfl dX9_coded_32 ?_
          refine g_iload_n hZ dX9_coded_35 rfl ?_
          refine g_iald hZ (k) rfl dX9_coded_36 (rfl) (by omega) (by decide) (rfl) ?_
          exact join _ (by unfold alnB; rw [if_neg (fun q => q.2 c2)])
        · refine g_iconst hZ dX9_coded_27 ?_
          refine g_goto hZ 37 dX9_coded_28 rfl ?_
          exact join _ (by unfold alnB; rw [if_pos ⟨by omega, c2⟩])
  refine g_iconst hZ dX9_coded_0 ?_
  refine g_istore_n hZ dX9_coded_1 (by decide) ?_
  refine g_iconst hZ dX9_coded_2 ?_
  refine g_istore_n hZ dX9_coded_3 (by decide) ?_
  exact loop n 0 (by omega)
theorem t_X9_decodes (E : gE) (S : gS) (p : Nat) (hp : p < 2147483648) : Ct E LAY mX9_decodes [.ref (gad E 27), iV (p : Int)] S (fun r S' => r = none ∧ S' = setRow S 62 15 (bdP p)) := by
  refine Ct.intro LAY_ok (by decide +kernel) (Nat.le_of_ble_eq_true rfl) rfl ?_
  intro Z hZ
  have loop : ∀ (m k : Nat), k + m = 15 → Z (setRow S 62 k (bdP p)) [(0, .ref (gad E 27)), (1, iV (p : Int)), (2, iV (k : Int))] 2 [] := by
    intro m
    induction m with
    | zero =>
      intro k hk
      refine g_iload_n hZ dX9_decodes_2 rfl ?_
      refine g_bipush hZ (z := 15) dX9_decodes_3 rfl ?_
      refine g_icmp_ge hZ 27 dX9_decodes_5 rfl (by omega) (fun _ => ?_) (fun cX => absurd (by omega) cX)
      refine g_vret hZ dX9_decodes_27 rfl ⟨rfl, by rw [show k = 15 by omega]⟩
    | succ m ih =>
      intro k hk
      refine g_iload_n hZ dX9_decodes_2 rfl ?_
      refine g_bipush hZ (z := 15) dX9_decodes_3 rfl ?_
      refine g_icmp_ge hZ 27 dX9_decodes_5 rfl (by omega) (fun cX => absurd cX (by omega)) (fun _ => ?_)
      refine g_aload_n hZ dX9_decodes_8 rfl ?_
      refine g_getr hZ fX9_20 rfl rfl dX9_decodes_9 ?_
      refine g_iload_n hZ dX9_decodes_12 rfl ?_
      refine g_iload_n hZ dX9_decodes_13 rfl ?_
      refine g_iconst hZ dX9_decodes_14 ?_
      refine g_iload_n hZ dX9_decodes_15 rfl ?_
      refine g_imul hZ dX9_decodes_16 ?_
      refine g_ishr hZ dX9_decodes_17 (gi_shr4 (by omega) hp) ?_
      refine g_iconst hZ dX9_decodes_18 ?_
      refine g_iand hZ dX9_decodes_19 (gi_and3 _) ?_
      refine g_iast hZ (k) rfl dX9_decodes_20 (rfl) (by omega) (by decide) ?_
      refine g_iinc hZ dX9_decodes_21 rfl (by decide) ?_
      refine g_goto hZ 2 dX9_decodes_24 rfl ?_
      have e1 := setRow_succ S 62 k (bdP p)
      refine g_state hZ e1 ?_
      exact ih (k + 1) (by omega)
  refine g_iconst hZ dX9_decodes_0 ?_
  refine g_istore_n hZ dX9_decodes_1 (by decide) ?_
  have := loop 15 0 (by omega)
  rw [setRow_0] at this
  exact this
theorem t_X9_sideOf (E : gE) (S : gS) (p : Nat) (hp : p < 2147483648) : Ct E LAY mX9_sideOf [iV (p : Int)] S (fun r S' => S = S' ∧ r = some (iV (sdP p : Int))) := by
  refine Ct.intro LAY_ok (by decide +kernel) (Nat.le_of_ble_eq_true rfl) rfl ?_
  intro Z hZ
  refine g_iload_n hZ dX9_sideOf_0 rfl ?_
  refine g_bipush hZ (z := 30) dX9_sideOf_1 rfl ?_
  refine g_ishr hZ dX9_sideOf_3 (gi_shr (k := 30) (by omega) hp) ?_
  refine g_iconst hZ dX9_sideOf_4 ?_
  refine g_iand hZ dX9_sideOf_5 (gi_and1 _) ?_
  refine g_iconst hZ dX9_sideOf_6 ?_
  refine g_iadd hZ dX9_sideOf_7 ?_
  refine g_iret hZ dX9_sideOf_8 rfl ⟨rfl, rfl⟩
theorem t_X9_behind (E : gE) (S : gS) (w h n : Nat) (hg : mG S w h n) (hB : mBd (S 62) n) (q : Nat × Nat × Nat) (hq1 : q.1 < n) (hq2 : q.2.1 < n) (hq3 : q.2.2 < n) (s : Int) (hs : s = 1 ∨ s = 2) (hsb : S 62 q.1 = s) (nx : Int) (hnx : nx = 1 ∨ nx = 2) : Ct E LAY mX9_behind [.ref (gad E 27), iV (menc q), iV nx] S (fun r S' => S = S' ∧ r = some (iV ((cod (aftB (S 62) q s) n + 1073741824 * (nx.toNat - 1) : Nat) : Int))) := by
  have hn := hg.n15
  have hA := aftB_bd (q := q) hB hs
  refine Ct.intro LAY_ok (by decide +kernel) (Nat.le_of_ble_eq_true rfl) rfl ?_
  intro Z hZ
  have em : menc q = ((225 * q.1 + 15 * q.2.1 + q.2.2 : Nat) : Int) := by unfold menc; omega
  have d1 : (225 * q.1 + 15 * q.2.1 + q.2.2) / 225 = q.1 := by omega
  have d2 : (225 * q.1 + 15 * q.2.1 + q.2.2) / 15 % 15 = q.2.1 := by omega
  have d3 : (225 * q.1 + 15 * q.2.1 + q.2.2) % 15 = q.2.2 := by omega
  have loop : ∀ (m k : Nat) (L9 : List (Nat × Value)), k + m = n → lkeep L9 [0, 1, 2, 3, 4, 5, 6, 7] = [(0, .ref (gad E 27)), (1, iV (menc q)), (2, iV nx), (3, iV (cod (aftB (S 62) q s) k : Int)), (4, iV (q.1 : Int)), (5, iV (q.2.1 : Int)), (6, iV (q.2.2 : Int)), (7, iV (k : Int))] → Z S L9 27 [] := by
    intro m
    induction m with
    | zero =>
      intro k L9 hk hL
      refine g_keep hZ [0, 1, 2, 3, 4, 5, 6, 7] hL ?_
      refine g_iload hZ dX9_behind_27 rfl ?_
      refine g_aload_n hZ dX9_behind_29 rfl ?_
      refine g_callV hZ (t_X9_size E S w h n hg) kX9_60 ⟨by decide, by decide⟩ rfl rfl rfl rfl (Nat.le_of_ble_eq_true rfl) dX9_behind_30 ?_
      rintro _ _ ⟨rfl, rfl⟩
      refine g_icmp_ge hZ 100 dX9_behind_33 rfl (by omega) (fun _ => ?_) (fun cX => absurd (by omega) cX)
      have hl := cod_lt30 (n := k) (by omega) (fun j hj => hA j (by omega))
      have e1 : nx - 1 = (((nx.toNat - 1 : Nat)) : Int) := by omega
      refine g_iload_n hZ dX9_behind_100 rfl ?_
      refine g_iload_n hZ dX9_behind_101 rfl ?_
      refine g_iconst hZ dX9_behind_102 ?_
      refine g_isub hZ dX9_behind_103 ?_
      rw [e1]
      refine g_bipush hZ (z := 30) dX9_behind_104 rfl ?_
      refine g_ishl hZ dX9_behind_106 (gi_shl (k := 30) (by omega) (by omega)) ?_
      refine g_ior hZ dX9_behind_107 (gi_ors (k := 30) (by omega)) ?_
      refine g_iret hZ dX9_behind_108 rfl ⟨rfl, by rw [show n = k by omega, Nat.mul_comm 1073741824]⟩
    | succ m ih =>
      intro k L9 hk hL
      refine g_keep hZ [0, 1, 2, 3, 4, 5, 6, 7] hL ?_
      have hBk := hB k (by omega)
      have hAk := hA k (by omega)
      have hlt := cod_lt (x := aftB (S 62) q s) (n := k) (fun j hj => hA j (by omega))
      have join : ∀ (x : Int), x = aftB (S 62) q s k → Z S [(0, .ref (gad E 27)), (1, iV (menc q)), (2, iV nx), (3, iV (cod (aftB (S 62) q s) k : Int)), (4, iV (q.1 : Int)), (5, iV (q.2.1 : Int)), (6, iV (q.2.2 : Int)), (7, iV (k : Int))] 82 [iV x] := by
        intro x hx
        have ex : x = ((x.toNat : Nat) : Int) := by omega
        rw [ex]
        refine g_istore hZ dX9_behind_82 (by decide) ?_
        refine g_iload_n hZ dX9_behind_84 rfl ?_
        refine g_iload hZ dX9_behind_85 rfl ?_
        refine g_iconst hZ dX9_behind_87 ?_
        refine g_iload hZ dX9_behind_88 rfl ?_
        refine g_imul hZ dX9_behind_90 ?_
        refine g_ishl hZ dX9_behind_91 (gi_shl4 (by omega) (by omega)) ?_
        refine g_ior hZ dX9_behind_92 (gi_or4 hlt) ?_
        refine g_istore_n hZ dX9_behind_93 (by decide) ?_
        refine g_iinc hZ dX9_behind_94 rfl (by decide) ?_
        refine g_goto hZ 27 dX9_behind_97 rfl ?_
        refine ih (k + 1) _ (by omega) ?_
        rw [cod, ← hx]
        rfl
      refine g_iload hZ dX9_behind_27 rfl ?_
      refine g_aload_n hZ dX9_behind_29 rfl ?_
      refine g_callV hZ (t_X9_size E S w h n hg) kX9_60 ⟨by decide, by decide⟩ rfl rfl rfl rfl (Nat.le_of_ble_eq_true rfl) dX9_behind_30 ?_
      rintro _ _ ⟨rfl, rfl⟩
      refine g_icmp_ge hZ 100 dX9_behind_33 rfl (by omega) (fun cX => absurd cX (by omega)) (fun _ => ?_)
      refine g_iload hZ dX9_behind_36 rfl ?_
      refine g_iload hZ dX9_behind_38 rfl ?_
      refine g_icmp_ne hZ 47 dX9_behind_40 rfl (by omega) (fun c1 => ?_) (fun c1 => ?_)
      · refine g_iload hZ dX9_behind_47 rfl ?_
        refine g_iload hZ dX9_behind_49 rfl ?_
        refine g_icmp_ne hZ 64 dX9_behind_51 rfl (by omega) (fun c2 => ?_) (fun c2 => ?_)
        · refine g_iload hZ dX9_behind_64 rfl ?_
          refine g_iload hZ dX9_behind_66 rfl ?_
          refine g_icmp_ne hZ 75 dX9_behind_68 rfl (by omega) (fun c3 => ?_) (fun c3 => ?_)
          · refine g_aload_n hZ dX9_behind_75 rfl ?_
            refine g_getr hZ fX9_20 rfl rfl dX9_behind_76 ?_
            refine g_iload hZ dX9_behind_79 rfl ?_
            refine g_iald hZ (k) rfl dX9_behind_81 (rfl) (by omega) (by decide) (rfl) ?_
            exact join _ (by unfold aftB; rw [if_neg (by omega), if_neg (by omega), if_neg (by omega)])
          · refine g_iconst hZ dX9_behind_71 ?_
            refine g_goto hZ 82 dX9_behind_72 rfl ?_
            exact join _ (by unfold aftB; rw [if_neg (by omega), if_neg (by omega), if_pos (by omega)])
        · refine g_aload_n hZ dX9_behind_54 rfl ?_
          refine g_getr hZ fX9_20 rfl rfl dX9_behind_55 ?_
          refine g_iload hZ dX9_behind_58 rfl ?_
          refine g_iald hZ (q.1) rfl dX9_behind_60 (rfl) (by omega) (by decide) (rfl) ?_
          refine g_goto hZ 82 dX9_behind_61 rfl ?_
          exact join _ (by unfold aftB; rw [if_neg (by omega), if_pos (by omega), hsb])
      · refine g_iconst hZ dX9_behind_43 ?_
        refine g_goto hZ 82 dX9_behind_44 rfl ?_
        exact join _ (by unfold aftB; rw [if_pos (by omega)])
  rw [em] at loop ⊢
  refine g_iconst hZ dX9_behind_0 ?_
  refine g_istore_n hZ dX9_behind_1 (by decide) ?_
  refine g_iload_n hZ dX9_behind_2 rfl ?_
  refine g_sipush hZ (z := 225) dX9_behind_3 rfl ?_
  refine g_idiv hZ (b := 225) dX9_behind_6 (by omega) (by omega) (by omega) ?_
  rw [d1]
  refine g_istore hZ dX9_behind_7 (by decide) ?_
  refine g_iload_n hZ dX9_behind_9 rfl ?_
  refine g_bipush hZ (z := 15) dX9_behind_10 rfl ?_
  refine g_idiv hZ (b := 15) dX9_behind_12 (by omega) (by omega) (by omega) ?_
  refine g_bipush hZ (z := 15) dX9_behind_13 rfl ?_
  refine g_irem hZ (b := 15) dX9_behind_15 (by omega) (by omega) (by omega) ?_
  rw [d2]
  refine g_istore hZ dX9_behind_16 (by decide) ?_
  refine g_iload_n hZ dX9_behind_18 rfl ?_
  refine g_bipush hZ (z := 15) dX9_behind_19 rfl ?_
  refine g_irem hZ (b := 15) dX9_behind_21 (by omega) (by omega) (by omega) ?_
  rw [d3]
  refine g_istore hZ dX9_behind_22 (by decide) ?_
  refine g_iconst hZ dX9_behind_24 ?_
  refine g_istore hZ dX9_behind_25 (by decide) ?_
  exact loop n 0 _ (by omega) rfl
def hR (c : Nat) : Nat := (Int32.ofInt ((c : Int) * 40503)).toBitVec.toNat / 128 % 8192
theorem hR_lt (c : Nat) : hR c < 8192 := Nat.mod_lt _ (by omega)
theorem modsep_R : modsep 8192 := ⟨by omega, fun a i j h1 h2 e => by omega⟩
theorem gi_ush7 (x : Int32) : (x.toUInt32 >>> ((Int32.ofInt 7).toUInt32 &&& Int32.toUInt32 31)).toInt32 = Int32.ofInt ((x.toBitVec.toNat / 128 : Nat) : Int) := by
  have h := pk_ushr x (Int32.ofInt 7) 7 (by decide)
  have hx : x.toBitVec.toNat < 2 ^ 32 := x.toBitVec.isLt
  rw [gi_nat]
  apply Int32.toBitVec_inj.1
  apply BitVec.eq_of_toNat_eq
  rw [h, pk_tn (by omega)]
/-- the reference's list of what is reached -/
def RS (S : gS) (L : List Nat) : Prop := S 56 0 = (L.length : Int) ∧ HL (fun p : Nat => (p : Int)) (S 67) L ∧ htI (S 68) 8192 hR L ∧ L.Nodup ∧ L.length ≤ 1500
theorem RS.x {vs : List Nat} {S S1 : gS} {L : List Nat} (hh : RS S L) (he : Eqx vs S S1) (h1 : vs.contains 56 = false) (h2 : vs.contains 67 = false) (h3 : vs.contains 68 = false) : RS S1 L := by
  have e1 : S1 67 = S 67 := funext fun j => he 67 j h2
  have e2 : S1 68 = S 68 := funext fun j => he 68 j h3
  exact ⟨(he 56 0 h1).trans hh.1, by rw [e1]; exact hh.2.1, by rw [e2]; exact hh.2.2.1, hh.2.2.2⟩
/-- where a number lies, or where it is to lie -/
def plP (f : Nat → Int) (L : List Nat) (c : Nat) (z : Int) : Prop := (∃ i : Nat, L[i]? = some c ∧ z = (i : Int)) ∨ (c ∉ L ∧ ∃ d, d < 8192 ∧ z = -1 - (((hR c + d) % 8192 : Nat) : Int) ∧ f ((hR c + d) % 8192) = 0 ∧ ∀ e, e < d → 0 < f ((hR c + e) % 8192))
theorem t_X9_placeOf (E : gE) (S : gS) (L : List Nat) (hL : HL (fun p : Nat => (p : Int)) (S 67) L) (hT : htI (S 68) 8192 hR L) (hl : L.length ≤ 1500) (hv : ∀ p ∈ L, p < 2147483648) (c : Nat) (hc : c < 2147483648) : Ct E LAY mX9_placeOf [.ref (gad E 27), iV (c : Int)] S (fun r S' => S = S' ∧ ∃ z, r = some (iV z) ∧ plP (S 68) L c z) := by
  obtain ⟨dS, hdS, hzS⟩ := ht_stop modsep_R hT (by omega) (hR c)
  refine Ct.intro LAY_ok (by decide +kernel) (Nat.le_of_ble_eq_true rfl) rfl ?_
  intro Z hZ
  have loop : ∀ (m d : Nat), d + m = dS → (∀ e, e < d → 0 < S 68 ((hR c + e) % 8192) ∧ L[(S 68 ((hR c + e) % 8192)).toNat - 1]? ≠ some c) → Z S [(0, .ref (gad E 27)), (1, iV (c : Int)), (2, iV (((hR c + d) % 8192 : Nat) : Int))] 12 [] := by
    intro m
    induction m with
    | zero =>
      intro d hd hp
      have : d = dS := by omega
      subst this
      refine g_aload_n hZ dX9_placeOf_12 rfl ?_
      refine g_getr hZ fX9_38 rfl rfl dX9_placeOf_13 ?_
      refine g_iload_n hZ dX9_placeOf_16 rfl ?_
      refine g_iald hZ (((hR c + d) % 8192)) rfl dX9_placeOf_17 (rfl) (by omega) (by decide) (hzS) ?_
      refine g_if_le hZ 49 dX9_placeOf_18 rfl (by omega) (fun _ => ?_) (fun cX => absurd (by omega) cX)
      refine g_aload_n hZ dX9_placeOf_49 rfl ?_
      refine g_getr hZ fX9_38 rfl rfl dX9_placeOf_50 ?_
      refine g_iload_n hZ dX9_placeOf_53 rfl ?_
      refine g_iald hZ (((hR c + d) % 8192)) rfl dX9_placeOf_54 (rfl) (by omega) (by decide) (hzS) ?_
      refine g_if_le hZ 69 dX9_placeOf_55 rfl (by omega) (fun _ => ?_) (fun cX => absurd (by omega) cX)
      refine g_iconst hZ dX9_placeOf_69 ?_
      refine g_iload_n hZ dX9_placeOf_70 rfl ?_
      refine g_isub hZ dX9_placeOf_71 ?_
      refine g_iret hZ dX9_placeOf_72 rfl ⟨rfl, _, rfl, Or.inr ⟨ht_no hT hzS hp, d, hdS, rfl, hzS, fun e he => (hp e he).1⟩⟩
    | succ m ih =>
      intro d hd hp
      have hf := hT.1 ((hR c + d) % 8192) (Nat.mod_lt _ (by omega))
      generalize hz : S 68 ((hR c + d) % 8192) = z at *
      refine g_aload_n hZ dX9_placeOf_12 rfl ?_
      refine g_getr hZ fX9_38 rfl rfl dX9_placeOf_13 ?_
      refine g_iload_n hZ dX9_placeOf_16 rfl ?_
      refine g_iald hZ (((hR c + d) % 8192)) rfl dX9_placeOf_17 (rfl) (by omega) (by decide) (hz) ?_
      refine g_if_le hZ 49 dX9_placeOf_18 rfl (by omega) (fun c1 => ?_) (fun c1 => ?_)
      · have z0 : z = 0 := by omega
        rw [z0] at hz
        refine g_aload_n hZ dX9_placeOf_49 rfl ?_
        refine g_getr hZ fX9_38 rfl rfl dX9_placeOf_50 ?_
        refine g_iload_n hZ dX9_placeOf_53 rfl ?_
        refine g_iald hZ (((hR c + d) % 8192)) rfl dX9_placeOf_54 (rfl) (by omega) (by decide) (hz) ?_
        refine g_if_le hZ 69 dX9_placeOf_55 rfl (by omega) (fun _ => ?_) (fun cX => absurd (by omega) cX)
        refine g_iconst hZ dX9_placeOf_69 ?_
        refine g_iload_n hZ dX9_placeOf_70 rfl ?_
        refine g_isub hZ dX9_placeOf_71 ?_
        refine g_iret hZ dX9_placeOf_72 rfl ⟨rfl, _, rfl, Or.inr ⟨ht_no hT hz hp, d, by omega, rfl, hz, fun e he => (hp e he).1⟩⟩
      · obtain ⟨x, hx⟩ : ∃ x, L[z.toNat - 1]? = some x := ⟨_, List.getElem?_eq_getElem (by omega)⟩
        have hx2 : S 67 (z.toNat - 1) = (x : Int) := hL _ x hx
        have hx3 := hv x (List.mem_of_getElem? hx)
        refine g_aload_n hZ dX9_placeOf_21 rfl ?_
        refine g_getr hZ fX9_35 rfl rfl dX9_placeOf_22 ?_
        refine g_aload_n hZ dX9_placeOf_25 rfl ?_
        refine g_getr hZ fX9_38 rfl rfl dX9_placeOf_26 ?_
        refine g_iload_n hZ dX9_placeOf_29 rfl ?_
        refine g_iald hZ (((hR c + d) % 8192)) rfl dX9_placeOf_30 (rfl) (by omega) (by decide) (hz) ?_
        refine g_iconst hZ dX9_placeOf_31 ?_
        refine g_isub hZ dX9_placeOf_32 ?_
        refine g_iald hZ ((z.toNat - 1)) rfl dX9_placeOf_33 (by omega) (by omega) (by decide) (hx2) ?_
        refine g_iload_n hZ dX9_placeOf_34 rfl ?_
        refine g_icmp_eq hZ 49 dX9_placeOf_35 rfl (by omega) (fun c2 => ?_) (fun c2 => ?_)
        · refine g_aload_n hZ dX9_placeOf_49 rfl ?_
          refine g_getr hZ fX9_38 rfl rfl dX9_placeOf_50 ?_
          refine g_iload_n hZ dX9_placeOf_53 rfl ?_
          refine g_iald hZ (((hR c + d) % 8192)) rfl dX9_placeOf_54 (rfl) (by omega) (by decide) (hz) ?_
          refine g_if_le hZ 69 dX9_placeOf_55 rfl (by omega) (fun cX => absurd cX (by omega)) (fun _ => ?_)
          refine g_aload_n hZ dX9_placeOf_58 rfl ?_
          refine g_getr hZ fX9_38 rfl rfl dX9_placeOf_59 ?_
          refine g_iload_n hZ dX9_placeOf_62 rfl ?_
          refine g_iald hZ (((hR c + d) % 8192)) rfl dX9_placeOf_63 (rfl) (by omega) (by decide) (hz) ?_
          refine g_iconst hZ dX9_placeOf_64 ?_
          refine g_isub hZ dX9_placeOf_65 ?_
          refine g_goto hZ 72 dX9_placeOf_66 rfl ?_
          have ex : x = c := by omega
          rw [ex] at hx
          refine g_iret hZ dX9_placeOf_72 rfl ⟨rfl, _, rfl, Or.inl ⟨z.toNat - 1, hx, by omega⟩⟩
        · refine g_iload_n hZ dX9_placeOf_38 rfl ?_
          refine g_iconst hZ dX9_placeOf_39 ?_
          refine g_iadd hZ dX9_placeOf_40 ?_
          refine g_sipush hZ (z := 8192) dX9_placeOf_41 rfl ?_
          refine g_irem hZ (a := (hR c + d) % 8192 + 1) (b := 8192) dX9_placeOf_44 (by omega) (by omega) (by omega) ?_
          refine g_istore_n hZ dX9_placeOf_45 (by decide) ?_
          refine g_goto hZ 12 dX9_placeOf_46 rfl ?_
          have e9 : ((hR c + d) % 8192 + 1) % 8192 = (hR c + (d + 1)) % 8192 := by omega
          rw [e9]
          refine ih (d + 1) (by omega) (fun e he => ?_)
          by_cases q : e = d
          · subst q
            rw [hz]
            exact ⟨by omega, fun e8 => by rw [hx] at e8; cases e8; exact c2 rfl⟩
          · exact hp e (by omega)
  refine g_iload_n hZ dX9_placeOf_0 rfl ?_
  refine g_ldc hZ (z := 40503) dX9_placeOf_1 (TS_m (by decide +kernel) rfl) ?_
  refine g_imul hZ dX9_placeOf_3 ?_
  refine g_bipush hZ (z := 7) dX9_placeOf_4 rfl ?_
  refine g_iushr hZ dX9_placeOf_6 (gi_ush7 _) ?_
  refine g_sipush hZ (z := 8192) dX9_placeOf_7 rfl ?_
  have hb : (Int32.ofInt ((c : Int) * 40503)).toBitVec.toNat < 2 ^ 32 := (Int32.ofInt ((c : Int) * 40503)).toBitVec.isLt
  refine g_irem hZ (b := 8192) dX9_placeOf_10 (by omega) (by omega) (by omega) ?_
  refine g_istore_n hZ dX9_placeOf_11 (by decide) ?_
  have := loop dS 0 (by omega) (fun e he => absurd he (Nat.not_lt_zero e))
  rw [Nat.add_zero, Nat.mod_eq_of_lt (hR_lt c)] at this
  exact this
end
section
/-! the reference: the search -/
theorem scP_len {w h n p : Nat} (hg : gOK w h n) (hp : vP n p) : (mvs w n (bdP p) (sdP p : Int)).length ≤ 588 := mvs_bound hg.2.2.2.2.2 (hp.2.s (sdP_12 p))
theorem t_X9_isReached (E : gE) (S : gS) (w h n : Nat) (hg : mG S w h n) (c0 : Nat) (hc0 : c0 < 1073741824) (hC : mC3 (bdP c0) n) (s : Nat) (hs : s = 1 ∨ s = 2) (alt : Bool) : Ct E LAY mX9_isReached [.ref (gad E 27), iV (c0 : Int), iV (s : Int), iV (cond alt 1 0)] S (fun r S' => Eqx [55, 56, 62, 66, 67, 68] S S' ∧ ∃ z, r = some (iV z) ∧ ((z = 0 ∧ bfs (scP w n alt) 1501 0 [c0 + 1073741824 * (s - 1)] = none) ∨ (z = 1 ∧ ∃ L, bfs (scP w n alt) 1501 0 [c0 + 1073741824 * (s - 1)] = some L ∧ RS S' L))) := by
  have hn := hg.n15
  have hO := hg.2.2
  have ha01 : R32 (cond alt (1 : Int) 0) := by cases alt <;> exact ⟨by decide, by decide⟩
  refine Ct.intro LAY_ok (by decide +kernel) (Nat.le_of_ble_eq_true rfl) rfl ?_
  intro Z hZ
  have hp0 : vP n (c0 + 1073741824 * (s - 1)) := ⟨by omega, by rw [cntZ_cong (fun k hk => bdP_side (by omega))]; exact hC.1, by rw [cntZ_cong (fun k hk => bdP_side (by omega))]; exact hC.2⟩
  generalize hp0d : c0 + 1073741824 * (s - 1) = p0 at *
  generalize hR0 : bfs (scP w n alt) 1501 0 [p0] = R0
  have outer : ∀ (f k : Nat) (L : List Nat) (S₁ : gS) (L9 : List (Nat × Value)), f + k = 1501 → k ≤ L.length → Eqx [55, 56, 62, 66, 67, 68] S S₁ → RS S₁ L → (∀ p ∈ L, vP n p) → bfs (scP w n alt) f k L = R0 → lkeep L9 [0, 1, 2, 3, 4] = [(0, .ref (gad E 27)), (1, iV (c0 : Int)), (2, iV (s : Int)), (3, iV (cond alt 1 0)), (4, iV (k : Int))] → Z S₁ L9 65 [] := by
    intro f
    induction f with
    | zero =>
      intro k L S₁ L9 hf hk he hRS hv hb hL
      have := hRS.2.2.2.2
      omega
    | succ f ihf =>
      intro k L S₁ L9 hf hk he hRS hv hb hL9
      obtain ⟨r1, r2, r3, r4, r5⟩ := id hRS
      have hg₁ := hg.x he rfl rfl
      refine g_keep hZ [0, 1, 2, 3, 4] hL9 ?_
      rw [bfs] at hb
      by_cases hkl : k < L.length
      · obtain ⟨p, hp⟩ : ∃ p, L[k]? = some p := ⟨_, List.getElem?_eq_getElem hkl⟩
        rw [hp] at hb
        have hpv := hv p (List.mem_of_getElem? hp)
        have hcp : S₁ 67 k = (p : Int) := r2 k p hp
        have hsd := sdP_12 p
        have hml := scP_len hO hpv
        refine g_iload hZ dX9_isReached_65 rfl ?_
        refine g_aload_n hZ dX9_isReached_67 rfl ?_
        refine g_geti hZ fX9_135 rfl rfl dX9_isReached_68 r1 ?_
        refine g_icmp_ge hZ 212 dX9_isReached_71 rfl (by omega) (fun cX => absurd cX (by omega)) (fun _ => ?_)
        refine g_aload_n hZ dX9_isReached_74 rfl ?_
        refine g_getr hZ fX9_35 rfl rfl dX9_isReached_75 ?_
        refine g_iload hZ dX9_isReached_78 rfl ?_
        refine g_iald hZ (k) rfl dX9_isReached_80 (rfl) (by omega) (by decide) (hcp) ?_
        refine g_callS hZ (t_X9_sideOf E S₁ p hpv.1) kX9_141 ⟨by decide, by decide⟩ rfl rfl (Nat.le_of_ble_eq_true rfl) dX9_isReached_81 ?_
        rintro _ _ ⟨rfl, rfl⟩
        refine g_istore hZ dX9_isReached_84 (by decide) ?_
        refine g_aload_n hZ dX9_isReached_86 rfl ?_
        refine g_aload_n hZ dX9_isReached_87 rfl ?_
        refine g_getr hZ fX9_35 rfl rfl dX9_isReached_88 ?_
        refine g_iload hZ dX9_isReached_91 rfl ?_
        refine g_iald hZ (k) rfl dX9_isReached_93 (rfl) (by omega) (by decide) (hcp) ?_
        refine g_callV hZ (t_X9_decodes E S₁ p hpv.1) kX9_144 ⟨by decide, by decide⟩ rfl rfl rfl rfl (Nat.le_of_ble_eq_true rfl) dX9_isReached_94 ?_
        rintro _ _ ⟨rfl, rfl⟩
        have he₂ : Eqx [62] S₁ (setRow S₁ 62 15 (bdP p)) := Eqx.rf.row rfl
        have h62 : ∀ k, k < 15 → setRow S₁ 62 15 (bdP p) 62 k = bdP p k := fun k hk => setRow_in S₁ (bdP p) hk
        have em : mvs w n (setRow S₁ 62 15 (bdP p) 62) (sdP p : Int) = mvs w n (bdP p) (sdP p : Int) := mvs_cong hO (fun k hk => h62 k (by omega))
        refine g_aload_n hZ dX9_isReached_97 rfl ?_
        refine g_iload hZ dX9_isReached_98 rfl ?_
        refine g_callV hZ (t_X9_lists E _ w h n (hg₁.x he₂ rfl rfl) (fun k hk => by rw [h62 k (by omega)]; exact bdP_bd p 15 k (by omega)) (sdP p : Int) hsd (by rw [cntZ_cong (fun k hk => h62 k (by omega))]; exact hpv.2.s hsd)) kX9_105 ⟨by decide, by decide⟩ rfl rfl rfl rfl (Nat.le_of_ble_eq_true rfl) dX9_isReached_100 ?_
        rintro _ S₂ ⟨rfl, hm₂, hb₂⟩
        rw [em] at hm₂
        have he₃ : Eqx [55, 56, 62, 66, 67, 68] S S₂ := (he.tr (he₂.mono rfl)).tr (hm₂.1.mono rfl)
        have hRS₂ : RS S₂ L := (hRS.x he₂ rfl rfl rfl).x hm₂.1 rfl rfl rfl
        have h62₂ : ∀ k, k < 15 → S₂ 62 k = bdP p k := fun k hk => by rw [hb₂]; exact h62 k hk
        have hlen := hm₂.2.1
        have hHL := hm₂.2.2
        cases hX : addL L (scP w n alt p) with
        | none =>
          simp only [hX] at hb
          have inner : ∀ (m j : Nat) (L : List Nat) (S₃ : gS) (L9 : List (Nat × Value)), j + m = (mvs w n (bdP p) (sdP p : Int)).length → Eqx [55, 56, 62, 66, 67, 68] S S₃ → Eqx [56, 67, 68] S₂ S₃ → RS S₃ L → (∀ p ∈ L, vP n p) → addL L ((scP w n alt p).drop j) = none → lkeep L9 [0, 1, 2, 3, 4, 5, 6] = [(0, .ref (gad E 27)), (1, iV (c0 : Int)), (2, iV (s : Int)), (3, iV (cond alt 1 0)), (4, iV (k : Int)), (5, iV (sdP p : Int)), (6, iV (j : Int))] → Z S₃ L9 106 [] := by
            intro m
            induction m with
            | zero =>
              intro j L S₃ L9 hj he₃ he₄ hRS₃ hv₃ hadd hL9
              rw [List.drop_eq_nil_of_le (by unfold scP; rw [List.length_map]; omega)] at hadd
              cases hadd
            | succ m ih =>
              intro j L S₃ L9 hj he₃ he₄ hRS₃ hv₃ hadd hL9
              obtain ⟨q1, q2, q3, q4, q5⟩ := id hRS₃
              obtain ⟨q, hq⟩ : ∃ q, (mvs w n (bdP p) (sdP p : Int))[j]? = some q := ⟨_, List.getElem?_eq_getElem (by omega)⟩
              have hqm := List.mem_of_getElem? hq
              have hqf := mvs_facts hO (by omega) hqm
              have hnf := nxP_facts (alt := alt) hO hqm
              have hsc : (scP w n alt p)[j]? = some (nxP n alt p q) := by unfold scP; rw [List.getElem?_map, hq]; rfl
              have hdr : (scP w n alt p).drop j = nxP n alt p q :: (scP w n alt p).drop (j + 1) := by
                have hjl := (List.getElem?_eq_some_iff.mp hsc)
                rw [List.drop_eq_getElem_cons hjl.1, hjl.2]
              have hvx : vP n (nxP n alt p q) := vP_nx hO hpv _ (List.mem_map.mpr ⟨q, hqm, rfl⟩)
              have hlen₃ : S₃ 55 0 = _ := (he₄ 55 0 rfl).trans hlen
              have hfk : S₃ 66 j = menc q := (he₄ 66 j rfl).trans (hHL j q hq)
              have h62₃ : ∀ k, k < 15 → S₃ 62 k = bdP p k := fun k hk => (he₄ 62 k rfl).trans (h62₂ k hk)
              have hg₃ := hg.x he₃ rfl rfl
              have eaf : cod (aftB (S₃ 62) q (sdP p : Int)) n = cod (aftB (bdP p) q (sdP p : Int)) n := cod_cong (fun k hk => by unfold aftB; rw [h62₃ k (by omega)])
              rw [hdr, addL] at hadd
              refine g_keep hZ [0, 1, 2, 3, 4, 5, 6] hL9 ?_
              have at136 : ∀ (nx : Int), (nx = 1 ∨ nx = 2) → nx.toNat - 1 = cond alt (2 - sdP p) (sdP p - 1) → Z S₃ [(0, .ref (gad E 27)), (1, iV (c0 : Int)), (2, iV (s : Int)), (3, iV (cond alt 1 0)), (4, iV (k : Int)), (5, iV (sdP p : Int)), (6, iV (j : Int))] 136 [iV nx, iV (menc q), .ref (gad E 27)] := by
                intro nx hnx hnx2
                refine g_callV hZ (t_X9_behind E S₃ w h n hg₃ (fun k hk => by rw [h62₃ k (by omega)]; exact bdP_bd p 15 k (by omega)) q hqf.1 hqf.2.1 hqf.2.2.1 (sdP p : Int) hsd (by rw [h62₃ _ (by omega)]; exact hqf.2.2.2.1) nx hnx) kX9_147 ⟨by decide, by decide⟩ rfl rfl rfl rfl (Nat.le_of_ble_eq_true rfl) dX9_isReached_136 ?_
                rintro _ _ ⟨rfl, rfl⟩
                rw [eaf, hnx2]
                refine g_istore hZ dX9_isReached_139 (by decide) ?_
                refine g_aload_n hZ dX9_isReached_141 rfl ?_
                refine g_iload hZ dX9_isReached_142 rfl ?_
                refine g_callV hZ (t_X9_placeOf E S₃ L q2 q3 q5 (fun x hx => (hv₃ x hx).1) (nxP n alt p q) hvx.1) kX9_138 ⟨by decide, by decide⟩ rfl rfl rfl rfl (Nat.le_of_ble_eq_true rfl) dX9_isReached_144 ?_
                rintro _ _ ⟨rfl, z, rfl, hz⟩
                rcases hz with ⟨i, hi, rfl⟩ | ⟨hni, d, hd, rfl, h0, hpos⟩
                · have hil := (List.getElem?_eq_some_iff.mp hi).1
                  rw [if_pos (List.mem_of_getElem? hi)] at hadd
                  refine g_istore hZ dX9_isReached_147 (by decide) ?_
                  refine g_iload hZ dX9_isReached_149 rfl ?_
                  refine g_if_ge hZ 200 dX9_isReached_151 rfl (by omega) (fun _ => ?_) (fun cX => absurd (by omega) cX)
                  refine g_iinc hZ dX9_isReached_200 rfl (by decide) ?_
                  refine g_goto hZ 106 dX9_isReached_203 rfl ?_
                  exact ih (j + 1) L S₃ _ (by omega) he₃ he₄ hRS₃ hv₃ hadd rfl
                · have hsl := Nat.mod_lt (hR (nxP n alt p q) + d) (show 0 < 8192 by omega)
                  rw [if_neg hni] at hadd
                  refine g_istore hZ dX9_isReached_147 (by decide) ?_
                  refine g_iload hZ dX9_isReached_149 rfl ?_
                  refine g_if_ge hZ 200 dX9_isReached_151 rfl (by omega) (fun cX => absurd cX (by omega)) (fun _ => ?_)
                  refine g_aload_n hZ dX9_isReached_154 rfl ?_
                  refine g_geti hZ fX9_135 rfl rfl dX9_isReached_155 q1 ?_
                  refine g_sipush hZ (z := 1500) dX9_isReached_158 rfl ?_
                  refine g_icmp_ne hZ 166 dX9_isReached_161 rfl (by omega) (fun c => ?_) (fun c => ?_)
                  · rw [if_neg (by omega)] at hadd
                    refine g_aload_n hZ dX9_isReached_166 rfl ?_
                    refine g_getr hZ fX9_35 rfl rfl dX9_isReached_167 ?_
                    refine g_aload_n hZ dX9_isReached_170 rfl ?_
                    refine g_geti hZ fX9_135 rfl rfl dX9_isReached_171 q1 ?_
                    refine g_iload hZ dX9_isReached_174 rfl ?_
                    refine g_iast hZ (L.length) rfl dX9_isReached_176 (rfl) (by omega) (by decide) ?_
                    refine g_aload_n hZ dX9_isReached_177 rfl ?_
                    refine g_dup hZ dX9_isReached_178 rfl ?_
                    refine g_geti hZ fX9_135 rfl rfl dX9_isReached_179 q1 ?_
                    refine g_iconst hZ dX9_isReached_182 ?_
                    refine g_iadd hZ dX9_isReached_183 ?_
                    refine g_puti hZ fX9_135 rfl rfl dX9_isReached_184 ?_
                    refine g_aload_n hZ dX9_isReached_187 rfl ?_
                    refine g_getr hZ fX9_38 rfl rfl dX9_isReached_188 ?_
                    refine g_iconst hZ dX9_isReached_191 ?_
                    refine g_iload hZ dX9_isReached_192 rfl ?_
                    refine g_isub hZ dX9_isReached_194 ?_
                    refine g_aload_n hZ dX9_isReached_195 rfl ?_
                    refine g_geti hZ fX9_135 rfl rfl dX9_isReached_196 rfl ?_
                    refine g_iast hZ (((hR (nxP n alt p q) + d) % 8192)) rfl dX9_isReached_199 (by omega) (by omega) (by decide) ?_
                    refine g_iinc hZ dX9_isReached_200 rfl (by decide) ?_
                    refine g_goto hZ 106 dX9_isReached_203 rfl ?_
                    refine ih (j + 1) (L ++ [nxP n alt p q]) _ _ (by omega) (((he₃.up rfl).up rfl).up rfl) (((he₄.up rfl).up rfl).up rfl) ⟨?_, ?_, ?_, ?_, ?_⟩ (fun x hx => ?_) hadd rfl
                    · rw [upS_v _ _ (by decide), upS_eq, List.length_append]; simp
                    · refine HL_add q2 (fun k hk => ?_) ?_
                      · rw [upS_v _ _ (by decide), upS_v _ _ (by decide), upS_j _ _ (by omega)]
                      · rw [upS_v _ _ (by decide), upS_v _ _ (by decide), upS_eq]; rfl
                    · refine ht_add modsep_R q3 hd h0 hpos (fun x => ?_)
                      by_cases e7 : x = (hR (nxP n alt p q) + d) % 8192
                      · rw [if_pos e7, e7, upS_eq]; rfl
                      · rw [if_neg e7, upS_j _ _ e7, upS_v _ _ (by decide), upS_v _ _ (by decide)]
                    · exact List.nodup_append.mpr ⟨q4, by simp, fun a ha b hb e => hni (by rw [List.mem_singleton] at hb; rw [← hb, ← e]; exact ha)⟩
                    · rw [List.length_append]; simp; omega
                    · rcases List.mem_append.mp hx with z | z
                      · exact hv₃ x z
                      · rw [List.mem_singleton] at z; rw [z]; exact hvx
                  · rw [if_pos (by omega)] at hadd
                    refine g_iconst hZ dX9_isReached_164 ?_
                    refine g_zret hZ dX9_isReached_165 rfl (Or.inl rfl) ⟨he₃, 0, rfl, Or.inl ⟨rfl, hR0.trans hb.symm⟩⟩
              refine g_iload hZ dX9_isReached_106 rfl ?_
              refine g_aload_n hZ dX9_isReached_108 rfl ?_
              refine g_geti hZ fX9_102 rfl rfl dX9_isReached_109 hlen₃ ?_
              refine g_icmp_ge hZ 206 dX9_isReached_112 rfl (by omega) (fun cX => absurd cX (by omega)) (fun _ => ?_)
              refine g_aload_n hZ dX9_isReached_115 rfl ?_
              refine g_aload_n hZ dX9_isReached_116 rfl ?_
              refine g_getr hZ fX9_32 rfl rfl dX9_isReached_117 ?_
              refine g_iload hZ dX9_isReached_120 rfl ?_
              refine g_iald hZ (j) rfl dX9_isReached_122 (rfl) (by omega) (by decide) (hfk) ?_
              refine g_iload_n hZ dX9_isReached_123 rfl ?_
              cases alt with
              | false =>
                refine g_if_eq hZ 134 dX9_isReached_124 rfl (by omega) (fun _ => ?_) (fun cX => absurd (by simp) cX)
                refine g_iload hZ dX9_isReached_134 rfl ?_
                exact at136 _ hsd (by simp)
              | true =>
                refine g_if_eq hZ 134 dX9_isReached_124 rfl (by omega) (fun cX => absurd cX (by simp)) (fun _ => ?_)
                refine g_iconst hZ dX9_isReached_127 ?_
                refine g_iload hZ dX9_isReached_128 rfl ?_
                refine g_isub hZ dX9_isReached_130 ?_
                refine g_goto hZ 136 dX9_isReached_131 rfl ?_
                exact at136 _ (by omega) (by simp; omega)
          refine g_iconst hZ dX9_isReached_103 ?_
          refine g_istore hZ dX9_isReached_104 (by decide) ?_
          exact inner _ 0 L S₂ _ (Nat.zero_add _) he₃ Eqx.rf hRS₂ hv hX rfl
        | some LX =>
          simp only [hX] at hb
          have inner : ∀ (m j : Nat) (L : List Nat) (S₃ : gS) (L9 : List (Nat × Value)), j + m = (mvs w n (bdP p) (sdP p : Int)).length → Eqx [55, 56, 62, 66, 67, 68] S S₃ → Eqx [56, 67, 68] S₂ S₃ → RS S₃ L → (∀ p ∈ L, vP n p) → k < L.length → addL L ((scP w n alt p).drop j) = some LX → lkeep L9 [0, 1, 2, 3, 4, 5, 6] = [(0, .ref (gad E 27)), (1, iV (c0 : Int)), (2, iV (s : Int)), (3, iV (cond alt 1 0)), (4, iV (k : Int)), (5, iV (sdP p : Int)), (6, iV (j : Int))] → Z S₃ L9 106 [] := by
            intro m
            induction m with
            | zero =>
              intro j L S₃ L9 hj he₃ he₄ hRS₃ hv₃ hkl₃ hadd hL9
              rw [List.drop_eq_nil_of_le (by unfold scP; rw [List.length_map]; omega)] at hadd
              cases hadd
              have hlen₃ : S₃ 55 0 = _ := (he₄ 55 0 rfl).trans hlen
              refine g_keep hZ [0, 1, 2, 3, 4, 5, 6] hL9 ?_
              refine g_iload hZ dX9_isReached_106 rfl ?_
              refine g_aload_n hZ dX9_isReached_108 rfl ?_
              refine g_geti hZ fX9_102 rfl rfl dX9_isReached_109 hlen₃ ?_
              refine g_icmp_ge hZ 206 dX9_isReached_112 rfl (by omega) (fun _ => ?_) (fun cX => absurd (by omega) cX)
              refine g_iinc hZ dX9_isReached_206 rfl (by decide) ?_
              refine g_goto hZ 65 dX9_isReached_209 rfl ?_
              exact ihf (k + 1) _ S₃ _ (by omega) (by omega) he₃ hRS₃ hv₃ hb rfl
            | succ m ih =>
              intro j L S₃ L9 hj he₃ he₄ hRS₃ hv₃ hkl₃ hadd hL9
              obtain ⟨q1, q2, q3, q4, q5⟩ := id hRS₃
              obtain ⟨q, hq⟩ : ∃ q, (mvs w n (bdP p) (sdP p : Int))[j]? = some q := ⟨_, List.getElem?_eq_getElem (by omega)⟩
              have hqm := List.mem_of_getElem? hq
              have hqf := mvs_facts hO (by omega) hqm
              have hnf := nxP_facts (alt := alt) hO hqm
              have hsc : (scP w n alt p)[j]? = some (nxP n alt p q) := by unfold scP; rw [List.getElem?_map, hq]; rfl
              have hdr : (scP w n alt p).drop j = nxP n alt p q :: (scP w n alt p).drop (j + 1) := by
                have hjl := (List.getElem?_eq_some_iff.mp hsc)
                rw [List.drop_eq_getElem_cons hjl.1, hjl.2]
              have hvx : vP n (nxP n alt p q) := vP_nx hO hpv _ (List.mem_map.mpr ⟨q, hqm, rfl⟩)
              have hlen₃ : S₃ 55 0 = _ := (he₄ 55 0 rfl).trans hlen
              have hfk : S₃ 66 j = menc q := (he₄ 66 j rfl).trans (hHL j q hq)
              have h62₃ : ∀ k, k < 15 → S₃ 62 k = bdP p k := fun k hk => (he₄ 62 k rfl).trans (h62₂ k hk)
              have hg₃ := hg.x he₃ rfl rfl
              have eaf : cod (aftB (S₃ 62) q (sdP p : Int)) n = cod (aftB (bdP p) q (sdP p : Int)) n := cod_cong (fun k hk => by unfold aftB; rw [h62₃ k (by omega)])
              rw [hdr, addL] at hadd
              refine g_keep hZ [0, 1, 2, 3, 4, 5, 6] hL9 ?_
              have at136 : ∀ (nx : Int), (nx = 1 ∨ nx = 2) → nx.toNat - 1 = cond alt (2 - sdP p) (sdP p - 1) → Z S₃ [(0, .ref (gad E 27)), (1, iV (c0 : Int)), (2, iV (s : Int)), (3, iV (cond alt 1 0)), (4, iV (k : Int)), (5, iV (sdP p : Int)), (6, iV (j : Int))] 136 [iV nx, iV (menc q), .ref (gad E 27)] := by
                intro nx hnx hnx2
                refine g_callV hZ (t_X9_behind E S₃ w h n hg₃ (fun k hk => by rw [h62₃ k (by omega)]; exact bdP_bd p 15 k (by omega)) q hqf.1 hqf.2.1 hqf.2.2.1 (sdP p : Int) hsd (by rw [h62₃ _ (by omega)]; exact hqf.2.2.2.1) nx hnx) kX9_147 ⟨by decide, by decide⟩ rfl rfl rfl rfl (Nat.le_of_ble_eq_true rfl) dX9_isReached_136 ?_
                rintro _ _ ⟨rfl, rfl⟩
                rw [eaf, hnx2]
                refine g_istore hZ dX9_isReached_139 (by decide) ?_
                refine g_aload_n hZ dX9_isReached_141 rfl ?_
                refine g_iload hZ dX9_isReached_142 rfl ?_
                refine g_callV hZ (t_X9_placeOf E S₃ L q2 q3 q5 (fun x hx => (hv₃ x hx).1) (nxP n alt p q) hvx.1) kX9_138 ⟨by decide, by decide⟩ rfl rfl rfl rfl (Nat.le_of_ble_eq_true rfl) dX9_isReached_144 ?_
                rintro _ _ ⟨rfl, z, rfl, hz⟩
                rcases hz with ⟨i, hi, rfl⟩ | ⟨hni, d, hd, rfl, h0, hpos⟩
                · have hil := (List.getElem?_eq_some_iff.mp hi).1
                  rw [if_pos (List.mem_of_getElem? hi)] at hadd
                  refine g_istore hZ dX9_isReached_147 (by decide) ?_
                  refine g_iload hZ dX9_isReached_149 rfl ?_
                  refine g_if_ge hZ 200 dX9_isReached_151 rfl (by omega) (fun _ => ?_) (fun cX => absurd (by omega) cX)
                  refine g_iinc hZ dX9_isReached_200 rfl (by decide) ?_
                  refine g_goto hZ 106 dX9_isReached_203 rfl ?_
                  exact ih (j + 1) L S₃ _ (by omega) he₃ he₄ hRS₃ hv₃ hkl₃ hadd rfl
                · have hsl := Nat.mod_lt (hR (nxP n alt p q) + d) (show 0 < 8192 by omega)
                  rw [if_neg hni] at hadd
                  refine g_istore hZ dX9_isReached_147 (by decide) ?_
                  refine g_iload hZ dX9_isReached_149 rfl ?_
                  refine g_if_ge hZ 200 dX9_isReached_151 rfl (by omega) (fun cX => absurd cX (by omega)) (fun _ => ?_)
                  refine g_aload_n hZ dX9_isReached_154 rfl ?_
                  refine g_geti hZ fX9_135 rfl rfl dX9_isReached_155 q1 ?_
                  refine g_sipush hZ (z := 1500) dX9_isReached_158 rfl ?_
                  refine g_icmp_ne hZ 166 dX9_isReached_161 rfl (by omega) (fun c => ?_) (fun c => ?_)
                  · rw [if_neg (by omega)] at hadd
                    refine g_aload_n hZ dX9_isReached_166 rfl ?_
                    refine g_getr hZ fX9_35 rfl rfl dX9_isReached_167 ?_
                    refine g_aload_n hZ dX9_isReached_170 rfl ?_
                    refine g_geti hZ fX9_135 rfl rfl dX9_isReached_171 q1 ?_
                    refine g_iload hZ dX9_isReached_174 rfl ?_
                    refine g_iast hZ (L.length) rfl dX9_isReached_176 (rfl) (by omega) (by decide) ?_
                    refine g_aload_n hZ dX9_isReached_177 rfl ?_
                    refine g_dup hZ dX9_isReached_178 rfl ?_
                    refine g_geti hZ fX9_135 rfl rfl dX9_isReached_179 q1 ?_
                    refine g_iconst hZ dX9_isReached_182 ?_
                    refine g_iadd hZ dX9_isReached_183 ?_
                    refine g_puti hZ fX9_135 rfl rfl dX9_isReached_184 ?_
                    refine g_aload_n hZ dX9_isReached_187 rfl ?_
                    refine g_getr hZ fX9_38 rfl rfl dX9_isReached_188 ?_
                    refine g_iconst hZ dX9_isReached_191 ?_
                    refine g_iload hZ dX9_isReached_192 rfl ?_
                    refine g_isub hZ dX9_isReached_194 ?_
                    refine g_aload_n hZ dX9_isReached_195 rfl ?_
                    refine g_geti hZ fX9_135 rfl rfl dX9_isReached_196 rfl ?_
                    refine g_iast hZ (((hR (nxP n alt p q) + d) % 8192)) rfl dX9_isReached_199 (by omega) (by omega) (by decide) ?_
                    refine g_iinc hZ dX9_isReached_200 rfl (by decide) ?_
                    refine g_goto hZ 106 dX9_isReached_203 rfl ?_
                    refine ih (j + 1) (L ++ [nxP n alt p q]) _ _ (by omega) (((he₃.up rfl).up rfl).up rfl) (((he₄.up rfl).up rfl).up rfl) ⟨?_, ?_, ?_, ?_, ?_⟩ (fun x hx => ?_) (by rw [List.length_append]; simp; omega) hadd rfl
                    · rw [upS_v _ _ (by decide), upS_eq, List.length_append]; simp
                    · refine HL_add q2 (fun k hk => ?_) ?_
                      · rw [upS_v _ _ (by decide), upS_v _ _ (by decide), upS_j _ _ (by omega)]
                      · rw [upS_v _ _ (by decide), upS_v _ _ (by decide), upS_eq]; rfl
                    · refine ht_add modsep_R q3 hd h0 hpos (fun x => ?_)
                      by_cases e7 : x = (hR (nxP n alt p q) + d) % 8192
                      · rw [if_pos e7, e7, upS_eq]; rfl
                      · rw [if_neg e7, upS_j _ _ e7, upS_v _ _ (by decide), upS_v _ _ (by decide)]
                    · exact List.nodup_append.mpr ⟨q4, by simp, fun a ha b hb e => hni (by rw [List.mem_singleton] at hb; rw [← hb, ← e]; exact ha)⟩
                    · rw [List.length_append]; simp; omega
                    · rcases List.mem_append.mp hx with z | z
                      · exact hv₃ x z
                      · rw [List.mem_singleton] at z; rw [z]; exact hvx
                  · rw [if_pos (by omega)] at hadd
                    cases hadd
              refine g_iload hZ dX9_isReached_106 rfl ?_
              refine g_aload_n hZ dX9_isReached_108 rfl ?_
              refine g_geti hZ fX9_102 rfl rfl dX9_isReached_109 hlen₃ ?_
              refine g_icmp_ge hZ 206 dX9_isReached_112 rfl (by omega) (fun cX => absurd cX (by omega)) (fun _ => ?_)
              refine g_aload_n hZ dX9_isReached_115 rfl ?_
              refine g_aload_n hZ dX9_isReached_116 rfl ?_
              refine g_getr hZ fX9_32 rfl rfl dX9_isReached_117 ?_
              refine g_iload hZ dX9_isReached_120 rfl ?_
              refine g_iald hZ (j) rfl dX9_isReached_122 (rfl) (by omega) (by decide) (hfk) ?_
              refine g_iload_n hZ dX9_isReached_123 rfl ?_
              cases alt with
              | false =>
                refine g_if_eq hZ 134 dX9_isReached_124 rfl (by omega) (fun _ => ?_) (fun cX => absurd (by simp) cX)
                refine g_iload hZ dX9_isReached_134 rfl ?_
                exact at136 _ hsd (by simp)
              | true =>
                refine g_if_eq hZ 134 dX9_isReached_124 rfl (by omega) (fun cX => absurd cX (by simp)) (fun _ => ?_)
                refine g_iconst hZ dX9_isReached_127 ?_
                refine g_iload hZ dX9_isReached_128 rfl ?_
                refine g_isub hZ dX9_isReached_130 ?_
                refine g_goto hZ 136 dX9_isReached_131 rfl ?_
                exact at136 _ (by omega) (by simp; omega)
          refine g_iconst hZ dX9_isReached_103 ?_
          refine g_istore hZ dX9_isReached_104 (by decide) ?_
          exact inner _ 0 L S₂ _ (Nat.zero_add _) he₃ Eqx.rf hRS₂ hv hkl hX rfl
      · have hnone : L[k]? = none := List.getElem?_eq_none (by omega)
        rw [hnone] at hb
        refine g_iload hZ dX9_isReached_65 rfl ?_
        refine g_aload_n hZ dX9_isReached_67 rfl ?_
        refine g_geti hZ fX9_135 rfl rfl dX9_isReached_68 r1 ?_
        refine g_icmp_ge hZ 212 dX9_isReached_71 rfl (by omega) (fun _ => ?_) (fun cX => absurd (by omega) cX)
        refine g_iconst hZ dX9_isReached_212 ?_
        refine g_zret hZ dX9_isReached_213 rfl (Or.inr rfl) ⟨he, 1, rfl, Or.inr ⟨rfl, L, hR0.trans hb.symm, hRS⟩⟩
  have zero : ∀ (m k : Nat), k + m = 8192 → Z (setRow S 68 k (fun _ => 0)) [(0, .ref (gad E 27)), (1, iV (c0 : Int)), (2, iV (s : Int)), (3, iV (cond alt 1 0)), (4, iV (k : Int))] 3 [] := by
    intro m
    induction m with
    | zero =>
      intro k hk
      have : k = 8192 := by omega
      subst this
      have e1 : (s : Int) - 1 = ((s - 1 : Nat) : Int) := by omega
      refine g_iload hZ dX9_isReached_3 rfl ?_
      refine g_sipush hZ (z := 8192) dX9_isReached_5 rfl ?_
      refine g_icmp_ge hZ 25 dX9_isReached_8 rfl (by omega) (fun _ => ?_) (fun cX => absurd (by omega) cX)
      refine g_aload_n hZ dX9_isReached_25 rfl ?_
      refine g_iconst hZ dX9_isReached_26 ?_
      refine g_puti hZ fX9_135 rfl rfl dX9_isReached_27 ?_
      refine g_aload_n hZ dX9_isReached_30 rfl ?_
      refine g_getr hZ fX9_35 rfl rfl dX9_isReached_31 ?_
      refine g_iconst hZ dX9_isReached_34 ?_
      refine g_iload_n hZ dX9_isReached_35 rfl ?_
      refine g_iload_n hZ dX9_isReached_36 rfl ?_
      refine g_iconst hZ dX9_isReached_37 ?_
      refine g_isub hZ dX9_isReached_38 ?_
      rw [e1]
      refine g_bipush hZ (z := 30) dX9_isReached_39 rfl ?_
      refine g_ishl hZ dX9_isReached_41 (gi_shl (k := 30) (by omega) (by omega)) ?_
      refine g_ior hZ dX9_isReached_42 (gi_ors (k := 30) (by omega)) ?_
      have e2 : c0 + (s - 1) * 2 ^ 30 = p0 := by rw [← hp0d, Nat.mul_comm 1073741824]
      rw [e2]
      refine g_iast hZ (0) rfl dX9_isReached_43 (rfl) (by omega) (by decide) ?_
      refine g_aload_n hZ dX9_isReached_44 rfl ?_
      refine g_getr hZ fX9_38 rfl rfl dX9_isReached_45 ?_
      refine g_iconst hZ dX9_isReached_48 ?_
      refine g_aload_n hZ dX9_isReached_49 rfl ?_
      refine g_aload_n hZ dX9_isReached_50 rfl ?_
      refine g_getr hZ fX9_35 rfl rfl dX9_isReached_51 ?_
      refine g_iconst hZ dX9_isReached_54 ?_
      refine g_iald hZ (0) rfl dX9_isReached_55 (rfl) (by omega) (by decide) (rfl) ?_
      have hT0 : htI (upS (upS (setRow S 68 8192 (fun _ => 0)) 56 0 1) 67 0 (p0 : Int) 68) 8192 hR [] := ht_nil _ _ (fun x hx => by rw [upS_v _ _ (by decide), upS_v _ _ (by decide), setRow_in _ _ hx])
      refine g_callV hZ (t_X9_placeOf E _ [] (HL_nil _ _) hT0 (by simp) (by simp) p0 hp0.1) kX9_138 ⟨by decide, by decide⟩ rfl rfl rfl rfl (Nat.le_of_ble_eq_true rfl) dX9_isReached_56 ?_
      rintro _ _ ⟨rfl, z, rfl, hz⟩
      rcases hz with ⟨i, hi, -⟩ | ⟨-, d, hd, rfl, h0, hpos⟩
      · simp at hi
      · have hsl := Nat.mod_lt (hR p0 + d) (show 0 < 8192 by omega)
        refine g_isub hZ dX9_isReached_59 ?_
        refine g_iconst hZ dX9_isReached_60 ?_
        refine g_iast hZ (((hR p0 + d) % 8192)) rfl dX9_isReached_61 (by omega) (by omega) (by decide) ?_
        refine g_iconst hZ dX9_isReached_62 ?_
        refine g_istore hZ dX9_isReached_63 (by decide) ?_
        refine outer 1501 0 [p0] _ _ (by omega) (by simp) ((((Eqx.rf.row rfl).up rfl).up rfl).up rfl) ⟨rfl, fun i x hi => ?_, ?_, by simp, by simp⟩ (fun p hp => by rw [List.mem_singleton] at hp; rw [hp]; exact hp0) hR0 rfl
        · have hil := (List.getElem?_eq_some_iff.mp hi).1
          have : i = 0 := by simpa using hil
          subst this
          simp at hi
          rw [← hi]; rfl
        · have := ht_add modsep_R hT0 (c := p0) hd h0 hpos (g := upS (upS (upS (setRow S 68 8192 (fun _ => 0)) 56 0 1) 67 0 (p0 : Int)) 68 ((hR p0 + d) % 8192) 1 68) (fun x => by
            by_cases q : x = (hR p0 + d) % 8192
            · rw [if_pos q, q, upS_eq]; rfl
            · rw [if_neg q, upS_j _ _ q])
          exact this
    | succ m ih =>
      intro k hk
      refine g_iload hZ dX9_isReached_3 rfl ?_
      refine g_sipush hZ (z := 8192) dX9_isReached_5 rfl ?_
      refine g_icmp_ge hZ 25 dX9_isReached_8 rfl (by omega) (fun cX => absurd cX (by omega)) (fun _ => ?_)
      refine g_aload_n hZ dX9_isReached_11 rfl ?_
      refine g_getr hZ fX9_38 rfl rfl dX9_isReached_12 ?_
      refine g_iload hZ dX9_isReached_15 rfl ?_
      refine g_iconst hZ dX9_isReached_17 ?_
      refine g_iast hZ (k) rfl dX9_isReached_18 (rfl) (by omega) (by decide) ?_
      refine g_iinc hZ dX9_isReached_19 rfl (by decide) ?_
      refine g_goto hZ 3 dX9_isReached_22 rfl ?_
      have e1 := setRow_succ S 68 k (fun _ => 0)
      refine g_state hZ e1 ?_
      exact ih (k + 1) (by omega)
  refine g_iconst hZ dX9_isReached_0 ?_
  refine g_istore hZ dX9_isReached_1 (by decide) ?_
  have := zero 8192 0 (by omega)
  rw [setRow_0] at this
  exact this
end
section
/-! the reference: weighing -/
def qkF (alt : Bool) (q : Int) (v : Bool × Nat) : Int := if alt = true ∧ v.1 = false ∧ (q < 0 ∨ (v.2 : Int) + 1 < q) then (v.2 : Int) + 1 else q
def frF (m : Nat) (v : Bool × Nat) : Nat := if m < v.2 + 1 then v.2 + 1 else m
def gvl (alt : Bool) (vs : List (Bool × Nat)) : Bool × Nat := if 0 ≤ vs.foldl (qkF alt) (-1) then (true, (vs.foldl (qkF alt) (-1)).toNat) else (false, vs.foldl frF 0)
def gv (w n : Nat) (alt : Bool) : Nat → Nat → Bool × Nat
  | 0, _ => (false, 0)
  | f + 1, p => gvl alt ((scP w n alt p).map (gv w n alt f))
/-- who wins, and how long it takes; or the most moves of one side -/
def GV (w n : Nat) (alt : Bool) (p : Nat) : Bool × Nat := gv w n alt (n - bcP n p + 1) p
theorem GV_eq {w h n : Nat} (hg : gOK w h n) (alt : Bool) (p : Nat) : GV w n alt p = gvl alt ((scP w n alt p).map (GV w n alt)) := by
  unfold GV
  rw [gv]
  congr 1
  refine List.map_congr_left fun c hc => ?_
  have h1 := bcP_nx hg c hc
  have h2 : bcP n c ≤ n := cntZ_le _ _ _
  rw [show n - bcP n p = n - bcP n c + 1 by omega]
theorem qk_b {alt : Bool} {b : Nat} : ∀ (vs : List (Bool × Nat)) (q : Int), (∀ v ∈ vs, v.2 ≤ b) → -1 ≤ q → q ≤ b + 1 → -1 ≤ vs.foldl (qkF alt) q ∧ vs.foldl (qkF alt) q ≤ b + 1
  | [], q, _, h1, h2 => ⟨h1, h2⟩
  | v :: vs, q, h, h1, h2 => by
    have hv := h v List.mem_cons_self
    rw [List.foldl_cons]
    refine qk_b vs _ (fun x hx => h x (List.mem_cons_of_mem _ hx)) ?_ ?_
    · unfold qkF; split <;> omega
    · unfold qkF; split <;> omega
theorem fr_b {b : Nat} : ∀ (vs : List (Bool × Nat)) (m : Nat), (∀ v ∈ vs, v.2 ≤ b) → m ≤ b + 1 → vs.foldl frF m ≤ b + 1
  | [], m, _, h1 => h1
  | v :: vs, m, h, h1 => by
    have hv := h v List.mem_cons_self
    rw [List.foldl_cons]
    refine fr_b vs _ (fun x hx => h x (List.mem_cons_of_mem _ hx)) ?_
    unfold frF; split <;> omega
theorem gv_b {w n : Nat} {alt : Bool} : ∀ (f p : Nat), (gv w n alt f p).2 ≤ f
  | 0, p => Nat.le_refl _
  | f + 1, p => by
    rw [gv]
    have h : ∀ v ∈ (scP w n alt p).map (gv w n alt f), v.2 ≤ f := fun v hv => by
      obtain ⟨c, -, rfl⟩ := List.mem_map.mp hv
      exact gv_b f c
    unfold gvl
    split
    · have := (qk_b (alt := alt) _ (-1) h (by omega) (by omega)).2
      show ((List.map (gv w n alt f) (scP w n alt p)).foldl (qkF alt) (-1)).toNat ≤ f + 1
      omega
    · exact fr_b _ 0 h (by omega)
theorem GV_b {w n : Nat} {alt : Bool} {p : Nat} : (GV w n alt p).2 ≤ n + 1 := by
  unfold GV
  have := gv_b (w := w) (n := n) (alt := alt) (n - bcP n p + 1) p
  omega
def b2i (b : Bool) : Int := cond b 1 0
theorem b2i_01 (b : Bool) : b2i b = 0 ∨ b2i b = 1 := by cases b; exact Or.inl rfl; exact Or.inr rfl
theorem t_X9_weighs (E : gE) (S : gS) (w h n : Nat) (hg : mG S w h n) (alt : Bool) (L : List Nat) (hRS : RS S L) (hOK : bOK (scP w n alt) (vP n) L) : Ct E LAY mX9_weighs [.ref (gad E 27), iV (cond alt 1 0)] S (fun r S' => r = none ∧ Eqx [55, 62, 66, 69, 70] S S' ∧ ∀ (i p : Nat), L[i]? = some p → S' 69 i = b2i (GV w n alt p).1 ∧ S' 70 i = ((GV w n alt p).2 : Int)) := by
  have hn := hg.n15
  have hO := hg.2.2
  obtain ⟨k1, k2, k3, k4⟩ := hOK
  have ha01 : R32 (cond alt (1 : Int) 0) := by cases alt <;> exact ⟨by decide, by decide⟩
  refine Ct.intro LAY_ok (by decide +kernel) (Nat.le_of_ble_eq_true rfl) rfl ?_
  intro Z hZ
  have outer : ∀ (m : Nat) (S₁ : gS) (L9 : List (Nat × Value)), m ≤ L.length → Eqx [55, 62, 66, 69, 70] S S₁ → (∀ (i p : Nat), m ≤ i → L[i]? = some p → S₁ 69 i = b2i (GV w n alt p).1 ∧ S₁ 70 i = ((GV w n alt p).2 : Int)) → lkeep L9 [0, 1, 2] = [(0, .ref (gad E 27)), (1, iV (cond alt 1 0)), (2, iV ((m : Int) - 1))] → Z S₁ L9 7 [] := by
    intro m
    induction m with
    | zero =>
      intro S₁ L9 hm he hv hL9
      refine g_keep hZ [0, 1, 2] hL9 ?_
      refine g_iload_n hZ dX9_weighs_7 rfl ?_
      refine g_if_lt hZ 246 dX9_weighs_8 rfl (by omega) (fun _ => ?_) (fun cX => absurd (by omega) cX)
      refine g_vret hZ dX9_weighs_246 rfl ⟨rfl, he, fun i p hi => hv i p (Nat.zero_le i) hi⟩
    | succ k ihm =>
      intro S₁ L9 hm he hv hL9
      have hRS₁ := hRS.x he rfl rfl rfl
      obtain ⟨r1, r2, r3, r4, r5⟩ := id hRS₁
      have hg₁ := hg.x he rfl rfl
      have ek : ((k + 1 : Nat) : Int) - 1 = (k : Int) := by omega
      rw [ek] at hL9
      refine g_keep hZ [0, 1, 2] hL9 ?_
      obtain ⟨p, hp⟩ : ∃ p, L[k]? = some p := ⟨_, List.getElem?_eq_getElem (by omega)⟩
      have hpv := k3 p (List.mem_of_getElem? hp)
      have hcp : S₁ 67 k = (p : Int) := r2 k p hp
      have hsd := sdP_12 p
      have hml := scP_len hO hpv
      refine g_iload_n hZ dX9_weighs_7 rfl ?_
      refine g_if_lt hZ 246 dX9_weighs_8 rfl (by omega) (fun cX => absurd cX (by omega)) (fun _ => ?_)
      refine g_aload_n hZ dX9_weighs_11 rfl ?_
      refine g_getr hZ fX9_35 rfl rfl dX9_weighs_12 ?_
      refine g_iload_n hZ dX9_weighs_15 rfl ?_
      refine g_iald hZ (k) rfl dX9_weighs_16 (rfl) (by omega) (by decide) (hcp) ?_
      refine g_callS hZ (t_X9_sideOf E S₁ p hpv.1) kX9_141 ⟨by decide, by decide⟩ rfl rfl (Nat.le_of_ble_eq_true rfl) dX9_weighs_17 ?_
      rintro _ _ ⟨rfl, rfl⟩
      refine g_istore_n hZ dX9_weighs_20 (by decide) ?_
      refine g_aload_n hZ dX9_weighs_21 rfl ?_
      refine g_aload_n hZ dX9_weighs_22 rfl ?_
      refine g_getr hZ fX9_35 rfl rfl dX9_weighs_23 ?_
      refine g_iload_n hZ dX9_weighs_26 rfl ?_
      refine g_iald hZ (k) rfl dX9_weighs_27 (rfl) (by omega) (by decide) (hcp) ?_
      refine g_callV hZ (t_X9_decodes E S₁ p hpv.1) kX9_144 ⟨by decide, by decide⟩ rfl rfl rfl rfl (Nat.le_of_ble_eq_true rfl) dX9_weighs_28 ?_
      rintro _ _ ⟨rfl, rfl⟩
      have he₂ : Eqx [62] S₁ (setRow S₁ 62 15 (bdP p)) := Eqx.rf.row rfl
      have h62 : ∀ k, k < 15 → setRow S₁ 62 15 (bdP p) 62 k = bdP p k := fun k hk => setRow_in S₁ (bdP p) hk
      have em : mvs w n (setRow S₁ 62 15 (bdP p) 62) (sdP p : Int) = mvs w n (bdP p) (sdP p : Int) := mvs_cong hO (fun k hk => h62 k (by omega))
      refine g_aload_n hZ dX9_weighs_31 rfl ?_
      refine g_iload_n hZ dX9_weighs_32 rfl ?_
      refine g_callV hZ (t_X9_lists E _ w h n (hg₁.x he₂ rfl rfl) (fun k hk => by rw [h62 k (by omega)]; exact bdP_bd p 15 k (by omega)) (sdP p : Int) hsd (by rw [cntZ_cong (fun k hk => h62 k (by omega))]; exact hpv.2.s hsd)) kX9_105 ⟨by decide, by decide⟩ rfl rfl rfl rfl (Nat.le_of_ble_eq_true rfl) dX9_weighs_33 ?_
      rintro _ S₂ ⟨rfl, hm₂, hb₂⟩
      rw [em] at hm₂
      have he₃ : Eqx [55, 62, 66, 69, 70] S S₂ := (he.tr (he₂.mono rfl)).tr (hm₂.1.mono rfl)
      have he₁₂ : Eqx [55, 62, 66] S₁ S₂ := (he₂.mono rfl).tr hm₂.1
      have h62₂ : ∀ k, k < 15 → S₂ 62 k = bdP p k := fun k hk => by rw [hb₂]; exact h62 k hk
      have hlen := hm₂.2.1
      have hHL := hm₂.2.2
      have hvb : ∀ v ∈ (scP w n alt p).map (GV w n alt), v.2 ≤ n + 1 := fun v hv => by
        obtain ⟨c, -, rfl⟩ := List.mem_map.mp hv
        exact GV_b
      have hvl : ((scP w n alt p).map (GV w n alt)).length = (mvs w n (bdP p) (sdP p : Int)).length := by unfold scP; simp
      have heq := GV_eq hO alt p
      have inner : ∀ (m2 j : Nat) (S₃ : gS) (L9 : List (Nat × Value)), j + m2 = (mvs w n (bdP p) (sdP p : Int)).length → Eqx [55, 62, 66, 69, 70] S S₃ → Eqx [69, 70] S₂ S₃ → S₃ 70 k = ((((scP w n alt p).map (GV w n alt)).take j).foldl frF 0 : Nat) → (∀ (i x : Nat), k + 1 ≤ i → L[i]? = some x → S₃ 69 i = b2i (GV w n alt x).1 ∧ S₃ 70 i = ((GV w n alt x).2 : Int)) → lkeep L9 [0, 1, 2, 3, 4, 5] = [(0, .ref (gad E 27)), (1, iV (cond alt 1 0)), (2, iV (k : Int)), (3, iV (sdP p : Int)), (4, iV ((((scP w n alt p).map (GV w n alt)).take j).foldl (qkF alt) (-1))), (5, iV (j : Int))] → Z S₃ L9 56 [] := by
        intro m2
        induction m2 with
        | zero =>
          intro j S₃ L9 hj he₄ he₅ hfr hvv hL9
          have hlen₃ : S₃ 55 0 = _ := (he₅ 55 0 rfl).trans hlen
          rw [List.take_of_length_le (by omega)] at hfr hL9
          have bq := qk_b (alt := alt) _ (-1) hvb (by omega) (by omega)
          have bf := fr_b _ 0 hvb (by omega)
          refine g_keep hZ [0, 1, 2, 3, 4, 5] hL9 ?_
          refine g_iload hZ dX9_weighs_56 rfl ?_
          refine g_aload_n hZ dX9_weighs_58 rfl ?_
          refine g_geti hZ fX9_102 rfl rfl dX9_weighs_59 hlen₃ ?_
          refine g_icmp_ge hZ 202 dX9_weighs_62 rfl (by omega) (fun _ => ?_) (fun cX => absurd (by omega) cX)
          refine g_aload_n hZ dX9_weighs_202 rfl ?_
          refine g_getr hZ fX9_41 rfl rfl dX9_weighs_203 ?_
          refine g_iload_n hZ dX9_weighs_206 rfl ?_
          refine g_iload hZ dX9_weighs_207 rfl ?_
          have gofin : ∀ (S₄ : gS) (L9 : List (Nat × Value)), Eqx [69, 70] S₃ S₄ → (∀ i, i ≠ k → S₄ 69 i = S₃ 69 i ∧ S₄ 70 i = S₃ 70 i) → S₄ 69 k = b2i (GV w n alt p).1 → S₄ 70 k = ((GV w n alt p).2 : Int) → lkeep L9 [0, 1, 2] = [(0, .ref (gad E 27)), (1, iV (cond alt 1 0)), (2, iV (k : Int))] → Z S₄ L9 240 [] := by
            intro S₄ L9 he₆ hne hw1 hf1 hL9
            refine g_keep hZ [0, 1, 2] hL9 ?_
            refine g_iinc hZ dX9_weighs_240 rfl (by decide) ?_
            refine g_goto hZ 7 dX9_weighs_243 rfl ?_
            refine ihm S₄ _ (by omega) (he₄.tr (he₆.mono rfl)) (fun i x hi hx => ?_) rfl
            by_cases e : i = k
            · subst e
              rw [hp] at hx
              cases hx
              exact ⟨hw1, hf1⟩
            · rw [(hne i e).1, (hne i e).2]
              exact hvv i x (by omega) hx
          generalize hq : ((scP w n alt p).map (GV w n alt)).foldl (qkF alt) (-1) = qk at *
          generalize hf : ((scP w n alt p).map (GV w n alt)).foldl frF 0 = fr at *
          have hgv : GV w n alt p = if 0 ≤ qk then (true, qk.toNat) else (false, fr) := by rw [heq]; unfold gvl; rw [hq, hf]
          refine g_if_lt hZ 216 dX9_weighs_209 rfl (by omega) (fun c => ?_) (fun c => ?_)
          · rw [if_neg (by omega)] at hgv
            refine g_iconst hZ dX9_weighs_216 ?_
            refine g_zast hZ (k) rfl dX9_weighs_217 (rfl) (by omega) (by decide) (rfl) ?_
            refine g_aload_n hZ dX9_weighs_218 rfl ?_
            refine g_getr hZ fX9_45 rfl rfl dX9_weighs_219 ?_
            refine g_iload_n hZ dX9_weighs_222 rfl ?_
            refine g_iload hZ dX9_weighs_223 rfl ?_
            refine g_if_lt hZ 233 dX9_weighs_225 rfl (by omega) (fun _ => ?_) (fun cX => absurd (by omega) cX)
            refine g_aload_n hZ dX9_weighs_233 rfl ?_
            refine g_getr hZ fX9_45 rfl rfl dX9_weighs_234 ?_
            refine g_iload_n hZ dX9_weighs_237 rfl ?_
            refine g_iald hZ (k) rfl dX9_weighs_238 (rfl) (by omega) (by decide) (hfr) ?_
            refine g_iast hZ (k) rfl dX9_weighs_239 (rfl) (by omega) (by decide) ?_
            refine gofin _ _ ((Eqx.rf.up rfl).up rfl) (fun i hi => ⟨?_, ?_⟩) ?_ ?_ rfl
            · rw [upS_v _ _ (by decide), upS_j _ _ hi]
            · rw [upS_j _ _ hi, upS_v _ _ (by decide)]
            · rw [upS_v _ _ (by decide), upS_eq, hgv]; rfl
            · rw [upS_eq, hgv]
          · rw [if_pos (by omega)] at hgv
            refine g_iconst hZ dX9_weighs_212 ?_
            refine g_goto hZ 217 dX9_weighs_213 rfl ?_
            refine g_zast hZ (k) rfl dX9_weighs_217 (rfl) (by omega) (by decide) (rfl) ?_
            refine g_aload_n hZ dX9_weighs_218 rfl ?_
            refine g_getr hZ fX9_45 rfl rfl dX9_weighs_219 ?_
            refine g_iload_n hZ dX9_weighs_222 rfl ?_
            refine g_iload hZ dX9_weighs_223 rfl ?_
            refine g_if_lt hZ 233 dX9_weighs_225 rfl (by omega) (fun cX => absurd cX (by omega)) (fun _ => ?_)
            refine g_iload hZ dX9_weighs_228 rfl ?_
            refine g_goto hZ 239 dX9_weighs_230 rfl ?_
            refine g_iast hZ (k) rfl dX9_weighs_239 (rfl) (by omega) (by decide) ?_
            refine gofin _ _ ((Eqx.rf.up rfl).up rfl) (fun i hi => ⟨?_, ?_⟩) ?_ ?_ rfl
            · rw [upS_v _ _ (by decide), upS_j _ _ hi]
            · rw [upS_j _ _ hi, upS_v _ _ (by decide)]
            · rw [upS_v _ _ (by decide), upS_eq, hgv]; rfl
            · rw [upS_eq, hgv]; show qk = (qk.toNat : Int); omega
        | succ m2 ih =>
          intro j S₃ L9 hj he₄ he₅ hfr hvv hL9
          obtain ⟨q, hq⟩ : ∃ q, (mvs w n (bdP p) (sdP p : Int))[j]? = some q := ⟨_, List.getElem?_eq_getElem (by omega)⟩
          have hqm := List.mem_of_getElem? hq
          have hqf := mvs_facts hO (by omega) hqm
          have hcm : nxP n alt p q ∈ scP w n alt p := List.mem_map.mpr ⟨q, hqm, rfl⟩
          have hvx : vP n (nxP n alt p q) := vP_nx hO hpv _ hcm
          obtain ⟨a, hka, ha⟩ := k4 k p _ hp hcm
          have hal := (List.getElem?_eq_some_iff.mp ha).1
          obtain ⟨va1, va2⟩ := hvv a _ (by omega) ha
          have hgb := GV_b (w := w) (n := n) (alt := alt) (p := nxP n alt p q)
          have htk : ((scP w n alt p).map (GV w n alt)).take (j + 1) = ((scP w n alt p).map (GV w n alt)).take j ++ [GV w n alt (nxP n alt p q)] := by
            rw [List.take_add_one]
            congr 1
            unfold scP
            rw [List.map_map, List.getElem?_map, hq]; rfl
          have hlen₃ : S₃ 55 0 = _ := (he₅ 55 0 rfl).trans hlen
          have hfk : S₃ 66 j = menc q := (he₅ 66 j rfl).trans (hHL j q hq)
          have h62₃ : ∀ k, k < 15 → S₃ 62 k = bdP p k := fun k hk => (he₅ 62 k rfl).trans (h62₂ k hk)
          have hRS₃ := hRS.x he₄ rfl rfl rfl
          have hg₃ := hg.x he₄ rfl rfl
          have eaf : cod (aftB (S₃ 62) q (sdP p : Int)) n = cod (aftB (bdP p) q (sdP p : Int)) n := cod_cong (fun k hk => by unfold aftB; rw [h62₃ k (by omega)])
          have htb : ∀ v ∈ ((scP w n alt p).map (GV w n alt)).take j, v.2 ≤ n + 1 := fun v hv => hvb v (List.mem_of_mem_take hv)
          have bq := qk_b (alt := alt) _ (-1) htb (by omega) (by omega)
          have bf := fr_b _ 0 htb (by omega)
          have hq2 : (((scP w n alt p).map (GV w n alt)).take (j + 1)).foldl (qkF alt) (-1) = qkF alt ((((scP w n alt p).map (GV w n alt)).take j).foldl (qkF alt) (-1)) (GV w n alt (nxP n alt p q)) := by rw [htk, List.foldl_append]; rfl
          have hf2 : (((scP w n alt p).map (GV w n alt)).take (j + 1)).foldl frF 0 = frF ((((scP w n alt p).map (GV w n alt)).take j).foldl frF 0) (GV w n alt (nxP n alt p q)) := by rw [htk, List.foldl_append]; rfl
          have ih' := fun S₃ L9 he₄ he₅ => ih (j + 1) S₃ L9 (by omega) he₄ he₅
          rw [hq2, hf2] at ih'
          clear ih hq2 hf2 htk heq
          generalize (((scP w n alt p).map (GV w n alt)).take j).foldl (qkF alt) (-1) = qk at *
          generalize (((scP w n alt p).map (GV w n alt)).take j).foldl frF 0 = fr at *
          generalize hG : GV w n alt (nxP n alt p q) = gx at *
          obtain ⟨gw, gr⟩ := gx
          dsimp only at va1 va2 hgb
          refine g_keep hZ [0, 1, 2, 3, 4, 5] hL9 ?_
          have at85 : ∀ (nx : Int), (nx = 1 ∨ nx = 2) → nx.toNat - 1 = cond alt (2 - sdP p) (sdP p - 1) → Z S₃ [(0, .ref (gad E 27)), (1, iV (cond alt 1 0)), (2, iV (k : Int)), (3, iV (sdP p : Int)), (4, iV qk), (5, iV (j : Int))] 85 [iV nx, iV (menc q), .ref (gad E 27), .ref (gad E 27)] := by
            intro nx hnx hnx2
            refine g_callV hZ (t_X9_behind E S₃ w h n hg₃ (fun k hk => by rw [h62₃ k (by omega)]; exact bdP_bd p 15 k (by omega)) q hqf.1 hqf.2.1 hqf.2.2.1 (sdP p : Int) hsd (by rw [h62₃ _ (by omega)]; exact hqf.2.2.2.1) nx hnx) kX9_147 ⟨by decide, by decide⟩ rfl rfl rfl rfl (Nat.le_of_ble_eq_true rfl) dX9_weighs_85 ?_
            rintro _ _ ⟨rfl, rfl⟩
            rw [eaf, hnx2]
            refine g_callV hZ (t_X9_placeOf E S₃ L hRS₃.2.1 hRS₃.2.2.1 r5 (fun x hx => (k3 x hx).1) (nxP n alt p q) hvx.1) kX9_138 ⟨by decide, by decide⟩ rfl rfl rfl rfl (Nat.le_of_ble_eq_true rfl) dX9_weighs_88 ?_
            rintro _ _ ⟨rfl, z, rfl, hz⟩
            have hza : z = (a : Int) := by
              rcases hz with ⟨i, hi, rfl⟩ | ⟨hni, -⟩
              · have := (List.getElem?_inj (List.getElem?_eq_some_iff.mp hi).1 k1).mp (hi.trans ha.symm)
                rw [this]
              · exact absurd (List.mem_of_getElem? ha) hni
            subst hza
            have at152 : ∀ (x : Int) (L9 : List (Nat × Value)), x = qkF alt qk (gw, gr) → lkeep L9 [0, 1, 2, 3, 5, 6] = [(0, .ref (gad E 27)), (1, iV (cond alt 1 0)), (2, iV (k : Int)), (3, iV (sdP p : Int)), (5, iV (j : Int)), (6, iV (a : Int))] → Z S₃ L9 152 [iV x] := by
              intro x L9 hx hL9
              refine g_keep hZ [0, 1, 2, 3, 5, 6] hL9 ?_
              refine g_istore hZ dX9_weighs_152 (by decide) ?_
              refine g_aload_n hZ dX9_weighs_154 rfl ?_
              refine g_getr hZ fX9_45 rfl rfl dX9_weighs_155 ?_
              refine g_iload_n hZ dX9_weighs_158 rfl ?_
              refine g_aload_n hZ dX9_weighs_159 rfl ?_
              refine g_getr hZ fX9_45 rfl rfl dX9_weighs_160 ?_
              refine g_iload hZ dX9_weighs_163 rfl ?_
              refine g_iald hZ (a) rfl dX9_weighs_165 (rfl) (by omega) (by decide) (va2) ?_
              refine g_iconst hZ dX9_weighs_166 ?_
              refine g_iadd hZ dX9_weighs_167 ?_
              refine g_aload_n hZ dX9_weighs_168 rfl ?_
              refine g_getr hZ fX9_45 rfl rfl dX9_weighs_169 ?_
              refine g_iload_n hZ dX9_weighs_172 rfl ?_
              refine g_iald hZ (k) rfl dX9_weighs_173 (rfl) (by omega) (by decide) (hfr) ?_
              have fin : ∀ (y : Int), y = ((frF fr (gw, gr) : Nat) : Int) → Z S₃ [(0, .ref (gad E 27)), (1, iV (cond alt 1 0)), (2, iV (k : Int)), (3, iV (sdP p : Int)), (4, iV x), (5, iV (j : Int)), (6, iV (a : Int))] 195 [iV y, iV (k : Int), .ref (gad E 37)] := by
                intro y hy
                refine g_iast hZ (k) rfl dX9_weighs_195 (rfl) (by omega) (by decide) ?_
                refine g_iinc hZ dX9_weighs_196 rfl (by decide) ?_
                refine g_goto hZ 56 dX9_weighs_199 rfl ?_
                refine ih' _ _ (he₄.up rfl) (he₅.up rfl) (by rw [upS_eq]; exact hy) (fun i x2 hi hx2 => ?_) (by rw [← hx]; rfl)
                rw [upS_v _ _ (by decide), upS_j _ _ (by omega)]
                exact hvv i x2 hi hx2
              refine g_icmp_le hZ 189 dX9_weighs_174 rfl (by omega) (fun c => ?_) (fun c => ?_)
              · refine g_aload_n hZ dX9_weighs_189 rfl ?_
                refine g_getr hZ fX9_45 rfl rfl dX9_weighs_190 ?_
                refine g_iload_n hZ dX9_weighs_193 rfl ?_
                refine g_iald hZ (k) rfl dX9_weighs_194 (rfl) (by omega) (by decide) (hfr) ?_
                exact fin _ (by unfold frF; rw [if_neg (by show ¬ fr < gr + 1; omega)])
              · refine g_aload_n hZ dX9_weighs_177 rfl ?_
                refine g_getr hZ fX9_45 rfl rfl dX9_weighs_178 ?_
                refine g_iload hZ dX9_weighs_181 rfl ?_
                refine g_iald hZ (a) rfl dX9_weighs_183 (rfl) (by omega) (by decide) (va2) ?_
                refine g_iconst hZ dX9_weighs_184 ?_
                refine g_iadd hZ dX9_weighs_185 ?_
                refine g_goto hZ 195 dX9_weighs_186 rfl ?_
                exact fin _ (by unfold frF; rw [if_pos (by show fr < gr + 1; omega)]; rfl)
            have at150 : qk = qkF alt qk (gw, gr) → ∀ L9 : List (Nat × Value), lkeep L9 [0, 1, 2, 3, 4, 5, 6] = [(0, .ref (gad E 27)), (1, iV (cond alt 1 0)), (2, iV (k : Int)), (3, iV (sdP p : Int)), (4, iV qk), (5, iV (j : Int)), (6, iV (a : Int))] → Z S₃ L9 150 [] := by
              intro hq L9 hL9
              refine g_keep hZ [0, 1, 2, 3, 4, 5, 6] hL9 ?_
              refine g_iload hZ dX9_weighs_150 rfl ?_
              exact at152 _ _ hq rfl
            have at111 : ¬ (alt = true ∧ gw = false) → ∀ L9 : List (Nat × Value), lkeep L9 [0, 1, 2, 3, 4, 5, 6] = [(0, .ref (gad E 27)), (1, iV (cond alt 1 0)), (2, iV (k : Int)), (3, iV (sdP p : Int)), (4, iV qk), (5, iV (j : Int)), (6, iV (a : Int))] → Z S₃ L9 111 [] := by
              intro hno L9 hL9
              refine g_keep hZ [0, 1, 2, 3, 4, 5, 6] hL9 ?_
              refine g_iconst hZ dX9_weighs_111 ?_
              refine g_istore hZ dX9_weighs_112 (by decide) ?_
              refine g_iload hZ dX9_weighs_114 rfl ?_
              refine g_if_eq hZ 150 dX9_weighs_116 rfl (by omega) (fun _ => ?_) (fun cX => absurd (by omega) cX)
              exact at150 (by unfold qkF; rw [if_neg (fun q => hno ⟨q.1, q.2.1⟩)]) _ rfl
            refine g_istore hZ dX9_weighs_91 (by decide) ?_
            refine g_iload_n hZ dX9_weighs_93 rfl ?_
            cases alt with
            | false =>
              refine g_if_eq hZ 111 dX9_weighs_94 rfl (by omega) (fun _ => ?_) (fun cX => absurd (by simp) cX)
              exact at111 (by simp) _ rfl
            | true =>
              refine g_if_eq hZ 111 dX9_weighs_94 rfl (by omega) (fun cX => absurd cX (by simp)) (fun _ => ?_)
              refine g_aload_n hZ dX9_weighs_97 rfl ?_
              refine g_getr hZ fX9_41 rfl rfl dX9_weighs_98 ?_
              refine g_iload hZ dX9_weighs_101 rfl ?_
              refine g_zald hZ (a) rfl dX9_weighs_103 (rfl) (by omega) (by decide) (va1) ?_
              cases gw with
              | true =>
                refine g_if_ne hZ 111 dX9_weighs_104 rfl ⟨by decide, by decide⟩ (fun _ => ?_) (fun cX => absurd cX (by decide))
                exact at111 (by simp) _ rfl
              | false =>
                refine g_if_ne hZ 111 dX9_weighs_104 rfl ⟨by decide, by decide⟩ (fun cX => absurd (by decide) cX) (fun _ => ?_)
                refine g_iconst hZ dX9_weighs_107 ?_
                refine g_goto hZ 112 dX9_weighs_108 rfl ?_
                refine g_istore hZ dX9_weighs_112 (by decide) ?_
                refine g_iload hZ dX9_weighs_114 rfl ?_
                refine g_if_eq hZ 150 dX9_weighs_116 rfl (by omega) (fun cX => absurd cX (by omega)) (fun _ => ?_)
                refine g_iload hZ dX9_weighs_119 rfl ?_
                have yes : (qk < 0 ∨ (gr : Int) + 1 < qk) → ∀ L9 : List (Nat × Value), lkeep L9 [0, 1, 2, 3, 5, 6] = [(0, .ref (gad E 27)), (1, iV (cond true 1 0)), (2, iV (k : Int)), (3, iV (sdP p : Int)), (5, iV (j : Int)), (6, iV (a : Int))] → Z S₃ L9 138 [] := by
                  intro hy L9 hL9
                  refine g_keep hZ [0, 1, 2, 3, 5, 6] hL9 ?_
                  refine g_aload_n hZ dX9_weighs_138 rfl ?_
                  refine g_getr hZ fX9_45 rfl rfl dX9_weighs_139 ?_
                  refine g_iload hZ dX9_weighs_142 rfl ?_
                  refine g_iald hZ (a) rfl dX9_weighs_144 (rfl) (by omega) (by decide) (va2) ?_
                  refine g_iconst hZ dX9_weighs_145 ?_
                  refine g_iadd hZ dX9_weighs_146 ?_
                  refine g_goto hZ 152 dX9_weighs_147 rfl ?_
                  exact at152 _ _ (by unfold qkF; rw [if_pos ⟨rfl, rfl, hy⟩]) rfl
                refine g_if_lt hZ 138 dX9_weighs_121 rfl (by omega) (fun c => ?_) (fun c => ?_)
                · exact yes (Or.inl c) _ rfl
                · refine g_aload_n hZ dX9_weighs_124 rfl ?_
                  refine g_getr hZ fX9_45 rfl rfl dX9_weighs_125 ?_
                  refine g_iload hZ dX9_weighs_128 rfl ?_
                  refine g_iald hZ (a) rfl dX9_weighs_130 (rfl) (by omega) (by decide) (va2) ?_
                  refine g_iconst hZ dX9_weighs_131 ?_
                  refine g_iadd hZ dX9_weighs_132 ?_
                  refine g_iload hZ dX9_weighs_133 rfl ?_
                  refine g_icmp_ge hZ 150 dX9_weighs_135 rfl (by omega) (fun c2 => ?_) (fun c2 => ?_)
                  · exact at150 (by unfold qkF; rw [if_neg (fun q => by have q2 : qk < 0 ∨ (gr : Int) + 1 < qk := q.2.2; omega)]) _ rfl
                  · exact yes (Or.inr (by omega)) _ rfl
          refine g_iload hZ dX9_weighs_56 rfl ?_
          refine g_aload_n hZ dX9_weighs_58 rfl ?_
          refine g_geti hZ fX9_102 rfl rfl dX9_weighs_59 hlen₃ ?_
          refine g_icmp_ge hZ 202 dX9_weighs_62 rfl (by omega) (fun cX => absurd cX (by omega)) (fun _ => ?_)
          refine g_aload_n hZ dX9_weighs_65 rfl ?_
          refine g_aload_n hZ dX9_weighs_66 rfl ?_
          refine g_aload_n hZ dX9_weighs_67 rfl ?_
          refine g_getr hZ fX9_32 rfl rfl dX9_weighs_68 ?_
          refine g_iload hZ dX9_weighs_71 rfl ?_
          refine g_iald hZ (j) rfl dX9_weighs_73 (rfl) (by omega) (by decide) (hfk) ?_
          refine g_iload_n hZ dX9_weighs_74 rfl ?_
          cases alt with
          | false =>
            refine g_if_eq hZ 84 dX9_weighs_75 rfl (by omega) (fun _ => ?_) (fun cX => absurd (by simp) cX)
            refine g_iload_n hZ dX9_weighs_84 rfl ?_
            exact at85 _ hsd (by simp)
          | true =>
            refine g_if_eq hZ 84 dX9_weighs_75 rfl (by omega) (fun cX => absurd cX (by simp)) (fun _ => ?_)
            refine g_iconst hZ dX9_weighs_78 ?_
            refine g_iload_n hZ dX9_weighs_79 rfl ?_
            refine g_isub hZ dX9_weighs_80 ?_
            refine g_goto hZ 85 dX9_weighs_81 rfl ?_
            exact at85 _ (by omega) (by simp; omega)
      refine g_aload_n hZ dX9_weighs_36 rfl ?_
      refine g_getr hZ fX9_41 rfl rfl dX9_weighs_37 ?_
      refine g_iload_n hZ dX9_weighs_40 rfl ?_
      refine g_iconst hZ dX9_weighs_41 ?_
      refine g_zast hZ (k) rfl dX9_weighs_42 (rfl) (by omega) (by decide) (rfl) ?_
      refine g_aload_n hZ dX9_weighs_43 rfl ?_
      refine g_getr hZ fX9_45 rfl rfl dX9_weighs_44 ?_
      refine g_iload_n hZ dX9_weighs_47 rfl ?_
      refine g_iconst hZ dX9_weighs_48 ?_
      refine g_iast hZ (k) rfl dX9_weighs_49 (rfl) (by omega) (by decide) ?_
      refine g_iconst hZ dX9_weighs_50 ?_
      refine g_istore hZ dX9_weighs_51 (by decide) ?_
      refine g_iconst hZ dX9_weighs_53 ?_
      refine g_istore hZ dX9_weighs_54 (by decide) ?_
      refine inner _ 0 _ _ (Nat.zero_add _) ((he₃.up rfl).up rfl) ((Eqx.rf.up rfl).up rfl) (by rw [upS_eq]; rfl) (fun i x hi hx => ?_) rfl
      rw [upS_v _ _ (by decide), upS_j _ _ (by omega), upS_j _ _ (by omega), upS_v _ _ (by decide)]
      rw [he₁₂ 69 i rfl, he₁₂ 70 i rfl]
      exact hv i x (by omega) hx
  refine g_aload_n hZ dX9_weighs_0 rfl ?_
  refine g_geti hZ fX9_135 rfl rfl dX9_weighs_1 hRS.1 ?_
  refine g_iconst hZ dX9_weighs_4 ?_
  refine g_isub hZ dX9_weighs_5 ?_
  refine g_istore_n hZ dX9_weighs_6 (by decide) ?_
  exact outer L.length S _ (Nat.le_refl _) Eqx.rf (fun i p hi hp => by have := (List.getElem?_eq_some_iff.mp hp).1; omega) rfl
end
section
/-! the reference: values -/
theorem cntZ_sub {f g : Nat → Int} {z : Int} : ∀ {n : Nat}, (∀ k, k < n → f k = z → g k = z) → cntZ f z n ≤ cntZ g z n
  | 0, _ => Nat.le_refl _
  | n + 1, h => by
    have ih := cntZ_sub (f := f) (g := g) (z := z) (n := n) (fun k hk => h k (by omega))
    have h1 := h n (by omega)
    rw [cntZ, cntZ]
    by_cases q : f n = z
    · rw [if_pos q, if_pos (h1 q)]; omega
    · rw [if_neg q]; omega
theorem alnB_c3 {r B : Nat → Int} {root : Int} {n : Nat} (hB : mBd B n) (hc : mC3 B n) : mC3 (bdP (cod (alnB r B root) n)) n := by
  have hA := alnB_bd (r := r) (root := root) hB
  have key : ∀ v : Int, v ≠ 3 → ∀ k, k < n → bdP (cod (alnB r B root) n) k = v → B k = v := by
    intro v hv k hk e
    rw [bdP_cod hA hk] at e
    unfold alnB at e
    split at e
    · omega
    · exact e
  exact ⟨Nat.le_trans (cntZ_sub (key 1 (by omega))) hc.1, Nat.le_trans (cntZ_sub (key 2 (by omega))) hc.2⟩
theorem alnB_m1 (r B : Nat → Int) : alnB r B (-1) = B := by
  funext k
  unfold alnB
  rw [if_neg (by omega)]
/-- the reference's table of kept values -/
def mKp (S : gS) (kp : List (Nat × Nat)) : Prop := S 53 0 = (kp.length : Int) ∧ kp.length ≤ 40 ∧ (∀ (i : Nat) (e : Nat × Nat), kp[i]? = some e → S 64 i = (e.1 : Int) ∧ S 65 i = (e.2 : Int)) ∧ ∀ e ∈ kp, e.1 < 1073741824 ∧ e.2 ≤ 16
theorem mKp.x {vs : List Nat} {S S1 : gS} {kp : List (Nat × Nat)} (hh : mKp S kp) (he : Eqx vs S S1) (h1 : vs.contains 53 = false) (h2 : vs.contains 64 = false) (h3 : vs.contains 65 = false) : mKp S1 kp :=
  ⟨(he 53 0 h1).trans hh.1, hh.2.1, fun i e hi => ⟨(he 64 i h2).trans (hh.2.2.1 i e hi).1, (he 65 i h3).trans (hh.2.2.1 i e hi).2⟩, hh.2.2.2⟩
def kfind : List (Nat × Nat) → Nat → Option Nat
  | [], _ => none
  | e :: r, c => if e.1 = c then some e.2 else kfind r c
theorem kfind_drop {c : Nat} : ∀ {kp : List (Nat × Nat)} {i : Nat} {e : Nat × Nat}, (∀ (j : Nat) (x : Nat × Nat), j < i → kp[j]? = some x → x.1 ≠ c) → kp[i]? = some e → e.1 = c → kfind kp c = some e.2
  | [], i, e, _, h, _ => by simp at h
  | x :: kp, i, e, hn, h, he => by
    rw [kfind]
    cases i with
    | zero =>
      simp at h
      rw [h, if_pos he]
    | succ i =>
      rw [if_neg (hn 0 x (by omega) (by simp))]
      exact kfind_drop (fun j y hj hy => hn (j + 1) y (Nat.succ_lt_succ hj) (by simpa using hy)) (by simpa using h) he
theorem kfind_no {c : Nat} : ∀ {kp : List (Nat × Nat)}, (∀ (j : Nat) (x : Nat × Nat), kp[j]? = some x → x.1 ≠ c) → kfind kp c = none
  | [], _ => rfl
  | x :: kp, hn => by
    rw [kfind, if_neg (hn 0 x (by simp))]
    exact kfind_no (fun j y hy => hn (j + 1) y (by simpa using hy))
def kpush (kp : List (Nat × Nat)) (e : Nat × Nat) : List (Nat × Nat) := (if kp.length = 40 then [] else kp) ++ [e]
/-- a value asked for: answer, table, hits -/
def askV (w n : Nat) (r B : Nat → Int) (kp : List (Nat × Nat)) (root : Int) : Int × List (Nat × Nat) × Int :=
  if kindF r B n root = 0 then (0, kp, 0) else
  match kfind kp (cod (alnB r B root) n) with
  | some v => ((v : Int), kp, 1)
  | none => match bfs (scP w n false) 1501 0 [cod (alnB r B root) n + 1073741824 * ((kindF r B n root).toNat - 1)] with
    | none => (-1004, kp, 0)
    | some _ => (((GV w n false (cod (alnB r B root) n + 1073741824 * ((kindF r B n root).toNat - 1))).2 : Int), kpush kp (cod (alnB r B root) n, (GV w n false (cod (alnB r B root) n + 1073741824 * ((kindF r B n root).toNat - 1))).2), 0)
theorem bfs_ok0 {w h n p0 : Nat} {alt : Bool} (hg : gOK w h n) (hp : vP n p0) {L : List Nat} (hb : bfs (scP w n alt) 1501 0 [p0] = some L) : bOK (scP w n alt) (vP n) L ∧ L[0]? = some p0 := by
  refine ⟨bfs_ok (rk := bcP n) (Q := vP n) (fun p hp c hc => ⟨vP_nx hg hp c hc, bcP_nx hg c hc⟩) rfl (bI_0 hp) hb, ?_⟩
  obtain ⟨N, hN⟩ := bfs_pre (by simp) (by simp) hb
  rw [hN]; rfl
theorem vP_start {n c s : Nat} (hn : n ≤ 15) (hc : c < 1073741824) (hC : mC3 (bdP c) n) (hs : s = 1 ∨ s = 2) : vP n (c + 1073741824 * (s - 1)) := ⟨by omega, by rw [cntZ_cong (fun k hk => bdP_side (by omega))]; exact hC.1, by rw [cntZ_cong (fun k hk => bdP_side (by omega))]; exact hC.2⟩
theorem mRg.x {vs : List Nat} {S S1 : gS} {w n : Nat} (hh : mRg S w n) (he : Eqx vs S S1) (h1 : vs.contains 61 = false) (h2 : vs.contains 72 = false) : mRg S1 w n := by
  have e : S1 61 = S 61 := funext fun j => he 61 j h1
  intro f hf
  rw [he 72 f h2, e]
  exact hh f hf
theorem t_X9_valueOf (E : gE) (S : gS) (w h n : Nat) (hg : mG S w h n) (hB : mBd (S 61) n) (hc : mC3 (S 61) n) (hr : mRg S w n) (kp : List (Nat × Nat)) (hk : mKp S kp) (root : Nat) (hroot : root < n) (h3 : kindF (rg w n (S 61)) (S 61) n root ≠ 3) : Ct E LAY mX9_valueOf [.ref (gad E 27), iV (root : Int)] S (fun r S' => Eqx [53, 54, 55, 56, 62, 64, 65, 66, 67, 68, 69, 70] S S' ∧ r = some (iV (askV w n (rg w n (S 61)) (S 61) kp root).1) ∧ mKp S' (askV w n (rg w n (S 61)) (S 61) kp root).2.1 ∧ S' 54 0 = S 54 0 + (askV w n (rg w n (S 61)) (S 61) kp root).2.2) := by
  have hn := hg.n15
  have hO := hg.2.2
  have hkb := kindF_bd (r := rg w n (S 61)) (B := S 61) (n := n) (root := root)
  have hcl := cod_lt30 (x := alnB (rg w n (S 61)) (S 61) root) hn (alnB_bd hB)
  have hcc := alnB_c3 (r := rg w n (S 61)) (root := (root : Int)) hB hc
  refine Ct.intro LAY_ok (by decide +kernel) (Nat.le_of_ble_eq_true rfl) rfl ?_
  intro Z hZ
  refine g_aload_n hZ dX9_valueOf_0 rfl ?_
  refine g_iload_n hZ dX9_valueOf_1 rfl ?_
  refine g_callV hZ (t_X9_kind E S w h n hg hB hr root (by omega)) kX9_131 ⟨by decide, by decide⟩ rfl rfl rfl rfl (Nat.le_of_ble_eq_true rfl) dX9_valueOf_2 ?_
  rintro _ _ ⟨rfl, rfl⟩
  generalize hK : kindF (rg w n (S 61)) (S 61) n (root : Int) = K at *
  refine g_istore_n hZ dX9_valueOf_5 (by decide) ?_
  refine g_iload_n hZ dX9_valueOf_6 rfl ?_
  refine g_if_ne hZ 12 dX9_valueOf_7 rfl (by omega) (fun c1 => ?_) (fun c1 => ?_)
  · refine g_aload_n hZ dX9_valueOf_12 rfl ?_
    refine g_iload_n hZ dX9_valueOf_13 rfl ?_
    refine g_callV hZ (t_X9_coded E S w h n hg hB root (by omega) (fun _ => hr)) kX9_150 ⟨by decide, by decide⟩ rfl rfl rfl rfl (Nat.le_of_ble_eq_true rfl) dX9_valueOf_14 ?_
    rintro _ _ ⟨rfl, rfl⟩
    generalize hC : cod (alnB (rg w n (S 61)) (S 61) (root : Int)) n = C at *
    have eK : K = ((K.toNat : Nat) : Int) := by omega
    have hp0 := vP_start hn hcl hcc (show K.toNat = 1 ∨ K.toNat = 2 by omega)
    obtain ⟨g1, g2, g3, g4⟩ := id hk
    have loop : ∀ (m i : Nat), i + m = kp.length → (∀ (j : Nat) (x : Nat × Nat), j < i → kp[j]? = some x → x.1 ≠ C) → Z S [(0, .ref (gad E 27)), (1, iV (root : Int)), (2, iV K), (3, iV (C : Int)), (4, iV (i : Int))] 21 [] := by
      intro m
      induction m with
      | zero =>
        intro i hi hno
        have hf : kfind kp C = none := kfind_no (fun j x hj => hno j x (by have := (List.getElem?_eq_some_iff.mp hj).1; omega) hj)
        refine g_iload hZ dX9_valueOf_21 rfl ?_
        refine g_aload_n hZ dX9_valueOf_23 rfl ?_
        refine g_geti hZ fX9_74 rfl rfl dX9_valueOf_24 g1 ?_
        refine g_icmp_ge hZ 65 dX9_valueOf_27 rfl (by omega) (fun _ => ?_) (fun cX => absurd (by omega) cX)
        refine g_aload_n hZ dX9_valueOf_65 rfl ?_
        refine g_iload_n hZ dX9_valueOf_66 rfl ?_
        refine g_iload_n hZ dX9_valueOf_67 rfl ?_
        refine g_iconst hZ dX9_valueOf_68 ?_
        refine g_callV hZ (As := [iV (C : Int), iV K, iV (cond false 1 0)]) (by rw [eK]; exact t_X9_isReached E S w h n hg C hcl hcc K.toNat (by omega) false) kX9_156 ⟨by decide, by decide⟩ rfl rfl rfl rfl (Nat.le_of_ble_eq_true rfl) dX9_valueOf_69 ?_
        rintro _ S₁ ⟨he₁, z, rfl, hz⟩
        rcases hz with ⟨rfl, hz⟩ | ⟨rfl, L, hz, hRS⟩
        · refine g_if_ne hZ 79 dX9_valueOf_72 rfl (by omega) (fun cX => absurd (by omega) cX) (fun _ => ?_)
          have ea : askV w n (rg w n (S 61)) (S 61) kp (root : Int) = (-1004, kp, 0) := by
            unfold askV
            rw [hK, hC, if_neg c1, hf, hz]
          refine g_sipush hZ (z := (-1004)) dX9_valueOf_75 rfl ?_
          refine g_iret hZ dX9_valueOf_78 rfl ⟨he₁.mono rfl, by rw [ea], by rw [ea]; exact hk.x he₁ rfl rfl rfl, by rw [ea, he₁ 54 0 rfl]; simp⟩
        · refine g_if_ne hZ 79 dX9_valueOf_72 rfl (by omega) (fun _ => ?_) (fun cX => absurd cX (by omega))
          obtain ⟨hOK, h0⟩ := bfs_ok0 hO hp0 hz
          refine g_aload_n hZ dX9_valueOf_79 rfl ?_
          refine g_iconst hZ dX9_valueOf_80 ?_
          refine g_callV hZ (t_X9_weighs E S₁ w h n (hg.x he₁ rfl rfl) false L hRS hOK) kX9_160 ⟨by decide, by decide⟩ rfl rfl rfl rfl (Nat.le_of_ble_eq_true rfl) dX9_valueOf_81 ?_
          rintro _ S₂ ⟨rfl, he₂, hW⟩
          obtain ⟨w1, w2⟩ := hW 0 _ h0
          have hb16 := GV_b (w := w) (n := n) (alt := false) (p := C + 1073741824 * (K.toNat - 1))
          have ea : askV w n (rg w n (S 61)) (S 61) kp (root : Int) = (((GV w n false (C + 1073741824 * (K.toNat - 1))).2 : Int), kpush kp (C, (GV w n false (C + 1073741824 * (K.toNat - 1))).2), 0) := by
            unfold askV
            rw [hK, hC, if_neg c1, hf, hz]
          have he₁₂ : Eqx [53, 54, 55, 56, 62, 64, 65, 66, 67, 68, 69, 70] S S₂ := (he₁.mono rfl).tr (he₂.mono rfl)
          have hk₂ : mKp S₂ kp := (hk.x he₁ rfl rfl rfl).x he₂ rfl rfl rfl
          have h54 : S₂ 54 0 = S 54 0 := (he₂ 54 0 rfl).trans (he₁ 54 0 rfl)
          rw [ea] at hZ
          generalize hV : (GV w n false (C + 1073741824 * (K.toNat - 1))).2 = V at *
          have store : ∀ (gs : List (Nat × Nat)) (S₃ : gS) (L9 : List (Nat × Value)), gs ++ [(C, V)] = kpush kp (C, V) → gs.length ≤ 39 → mKp S₃ gs → Eqx [53] S₂ S₃ → lkeep L9 [0, 1, 2, 3] = [(0, .ref (gad E 27)), (1, iV (root : Int)), (2, iV K), (3, iV (C : Int))] → Z S₃ L9 105 [] := by
            intro gs S₃ L9 hgs hlen hk₃ he₃ hL9
            obtain ⟨q1, q2, q3, q4⟩ := hk₃
            refine g_keep hZ [0, 1, 2, 3] hL9 ?_
            refine g_aload_n hZ dX9_valueOf_105 rfl ?_
            refine g_getr hZ fX9_26 rfl rfl dX9_valueOf_106 ?_
            refine g_aload_n hZ dX9_valueOf_109 rfl ?_
            refine g_geti hZ fX9_74 rfl rfl dX9_valueOf_110 q1 ?_
            refine g_iload_n hZ dX9_valueOf_113 rfl ?_
            refine g_iast hZ (gs.length) rfl dX9_valueOf_114 (rfl) (by omega) (by decide) ?_
            refine g_aload_n hZ dX9_valueOf_115 rfl ?_
            refine g_getr hZ fX9_29 rfl rfl dX9_valueOf_116 ?_
            refine g_aload_n hZ dX9_valueOf_119 rfl ?_
            refine g_geti hZ fX9_74 rfl rfl dX9_valueOf_120 q1 ?_
            refine g_aload_n hZ dX9_valueOf_123 rfl ?_
            refine g_getr hZ fX9_45 rfl rfl dX9_valueOf_124 ?_
            refine g_iconst hZ dX9_valueOf_127 ?_
            refine g_iald hZ (0) rfl dX9_valueOf_128 (rfl) (by omega) (by decide) (((he₃ 70 0 rfl).trans w2)) ?_
            refine g_iast hZ (gs.length) rfl dX9_valueOf_129 (rfl) (by omega) (by decide) ?_
            refine g_aload_n hZ dX9_valueOf_130 rfl ?_
            refine g_dup hZ dX9_valueOf_131 rfl ?_
            refine g_geti hZ fX9_74 rfl rfl dX9_valueOf_132 q1 ?_
            refine g_iconst hZ dX9_valueOf_135 ?_
            refine g_iadd hZ dX9_valueOf_136 ?_
            refine g_puti hZ fX9_74 rfl rfl dX9_valueOf_137 ?_
            refine g_aload_n hZ dX9_valueOf_140 rfl ?_
            refine g_getr hZ fX9_45 rfl rfl dX9_valueOf_141 ?_
            refine g_iconst hZ dX9_valueOf_144 ?_
            refine g_iald hZ (0) rfl dX9_valueOf_145 (rfl) (by omega) (by decide) (((he₃ 70 0 rfl).trans w2)) ?_
            refine g_iret hZ dX9_valueOf_146 rfl ⟨he₁₂.tr ((((he₃.mono rfl).up rfl).up rfl).up rfl), rfl, ?_, ?_⟩
            · show mKp _ (kpush kp (C, V))
              rw [← hgs]
              have hl1 : (gs ++ [(C, V)]).length = gs.length + 1 := by simp
              refine ⟨?_, by omega, fun i e hi => ?_, fun e he => ?_⟩
              · rw [upS_eq, hl1]; rfl
              · have hil := (List.getElem?_eq_some_iff.mp hi).1
                by_cases q : i < gs.length
                · rw [List.getElem?_append_left q] at hi
                  obtain ⟨a1, a2⟩ := q3 i e hi
                  constructor
                  · rw [upS_v _ _ (by decide), upS_v _ _ (by decide), upS_j _ _ (by omega)]; exact a1
                  · rw [upS_v _ _ (by decide), upS_j _ _ (by omega), upS_v _ _ (by decide)]; exact a2
                · have : i = gs.length := by omega
                  subst this
                  rw [List.getElem?_append_right (Nat.le_refl _)] at hi
                  simp at hi
                  subst hi
                  constructor
                  · rw [upS_v _ _ (by decide), upS_v _ _ (by decide), upS_eq]
                  · rw [upS_v _ _ (by decide), upS_eq]
              · rcases List.mem_append.mp he with z | z
                · exact q4 e z
                · rw [List.mem_singleton] at z
                  subst z
                  exact ⟨hcl, by show V ≤ 16; omega⟩
            · show S₃ 54 0 = S 54 0 + 0
              rw [he₃ 54 0 rfl, h54]; simp
          obtain ⟨p1, p2, p3, p4⟩ := id hk₂
          refine g_aload_n hZ dX9_valueOf_84 rfl ?_
          refine g_aload_n hZ dX9_valueOf_85 rfl ?_
          refine g_geti hZ fX9_74 rfl rfl dX9_valueOf_86 p1 ?_
          refine g_bipush hZ (z := 40) dX9_valueOf_89 rfl ?_
          refine g_icmp_ne hZ 98 dX9_valueOf_91 rfl (by omega) (fun c2 => ?_) (fun c2 => ?_)
          · refine g_aload_n hZ dX9_valueOf_98 rfl ?_
            refine g_geti hZ fX9_74 rfl rfl dX9_valueOf_99 p1 ?_
            refine g_puti hZ fX9_74 rfl rfl dX9_valueOf_102 ?_
            refine store kp _ _ ?_ (by omega) ⟨upS_eq _ _ _ _, p2, p3, p4⟩ (Eqx.rf.up rfl) rfl
            unfold kpush
            rw [if_neg (by omega)]
          · refine g_iconst hZ dX9_valueOf_94 ?_
            refine g_goto hZ 102 dX9_valueOf_95 rfl ?_
            refine g_puti hZ fX9_74 rfl rfl dX9_valueOf_102 ?_
            refine store [] _ _ ?_ (by simp) ⟨upS_eq _ _ _ _, by simp, fun i e hi => by simp at hi, fun e he => by simp at he⟩ (Eqx.rf.up rfl) rfl
            unfold kpush
            rw [if_pos (by omega)]
      | succ m ih =>
        intro i hi hno
        obtain ⟨e, he⟩ : ∃ e, kp[i]? = some e := ⟨_, List.getElem?_eq_getElem (by omega)⟩
        obtain ⟨e1, e2⟩ := g3 i e he
        obtain ⟨b1, b2⟩ := g4 e (List.mem_of_getElem? he)
        refine g_iload hZ dX9_valueOf_21 rfl ?_
        refine g_aload_n hZ dX9_valueOf_23 rfl ?_
        refine g_geti hZ fX9_74 rfl rfl dX9_valueOf_24 g1 ?_
        refine g_icmp_ge hZ 65 dX9_valueOf_27 rfl (by omega) (fun cX => absurd cX (by omega)) (fun _ => ?_)
        refine g_aload_n hZ dX9_valueOf_30 rfl ?_
        refine g_getr hZ fX9_26 rfl rfl dX9_valueOf_31 ?_
        refine g_iload hZ dX9_valueOf_34 rfl ?_
        refine g_iald hZ (i) rfl dX9_valueOf_36 (rfl) (by omega) (by decide) (e1) ?_
        refine g_iload_n hZ dX9_valueOf_37 rfl ?_
        refine g_icmp_ne hZ 59 dX9_valueOf_38 rfl (by omega) (fun c2 => ?_) (fun c2 => ?_)
        · refine g_iinc hZ dX9_valueOf_59 rfl (by decide) ?_
          refine g_goto hZ 21 dX9_valueOf_62 rfl ?_
          refine ih (i + 1) (by omega) (fun j x hj hx => ?_)
          by_cases q : j = i
          · subst q; rw [he] at hx; cases hx; omega
          · exact hno j x (by omega) hx
        · have hf : kfind kp C = some e.2 := kfind_drop hno he (by omega)
          have ea : askV w n (rg w n (S 61)) (S 61) kp (root : Int) = ((e.2 : Int), kp, 1) := by
            unfold askV
            rw [hK, hC, if_neg c1, hf]
          refine g_aload_n hZ dX9_valueOf_41 rfl ?_
          refine g_dup hZ dX9_valueOf_42 rfl ?_
          refine g_geti hZ fX9_153 rfl rfl dX9_valueOf_43 rfl ?_
          refine g_iconst hZ dX9_valueOf_46 ?_
          refine g_iadd hZ dX9_valueOf_47 ?_
          refine g_puti hZ fX9_153 rfl rfl dX9_valueOf_48 ?_
          refine g_aload_n hZ dX9_valueOf_51 rfl ?_
          refine g_getr hZ fX9_29 rfl rfl dX9_valueOf_52 ?_
          refine g_iload hZ dX9_valueOf_55 rfl ?_
          refine g_iald hZ (i) rfl dX9_valueOf_57 (rfl) (by omega) (by decide) (e2) ?_
          refine g_iret hZ dX9_valueOf_58 rfl ⟨Eqx.rf.up rfl, by rw [ea], by rw [ea]; exact hk.x (Eqx.rf.up (vs := [54]) rfl) rfl rfl rfl, by rw [ea, upS_eq]⟩
    refine g_istore_n hZ dX9_valueOf_17 (by decide) ?_
    refine g_iconst hZ dX9_valueOf_18 ?_
    refine g_istore hZ dX9_valueOf_19 (by decide) ?_
    exact loop kp.length 0 (by omega) (fun j x hj => absurd hj (Nat.not_lt_zero j))
  · have ea : askV w n (rg w n (S 61)) (S 61) kp (root : Int) = (0, kp, 0) := by
      unfold askV
      rw [hK, if_pos c1]
    refine g_iconst hZ dX9_valueOf_10 ?_
    refine g_iret hZ dX9_valueOf_11 rfl ⟨Eqx.rf, by rw [ea], by rw [ea]; exact hk, by rw [ea]; simp⟩
theorem askV_bd {w n : Nat} {r B : Nat → Int} {kp : List (Nat × Nat)} {root : Int} (hn : n ≤ 15) (hk : ∀ e ∈ kp, e.1 < 1073741824 ∧ e.2 ≤ 16) : ((askV w n r B kp root).1 = -1004 ∨ (0 ≤ (askV w n r B kp root).1 ∧ (askV w n r B kp root).1 ≤ 16)) := by
  unfold askV
  split
  · right; simp
  · split
    · rename_i v hv
      right
      have : ∀ (kp : List (Nat × Nat)), (∀ e ∈ kp, e.1 < 1073741824 ∧ e.2 ≤ 16) → kfind kp (cod (alnB r B root) n) = some v → v ≤ 16 := by
        intro kp
        induction kp with
        | nil => intro _ h; cases h
        | cons e kp ih =>
          intro h1 h2
          rw [kfind] at h2
          split at h2
          · cases h2; exact (h1 e List.mem_cons_self).2
          · exact ih (fun x hx => h1 x (List.mem_cons_of_mem _ hx)) h2
      have := this kp hk hv
      show 0 ≤ (v : Int) ∧ (v : Int) ≤ 16
      omega
    · split
      · left; rfl
      · right
        have := GV_b (w := w) (n := n) (alt := false) (p := cod (alnB r B root) n + 1073741824 * ((kindF r B n root).toNat - 1))
        constructor
        · exact Int.natCast_nonneg _
        · show ((GV w n false (cod (alnB r B root) n + 1073741824 * ((kindF r B n root).toNat - 1))).2 : Int) ≤ 16
          omega
/-- value(i): answer, table, hits -/
def aValue (w n : Nat) (r B : Nat → Int) (kp : List (Nat × Nat)) (i : Int) : Int × List (Nat × Nat) × Int := if aLow r n i < 0 then (-1001, kp, 0) else if kindF r B n (aLow r n i) = 3 then (-1002, kp, 0) else askV w n r B kp (aLow r n i)
theorem t_X9_value (E : gE) (S : gS) (w h n : Nat) (hg : mG S w h n) (hB : mBd (S 61) n) (hc : mC3 (S 61) n) (kp : List (Nat × Nat)) (hk : mKp S kp) (i : Int) (ri : R32 i) : Ct E LAY mX9_value [.ref (gad E 27), iV i] S (fun r S' => Eqx [53, 54, 55, 56, 62, 64, 65, 66, 67, 68, 69, 70, 72] S S' ∧ r = some (iV (aValue w n (rg w n (S 61)) (S 61) kp i).1) ∧ mKp S' (aValue w n (rg w n (S 61)) (S 61) kp i).2.1 ∧ S' 54 0 = S 54 0 + (aValue w n (rg w n (S 61)) (S 61) kp i).2.2) := by
  have hn := hg.n15
  refine Ct.intro LAY_ok (by decide +kernel) (Nat.le_of_ble_eq_true rfl) rfl ?_
  intro Z hZ
  refine g_aload_n hZ dX9_value_0 rfl ?_
  refine g_iload_n hZ dX9_value_1 rfl ?_
  refine g_callV hZ (t_X9_lowest E S w h n hg hB i ri) kX9_128 ⟨by decide, by decide⟩ rfl rfl rfl rfl (Nat.le_of_ble_eq_true rfl) dX9_value_2 ?_
  rintro _ S₁ ⟨he₁, hr₁, rfl⟩
  have hg₁ := hg.x he₁ rfl rfl
  have e61 : S₁ 61 = S 61 := funext fun j => he₁ 61 j rfl
  have hB₁ : mBd (S₁ 61) n := by rw [e61]; exact hB
  have hc₁ : mC3 (S₁ 61) n := by rw [e61]; exact hc
  have hk₁ := hk.x he₁ rfl rfl rfl
  have h54 : S₁ 54 0 = S 54 0 := he₁ 54 0 rfl
  have hlow := aLow_bd (r := rg w n (S 61)) (n := n) (i := i)
  generalize hA : aLow (rg w n (S 61)) n i = A at *
  have rA : R32 A := by
    rcases hlow with ⟨q, -⟩ | ⟨k, q, q2, -⟩ <;> omega
  refine g_istore_n hZ dX9_value_5 (by decide) ?_
  refine g_iload_n hZ dX9_value_6 rfl ?_
  refine g_if_ge hZ 14 dX9_value_7 rfl (by omega) (fun c => ?_) (fun c => ?_)
  · obtain ⟨k, rfl, k2, -⟩ := hlow.resolve_left (fun q => by omega)
    refine g_aload_n hZ dX9_value_14 rfl ?_
    refine g_iload_n hZ dX9_value_15 rfl ?_
    refine g_callV hZ (t_X9_kind E S₁ w h n hg₁ hB₁ hr₁ k rA) kX9_131 ⟨by decide, by decide⟩ rfl rfl rfl rfl (Nat.le_of_ble_eq_true rfl) dX9_value_16 ?_
    rintro _ _ ⟨rfl, rfl⟩
    rw [e61]
    have hkb := kindF_bd (r := rg w n (S 61)) (B := S 61) (n := n) (root := (k : Int))
    refine g_iconst hZ dX9_value_19 ?_
    refine g_icmp_ne hZ 29 dX9_value_20 rfl (by omega) (fun c2 => ?_) (fun c2 => ?_)
    · refine g_aload_n hZ dX9_value_29 rfl ?_
      refine g_iload_n hZ dX9_value_30 rfl ?_
      refine g_callV hZ (t_X9_valueOf E S₁ w h n hg₁ hB₁ hc₁ hr₁ kp hk₁ k k2 (by rw [e61]; exact c2)) kX9_164 ⟨by decide, by decide⟩ rfl rfl rfl rfl (Nat.le_of_ble_eq_true rfl) dX9_value_31 ?_
      rintro _ S₂ ⟨he₂, rfl, hk₂, h54₂⟩
      rw [e61] at hk₂ h54₂ ⊢
      have ea : aValue w n (rg w n (S 61)) (S 61) kp i = askV w n (rg w n (S 61)) (S 61) kp k := by unfold aValue; rw [hA, if_neg (by omega), if_neg c2]
      refine g_iret hZ dX9_value_34 rfl ⟨(he₁.mono rfl).tr (he₂.mono rfl), by rw [ea], by rw [ea]; exact hk₂, by rw [ea, h54₂, h54]⟩
    · have ea : aValue w n (rg w n (S 61)) (S 61) kp i = (-1002, kp, 0) := by unfold aValue; rw [hA, if_neg (by omega), if_pos c2]
      refine g_sipush hZ (z := (-1002)) dX9_value_23 rfl ?_
      refine g_goto hZ 34 dX9_value_26 rfl ?_
      refine g_iret hZ dX9_value_34 rfl ⟨he₁.mono rfl, by rw [ea], by rw [ea]; exact hk₁, by rw [ea, h54]; simp⟩
  · have ea : aValue w n (rg w n (S 61)) (S 61) kp i = (-1001, kp, 0) := by unfold aValue; rw [hA, if_pos (by omega)]
    refine g_sipush hZ (z := (-1001)) dX9_value_10 rfl ?_
    refine g_iret hZ dX9_value_13 rfl ⟨he₁.mono rfl, by rw [ea], by rw [ea]; exact hk₁, by rw [ea, h54]; simp⟩
def leadL (w n : Nat) (r B : Nat → Int) : List Nat → Int → List (Nat × Nat) → Int → Int × List (Nat × Nat) × Int
  | [], sum, kp, hh => (sum, kp, hh)
  | k :: rs, sum, kp, hh => if (askV w n r B kp k).1 < 0 then (-1004, (askV w n r B kp k).2.1, hh + (askV w n r B kp k).2.2) else leadL w n r B rs (sum + (if kindF r B n k = 1 then (askV w n r B kp k).1 else -(askV w n r B kp k).1)) (askV w n r B kp k).2.1 (hh + (askV w n r B kp k).2.2)
def aLead (w n : Nat) (r B : Nat → Int) (kp : List (Nat × Nat)) : Int × List (Nat × Nat) × Int := if (rts r n).any (fun k => decide (kindF r B n k = 3)) = true then (-1002, kp, 0) else leadL w n r B (rts r n) 0 kp 0
theorem t_X9_lead (E : gE) (S : gS) (w h n : Nat) (hg : mG S w h n) (hB : mBd (S 61) n) (hc : mC3 (S 61) n) (kp : List (Nat × Nat)) (hk : mKp S kp) : Ct E LAY mX9_lead [.ref (gad E 27)] S (fun r S' => Eqx [53, 54, 55, 56, 62, 64, 65, 66, 67, 68, 69, 70, 72] S S' ∧ r = some (iV (aLead w n (rg w n (S 61)) (S 61) kp).1) ∧ mKp S' (aLead w n (rg w n (S 61)) (S 61) kp).2.1 ∧ S' 54 0 = S 54 0 + (aLead w n (rg w n (S 61)) (S 61) kp).2.2) := by
  have hn := hg.n15
  refine Ct.intro LAY_ok (by decide +kernel) (Nat.le_of_ble_eq_true rfl) rfl ?_
  intro Z hZ
  refine g_aload_n hZ dX9_lead_0 rfl ?_
  refine g_callV hZ (t_X9_parts E S w h n hg hB) kX9_122 ⟨by decide, by decide⟩ rfl rfl rfl rfl (Nat.le_of_ble_eq_true rfl) dX9_lead_1 ?_
  rintro _ S₁ ⟨rfl, he₁, hrr⟩
  have hg₁ := hg.x he₁ rfl rfl
  have e61 : S₁ 61 = S 61 := funext fun j => he₁ 61 j rfl
  have hr₁ : mRg S₁ w n := fun f hf => by rw [e61]; exact hrr f hf
  have hB₁ : mBd (S₁ 61) n := by rw [e61]; exact hB
  have hk₁ := hk.x he₁ rfl rfl rfl
  have h54 : S₁ 54 0 = S 54 0 := he₁ 54 0 rfl
  generalize hRR : rg w n (S 61) = RR at *
  have second : (∀ k ∈ rts RR n, kindF RR (S 61) n k ≠ 3) → aLead w n RR (S 61) kp = leadL w n RR (S 61) (rts RR n) 0 kp 0 → ∀ (m k : Nat) (sum : Int) (kq : List (Nat × Nat)) (hh : Int) (S₂ : gS) (L9 : List (Nat × Value)), k + m = n → Eqx [53, 54, 55, 56, 62, 64, 65, 66, 67, 68, 69, 70, 72] S S₂ → mRg S₂ w n → mKp S₂ kq → S₂ 54 0 = S 54 0 + hh → leadL w n RR (S 61) ((List.range' k m).filter (rootB RR)) sum kq hh = leadL w n RR (S 61) (rts RR n) 0 kp 0 → lkeep L9 [0, 1, 2] = [(0, .ref (gad E 27)), (1, iV sum), (2, iV (k : Int))] → Z S₂ L9 47 [] := by
    intro hno3 hA m
    rw [hA] at hZ
    induction m with
    | zero =>
      intro k sum kq hh S₂ L9 hkm he₂ hr₂ hk₂ h54₂ hres hL9
      have hg₂ := hg.x he₂ rfl rfl
      refine g_keep hZ [0, 1, 2] hL9 ?_
      refine g_iload_n hZ dX9_lead_47 rfl ?_
      refine g_aload_n hZ dX9_lead_48 rfl ?_
      refine g_callV hZ (t_X9_size E S₂ w h n hg₂) kX9_60 ⟨by decide, by decide⟩ rfl rfl rfl rfl (Nat.le_of_ble_eq_true rfl) dX9_lead_49 ?_
      rintro _ _ ⟨rfl, rfl⟩
      refine g_icmp_ge hZ 111 dX9_lead_52 rfl (by omega) (fun _ => ?_) (fun cX => absurd (by omega) cX)
      have hres2 : (sum, kq, hh) = leadL w n RR (S 61) (rts RR n) 0 kp 0 := hres
      rw [← hres2] at hZ
      refine g_iload_n hZ dX9_lead_111 rfl ?_
      refine g_iret hZ dX9_lead_112 rfl ⟨he₂, rfl, hk₂, h54₂⟩
    | succ m ih =>
      intro k sum kq hh S₂ L9 hkm he₂ hr₂ hk₂ h54₂ hres hL9
      have hg₂ := hg.x he₂ rfl rfl
      have e61₂ : S₂ 61 = S 61 := funext fun j => he₂ 61 j rfl
      have hB₂ : mBd (S₂ 61) n := by rw [e61₂]; exact hB
      have hc₂ : mC3 (S₂ 61) n := by rw [e61₂]; exact hc
      have hrk : S₂ 72 k = RR k := by rw [hr₂ k (by omega), e61₂, hRR]
      have rb := rg_bd (w := w) (B := S 61) (show k < n by omega)
      rw [hRR] at rb
      rw [List.range'_succ] at hres
      refine g_keep hZ [0, 1, 2] hL9 ?_
      refine g_iload_n hZ dX9_lead_47 rfl ?_
      refine g_aload_n hZ dX9_lead_48 rfl ?_
      refine g_callV hZ (t_X9_size E S₂ w h n hg₂) kX9_60 ⟨by decide, by decide⟩ rfl rfl rfl rfl (Nat.le_of_ble_eq_true rfl) dX9_lead_49 ?_
      rintro _ _ ⟨rfl, rfl⟩
      refine g_icmp_ge hZ 111 dX9_lead_52 rfl (by omega) (fun cX => absurd cX (by omega)) (fun _ => ?_)
      have step : ∀ (sum2 : Int) (kq2 : List (Nat × Nat)) (hh2 : Int) (S₃ : gS) (L9 : List (Nat × Value)), Eqx [53, 54, 55, 56, 62, 64, 65, 66, 67, 68, 69, 70, 72] S S₃ → mRg S₃ w n → mKp S₃ kq2 → S₃ 54 0 = S 54 0 + hh2 → leadL w n RR (S 61) ((List.range' (k + 1) m).filter (rootB RR)) sum2 kq2 hh2 = leadL w n RR (S 61) (rts RR n) 0 kp 0 → lkeep L9 [0, 1, 2] = [(0, .ref (gad E 27)), (1, iV sum2), (2, iV (k : Int))] → Z S₃ L9 105 [] := by
        intro sum2 kq2 hh2 S₃ L9 he₃ hr₃ hk₃ h54₃ hres3 hL9
        refine g_keep hZ [0, 1, 2] hL9 ?_
        refine g_iinc hZ dX9_lead_105 rfl (by decide) ?_
        refine g_goto hZ 47 dX9_lead_108 rfl ?_
        exact ih (k + 1) sum2 kq2 hh2 S₃ _ (by omega) he₃ hr₃ hk₃ h54₃ hres3 rfl
      refine g_aload_n hZ dX9_lead_55 rfl ?_
      refine g_getr hZ fX9_51 rfl rfl dX9_lead_56 ?_
      refine g_iload_n hZ dX9_lead_59 rfl ?_
      refine g_iald hZ (k) rfl dX9_lead_60 (rfl) (by omega) (by decide) (hrk) ?_
      refine g_iload_n hZ dX9_lead_61 rfl ?_
      refine g_icmp_ne hZ 105 dX9_lead_62 rfl (by omega) (fun c1 => ?_) (fun c1 => ?_)
      · have hnr : rootB RR k = false := by simpa [rootB] using c1
        rw [List.filter_cons_of_neg (by rw [hnr]; simp)] at hres
        exact step sum kq hh S₂ _ he₂ hr₂ hk₂ h54₂ hres rfl
      · have hyr : rootB RR k = true := by simpa [rootB] using c1
        rw [List.filter_cons_of_pos hyr, leadL] at hres
        have hkb := kindF_bd (r := RR) (B := S 61) (n := n) (root := (k : Int))
        have hk3 : kindF RR (S 61) n k ≠ 3 := hno3 k (List.mem_filter.mpr ⟨List.mem_range.mpr (by omega), hyr⟩)
        refine g_aload_n hZ dX9_lead_65 rfl ?_
        refine g_iload_n hZ dX9_lead_66 rfl ?_
        refine g_callV hZ (t_X9_kind E S₂ w h n hg₂ hB₂ hr₂ k (by omega)) kX9_131 ⟨by decide, by decide⟩ rfl rfl rfl rfl (Nat.le_of_ble_eq_true rfl) dX9_lead_67 ?_
        rintro _ _ ⟨rfl, rfl⟩
        rw [e61₂, hRR]
        refine g_if_le hZ 105 dX9_lead_70 rfl (by omega) (fun c2 => ?_) (fun c2 => ?_)
        · have h0 : kindF RR (S 61) n k = 0 := by omega
          have ea : askV w n RR (S 61) kq k = (0, kq, 0) := by unfold askV; rw [if_pos h0]
          rw [ea, if_neg (show ¬ ((0 : Int), kq, (0 : Int)).1 < 0 by simp), if_neg (by omega)] at hres
          refine step sum kq hh S₂ _ he₂ hr₂ hk₂ h54₂ ?_ rfl
          rw [← hres]
          simp
        · refine g_aload_n hZ dX9_lead_73 rfl ?_
          refine g_iload_n hZ dX9_lead_74 rfl ?_
          refine g_callV hZ (t_X9_valueOf E S₂ w h n hg₂ hB₂ hc₂ hr₂ kq hk₂ k (by omega) (by rw [e61₂, hRR]; exact hk3)) kX9_164 ⟨by decide, by decide⟩ rfl rfl rfl rfl (Nat.le_of_ble_eq_true rfl) dX9_lead_75 ?_
          rintro _ S₃ ⟨he₃, rfl, hk₃, h54₃⟩
          rw [e61₂, hRR] at hk₃ h54₃ ⊢
          have hb := askV_bd (w := w) (n := n) (r := RR) (B := S 61) (kp := kq) (root := (k : Int)) hn hk₂.2.2.2
          have he₂₃ : Eqx [53, 54, 55, 56, 62, 64, 65, 66, 67, 68, 69, 70, 72] S S₃ := he₂.tr (he₃.mono rfl)
          have hr₃ := hr₂.x he₃ rfl rfl
          generalize askV w n RR (S 61) kq k = av at *
          obtain ⟨v, kq2, hv⟩ := av
          dsimp only at hb hk₃ h54₃ hres ⊢
          refine g_istore_n hZ dX9_lead_78 (by decide) ?_
          refine g_iload_n hZ dX9_lead_79 rfl ?_
          refine g_if_ge hZ 87 dX9_lead_80 rfl (by omega) (fun c3 => ?_) (fun c3 => ?_)
          · rw [if_neg (by omega)] at hres
            have hg₃ := hg.x he₂₃ rfl rfl
            have e61₃ : S₃ 61 = S 61 := funext fun j => he₂₃ 61 j rfl
            refine g_iload_n hZ dX9_lead_87 rfl ?_
            refine g_aload_n hZ dX9_lead_88 rfl ?_
            refine g_iload_n hZ dX9_lead_89 rfl ?_
            refine g_callV hZ (t_X9_kind E S₃ w h n hg₃ (by rw [e61₃]; exact hB) hr₃ k (by omega)) kX9_131 ⟨by decide, by decide⟩ rfl rfl rfl rfl (Nat.le_of_ble_eq_true rfl) dX9_lead_90 ?_
            rintro _ _ ⟨rfl, rfl⟩
            rw [e61₃, hRR]
            refine g_iconst hZ dX9_lead_93 ?_
            refine g_icmp_ne hZ 101 dX9_lead_94 rfl (by omega) (fun c4 => ?_) (fun c4 => ?_)
            · rw [if_neg c4] at hres
              refine g_iload_n hZ dX9_lead_101 rfl ?_
              refine g_ineg hZ dX9_lead_102 ?_
              refine g_iadd hZ dX9_lead_103 ?_
              refine g_istore_n hZ dX9_lead_104 (by decide) ?_
              exact step _ kq2 (hh + hv) S₃ _ he₂₃ hr₃ hk₃ (by rw [h54₃, h54₂]; omega) hres rfl
            · rw [if_pos c4] at hres
              refine g_iload_n hZ dX9_lead_97 rfl ?_
              refine g_goto hZ 103 dX9_lead_98 rfl ?_
              refine g_iadd hZ dX9_lead_103 ?_
              refine g_istore_n hZ dX9_lead_104 (by decide) ?_
              exact step _ kq2 (hh + hv) S₃ _ he₂₃ hr₃ hk₃ (by rw [h54₃, h54₂]; omega) hres rfl
          · rw [if_pos (by omega)] at hres
            rw [← hres] at hZ
            refine g_sipush hZ (z := (-1004)) dX9_lead_83 rfl ?_
            refine g_iret hZ dX9_lead_86 rfl ⟨he₂₃, rfl, hk₃, by rw [h54₃, h54₂]; show _ = S 54 0 + (hh + hv); omega⟩
  have first : ∀ (m k : Nat), k + m = n → (∀ j, j < k → rootB RR j = true → kindF RR (S 61) n j ≠ 3) → Z S₁ [(0, .ref (gad E 27)), (1, iV (k : Int))] 6 [] := by
    intro m
    induction m with
    | zero =>
      intro k hkm hno
      have hno3 : ∀ k ∈ rts RR n, kindF RR (S 61) n k ≠ 3 := fun k hk => by
        obtain ⟨a1, a2⟩ := List.mem_filter.mp hk
        exact hno k (by have := List.mem_range.mp a1; omega) a2
      have hA : aLead w n RR (S 61) kp = leadL w n RR (S 61) (rts RR n) 0 kp 0 := by
        unfold aLead
        rw [if_neg]
        intro q
        obtain ⟨k, h1, h2⟩ := List.any_eq_true.mp q
        exact hno3 k h1 (by simpa using h2)
      refine g_iload_n hZ dX9_lead_6 rfl ?_
      refine g_aload_n hZ dX9_lead_7 rfl ?_
      refine g_callV hZ (t_X9_size E S₁ w h n hg₁) kX9_60 ⟨by decide, by decide⟩ rfl rfl rfl rfl (Nat.le_of_ble_eq_true rfl) dX9_lead_8 ?_
      rintro _ _ ⟨rfl, rfl⟩
      refine g_icmp_ge hZ 43 dX9_lead_11 rfl (by omega) (fun _ => ?_) (fun cX => absurd (by omega) cX)
      refine g_iconst hZ dX9_lead_43 ?_
      refine g_istore_n hZ dX9_lead_44 (by decide) ?_
      refine g_iconst hZ dX9_lead_45 ?_
      refine g_istore_n hZ dX9_lead_46 (by decide) ?_
      refine second hno3 hA n 0 0 kp 0 S₁ _ (by omega) (he₁.mono rfl) hr₁ hk₁ (by rw [h54]; simp) ?_ rfl
      rw [← List.range_eq_range']; rfl
    | succ m ih =>
      intro k hkm hno
      have hrk : S₁ 72 k = RR k := by rw [hrr k (by omega)]
      have rb := rg_bd (w := w) (B := S 61) (show k < n by omega)
      rw [hRR] at rb
      have next : (rootB RR k = true → kindF RR (S 61) n k ≠ 3) → Z S₁ [(0, .ref (gad E 27)), (1, iV (k : Int))] 37 [] := by
        intro hk3
        refine g_iinc hZ dX9_lead_37 rfl (by decide) ?_
        refine g_goto hZ 6 dX9_lead_40 rfl ?_
        refine ih (k + 1) (by omega) (fun j hj hr => ?_)
        by_cases q : j = k
        · subst q; exact hk3 hr
        · exact hno j (by omega) hr
      refine g_iload_n hZ dX9_lead_6 rfl ?_
      refine g_aload_n hZ dX9_lead_7 rfl ?_
      refine g_callV hZ (t_X9_size E S₁ w h n hg₁) kX9_60 ⟨by decide, by decide⟩ rfl rfl rfl rfl (Nat.le_of_ble_eq_true rfl) dX9_lead_8 ?_
      rintro _ _ ⟨rfl, rfl⟩
      refine g_icmp_ge hZ 43 dX9_lead_11 rfl (by omega) (fun cX => absurd cX (by omega)) (fun _ => ?_)
      refine g_aload_n hZ dX9_lead_14 rfl ?_
      refine g_getr hZ fX9_51 rfl rfl dX9_lead_15 ?_
      refine g_iload_n hZ dX9_lead_18 rfl ?_
      refine g_iald hZ (k) rfl dX9_lead_19 (rfl) (by omega) (by decide) (hrk) ?_
      refine g_iload_n hZ dX9_lead_20 rfl ?_
      refine g_icmp_ne hZ 37 dX9_lead_21 rfl (by omega) (fun c1 => ?_) (fun c1 => ?_)
      · exact next (fun q => absurd (by simpa [rootB] using q) c1)
      · have hkb := kindF_bd (r := RR) (B := S 61) (n := n) (root := (k : Int))
        refine g_aload_n hZ dX9_lead_24 rfl ?_
        refine g_iload_n hZ dX9_lead_25 rfl ?_
        refine g_callV hZ (t_X9_kind E S₁ w h n hg₁ hB₁ hr₁ k (by omega)) kX9_131 ⟨by decide, by decide⟩ rfl rfl rfl rfl (Nat.le_of_ble_eq_true rfl) dX9_lead_26 ?_
        rintro _ _ ⟨rfl, rfl⟩
        rw [e61, hRR]
        refine g_iconst hZ dX9_lead_29 ?_
        refine g_icmp_ne hZ 37 dX9_lead_30 rfl (by omega) (fun c2 => ?_) (fun c2 => ?_)
        · exact next (fun _ => c2)
        · have hA : aLead w n RR (S 61) kp = (-1002, kp, 0) := by
            unfold aLead
            rw [if_pos]
            exact List.any_eq_true.mpr ⟨k, List.mem_filter.mpr ⟨List.mem_range.mpr (by omega), by simpa [rootB] using c1⟩, by simpa using c2⟩
          refine g_sipush hZ (z := (-1002)) dX9_lead_33 rfl ?_
          refine g_iret hZ dX9_lead_36 rfl ⟨he₁.mono rfl, by rw [hA], by rw [hA]; exact hk₁, by rw [hA, h54]; simp⟩
  refine g_iconst hZ dX9_lead_4 ?_
  refine g_istore_n hZ dX9_lead_5 (by decide) ?_
  exact first n 0 (by omega) (fun j hj => absurd hj (Nat.not_lt_zero j))
theorem t_X9_kept (E : gE) (S : gS) (v : Int) (hv : R32 v) : Ct E LAY mX9_kept [.ref (gad E 27), iV v] S (fun r S' => S = S' ∧ r = some (iV (if 0 ≤ v ∧ v ≤ 1 then (if v = 0 then S 53 0 else S 54 0) else -1001))) := by
  refine Ct.intro LAY_ok (by decide +kernel) (Nat.le_of_ble_eq_true rfl) rfl ?_
  intro Z hZ
  refine g_iload_n hZ dX9_kept_0 rfl ?_
  refine g_iconst hZ dX9_kept_1 ?_
  refine g_iconst hZ dX9_kept_2 ?_
  refine g_callS hZ (t_X9_in E S v 0 1 hv (by omega) (by omega)) kX9_64 ⟨by decide, by decide⟩ rfl rfl (Nat.le_of_ble_eq_true rfl) dX9_kept_3 ?_
  rintro _ _ ⟨rfl, z1, rfl, hz1⟩
  rcases hz1 with ⟨rfl, hz1⟩ | ⟨rfl, hz1⟩
  · refine g_if_eq hZ 27 dX9_kept_6 rfl (by omega) (fun cX => absurd cX (by omega)) (fun _ => ?_)
    refine g_iload_n hZ dX9_kept_9 rfl ?_
    refine g_if_ne hZ 20 dX9_kept_10 rfl (by omega) (fun c => ?_) (fun c => ?_)
    · refine g_aload_n hZ dX9_kept_20 rfl ?_
      refine g_geti hZ fX9_153 rfl rfl dX9_kept_21 rfl ?_
      refine g_goto hZ 30 dX9_kept_24 rfl ?_
      refine g_iret hZ dX9_kept_30 rfl ⟨rfl, by rw [if_pos hz1, if_neg c]⟩
    · refine g_aload_n hZ dX9_kept_13 rfl ?_
      refine g_geti hZ fX9_74 rfl rfl dX9_kept_14 rfl ?_
      refine g_goto hZ 30 dX9_kept_17 rfl ?_
      refine g_iret hZ dX9_kept_30 rfl ⟨rfl, by rw [if_pos hz1, if_pos c]⟩
  · refine g_if_eq hZ 27 dX9_kept_6 rfl (by omega) (fun _ => ?_) (fun cX => absurd (by omega) cX)
    refine g_sipush hZ (z := (-1001)) dX9_kept_27 rfl ?_
    refine g_iret hZ dX9_kept_30 rfl ⟨rfl, by rw [if_neg hz1]⟩
end
