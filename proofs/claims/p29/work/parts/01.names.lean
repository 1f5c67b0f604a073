-- ===== PART A: goes FIRST, ahead of the names: the tables' words, and 'selects' of the private methods out of them =====
/-- a private method of a class that the tables say can be made, by its rows of tables_1 -/
def lw_okq (q : MethodName × Nat) : Prop := (q.1.cls ≠ "java/lang/invoke/MethodHandle" ∧ q.1.cls ≠ "java/lang/invoke/VarHandle") ∧ Cond.instantiable q.1.cls q.2 ∈ tables_1 ∧ Cond.privateMethod q.1 ∈ tables_1 ∧ Cond.instanceMethod q.1 ∈ tables_1
theorem lw_p0 : lw_okq (⟨"BurningFields$Grid", "stepFrom", "(II)I"⟩, 5) := ⟨⟨by decide +kernel, by decide +kernel⟩, List.mem_of_getElem? (i := 25) (by decide +kernel), List.mem_of_getElem? (i := 193) (by decide +kernel), List.mem_of_getElem? (i := 194) (by decide +kernel)⟩
theorem lw_p1 : lw_okq (⟨"BurningFields", "putContents", "(II)I"⟩, 9) := ⟨⟨by decide +kernel, by decide +kernel⟩, List.mem_of_getElem? (i := 17) (by decide +kernel), List.mem_of_getElem? (i := 229) (by decide +kernel), List.mem_of_getElem? (i := 230) (by decide +kernel)⟩
theorem lw_p2 : lw_okq (⟨"BurningFields", "maskOf", "(I)I"⟩, 9) := ⟨⟨by decide +kernel, by decide +kernel⟩, List.mem_of_getElem? (i := 17) (by decide +kernel), List.mem_of_getElem? (i := 249) (by decide +kernel), List.mem_of_getElem? (i := 250) (by decide +kernel)⟩
theorem lw_p3 : lw_okq (⟨"BurningFields$History", "dropOldest", "()V"⟩, 4) := ⟨⟨by decide +kernel, by decide +kernel⟩, List.mem_of_getElem? (i := 143) (by decide +kernel), List.mem_of_getElem? (i := 274) (by decide +kernel), List.mem_of_getElem? (i := 275) (by decide +kernel)⟩
theorem lw_p4 : lw_okq (⟨"BurningFields", "divideBoard", "()V"⟩, 9) := ⟨⟨by decide +kernel, by decide +kernel⟩, List.mem_of_getElem? (i := 17) (by decide +kernel), List.mem_of_getElem? (i := 308) (by decide +kernel), List.mem_of_getElem? (i := 309) (by decide +kernel)⟩
theorem lw_p5 : lw_okq (⟨"BurningFields", "isShared", "(I)Z"⟩, 9) := ⟨⟨by decide +kernel, by decide +kernel⟩, List.mem_of_getElem? (i := 17) (by decide +kernel), List.mem_of_getElem? (i := 332) (by decide +kernel), List.mem_of_getElem? (i := 333) (by decide +kernel)⟩
theorem lw_p6 : lw_okq (⟨"BurningFields", "kindOf", "(I)I"⟩, 9) := ⟨⟨by decide +kernel, by decide +kernel⟩, List.mem_of_getElem? (i := 17) (by decide +kernel), List.mem_of_getElem? (i := 336) (by decide +kernel), List.mem_of_getElem? (i := 337) (by decide +kernel)⟩
theorem lw_p7 : lw_okq (⟨"BurningFields", "askValue", "(I)I"⟩, 9) := ⟨⟨by decide +kernel, by decide +kernel⟩, List.mem_of_getElem? (i := 17) (by decide +kernel), List.mem_of_getElem? (i := 340) (by decide +kernel), List.mem_of_getElem? (i := 341) (by decide +kernel)⟩
theorem lw_p8 : lw_okq (⟨"BurningFields", "aloneOf", "(I)J"⟩, 9) := ⟨⟨by decide +kernel, by decide +kernel⟩, List.mem_of_getElem? (i := 17) (by decide +kernel), List.mem_of_getElem? (i := 344) (by decide +kernel), List.mem_of_getElem? (i := 345) (by decide +kernel)⟩
theorem lw_p9 : lw_okq (⟨"BurningFields$Play", "add", "(J)Z"⟩, 8) := ⟨⟨by decide +kernel, by decide +kernel⟩, List.mem_of_getElem? (i := 74) (by decide +kernel), List.mem_of_getElem? (i := 359) (by decide +kernel), List.mem_of_getElem? (i := 360) (by decide +kernel)⟩
theorem lw_p10 : lw_okq (⟨"BurningFields$Play", "slotOf", "(J)I"⟩, 8) := ⟨⟨by decide +kernel, by decide +kernel⟩, List.mem_of_getElem? (i := 74) (by decide +kernel), List.mem_of_getElem? (i := 363) (by decide +kernel), List.mem_of_getElem? (i := 364) (by decide +kernel)⟩
theorem lw_p11 : lw_okq (⟨"BurningFields$Play", "sideAt", "(I)I"⟩, 8) := ⟨⟨by decide +kernel, by decide +kernel⟩, List.mem_of_getElem? (i := 74) (by decide +kernel), List.mem_of_getElem? (i := 368) (by decide +kernel), List.mem_of_getElem? (i := 369) (by decide +kernel)⟩
theorem lw_p12 : lw_okq (⟨"BurningFields$MoveList", "addMovesFrom", "(II)V"⟩, 3) := ⟨⟨by decide +kernel, by decide +kernel⟩, List.mem_of_getElem? (i := 56) (by decide +kernel), List.mem_of_getElem? (i := 380) (by decide +kernel), List.mem_of_getElem? (i := 381) (by decide +kernel)⟩
theorem lw_p13 : lw_okq (⟨"BurningFields$MoveList", "addBurns", "(II)V"⟩, 3) := ⟨⟨by decide +kernel, by decide +kernel⟩, List.mem_of_getElem? (i := 56) (by decide +kernel), List.mem_of_getElem? (i := 388) (by decide +kernel), List.mem_of_getElem? (i := 389) (by decide +kernel)⟩
theorem lw_p14 : lw_okq (⟨"BurningFields", "findOutcome", "(J)I"⟩, 9) := ⟨⟨by decide +kernel, by decide +kernel⟩, List.mem_of_getElem? (i := 17) (by decide +kernel), List.mem_of_getElem? (i := 434) (by decide +kernel), List.mem_of_getElem? (i := 435) (by decide +kernel)⟩
theorem lw_p15 : lw_okq (⟨"BurningFields$Script", "findWord", "(I)I"⟩, 4) := ⟨⟨by decide +kernel, by decide +kernel⟩, List.mem_of_getElem? (i := 166) (by decide +kernel), List.mem_of_getElem? (i := 527) (by decide +kernel), List.mem_of_getElem? (i := 528) (by decide +kernel)⟩
def lw_privs_1 : List (MethodName × Nat) := [(⟨"BurningFields$Grid", "stepFrom", "(II)I"⟩, 5), (⟨"BurningFields", "putContents", "(II)I"⟩, 9), (⟨"BurningFields", "maskOf", "(I)I"⟩, 9), (⟨"BurningFields$History", "dropOldest", "()V"⟩, 4), (⟨"BurningFields", "divideBoard", "()V"⟩, 9), (⟨"BurningFields", "isShared", "(I)Z"⟩, 9), (⟨"BurningFields", "kindOf", "(I)I"⟩, 9), (⟨"BurningFields", "askValue", "(I)I"⟩, 9), (⟨"BurningFields", "aloneOf", "(I)J"⟩, 9), (⟨"BurningFields$Play", "add", "(J)Z"⟩, 8), (⟨"BurningFields$Play", "slotOf", "(J)I"⟩, 8), (⟨"BurningFields$Play", "sideAt", "(I)I"⟩, 8), (⟨"BurningFields$MoveList", "addMovesFrom", "(II)V"⟩, 3), (⟨"BurningFields$MoveList", "addBurns", "(II)V"⟩, 3), (⟨"BurningFields", "findOutcome", "(J)I"⟩, 9), (⟨"BurningFields$Script", "findWord", "(I)I"⟩, 4)]
theorem lw_r1 : ∀ q ∈ lw_privs_1, lw_okq q := List.forall_mem_cons.mpr ⟨lw_p0, List.forall_mem_cons.mpr ⟨lw_p1, List.forall_mem_cons.mpr ⟨lw_p2, List.forall_mem_cons.mpr ⟨lw_p3, List.forall_mem_cons.mpr ⟨lw_p4, List.forall_mem_cons.mpr ⟨lw_p5, List.forall_mem_cons.mpr ⟨lw_p6, List.forall_mem_cons.mpr ⟨lw_p7, List.forall_mem_cons.mpr ⟨lw_p8, List.forall_mem_cons.mpr ⟨lw_p9, List.forall_mem_cons.mpr ⟨lw_p10, List.forall_mem_cons.mpr ⟨lw_p11, List.forall_mem_cons.mpr ⟨lw_p12, List.forall_mem_cons.mpr ⟨lw_p13, List.forall_mem_cons.mpr ⟨lw_p14, List.forall_mem_cons.mpr ⟨lw_p15, fun _ h => absurd h List.not_mem_nil⟩⟩⟩⟩⟩⟩⟩⟩⟩⟩⟩⟩⟩⟩⟩⟩
theorem lw_p16 : lw_okq (⟨"BurningFields$Script", "hasText", "(ILjava/lang/String;)Z"⟩, 4) := ⟨⟨by decide +kernel, by decide +kernel⟩, List.mem_of_getElem? (i := 166) (by decide +kernel), List.mem_of_getElem? (i := 540) (by decide +kernel), List.mem_of_getElem? (i := 541) (by decide +kernel)⟩
theorem lw_p17 : lw_okq (⟨"BurningFields$Script", "hasSign", "(IC)Z"⟩, 4) := ⟨⟨by decide +kernel, by decide +kernel⟩, List.mem_of_getElem? (i := 166) (by decide +kernel), List.mem_of_getElem? (i := 592) (by decide +kernel), List.mem_of_getElem? (i := 593) (by decide +kernel)⟩
theorem lw_p18 : lw_okq (⟨"BurningFields$Script", "readNumber", "(II)I"⟩, 4) := ⟨⟨by decide +kernel, by decide +kernel⟩, List.mem_of_getElem? (i := 166) (by decide +kernel), List.mem_of_getElem? (i := 599) (by decide +kernel), List.mem_of_getElem? (i := 600) (by decide +kernel)⟩
theorem lw_p19 : lw_okq (⟨"BurningFields$Script", "hasDigit", "(I)Z"⟩, 4) := ⟨⟨by decide +kernel, by decide +kernel⟩, List.mem_of_getElem? (i := 166) (by decide +kernel), List.mem_of_getElem? (i := 603) (by decide +kernel), List.mem_of_getElem? (i := 604) (by decide +kernel)⟩
theorem lw_p20 : lw_okq (⟨"BurningFields", "executeCommand", "()I"⟩, 9) := ⟨⟨by decide +kernel, by decide +kernel⟩, List.mem_of_getElem? (i := 17) (by decide +kernel), List.mem_of_getElem? (i := 616) (by decide +kernel), List.mem_of_getElem? (i := 617) (by decide +kernel)⟩
theorem lw_p21 : lw_okq (⟨"BurningFields", "makeMove", "(IIII)I"⟩, 9) := ⟨⟨by decide +kernel, by decide +kernel⟩, List.mem_of_getElem? (i := 17) (by decide +kernel), List.mem_of_getElem? (i := 620) (by decide +kernel), List.mem_of_getElem? (i := 621) (by decide +kernel)⟩
def lw_privs_2 : List (MethodName × Nat) := [(⟨"BurningFields$Script", "hasText", "(ILjava/lang/String;)Z"⟩, 4), (⟨"BurningFields$Script", "hasSign", "(IC)Z"⟩, 4), (⟨"BurningFields$Script", "readNumber", "(II)I"⟩, 4), (⟨"BurningFields$Script", "hasDigit", "(I)Z"⟩, 4), (⟨"BurningFields", "executeCommand", "()I"⟩, 9), (⟨"BurningFields", "makeMove", "(IIII)I"⟩, 9)]
theorem lw_r2 : ∀ q ∈ lw_privs_2, lw_okq q := List.forall_mem_cons.mpr ⟨lw_p16, List.forall_mem_cons.mpr ⟨lw_p17, List.forall_mem_cons.mpr ⟨lw_p18, List.forall_mem_cons.mpr ⟨lw_p19, List.forall_mem_cons.mpr ⟨lw_p20, List.forall_mem_cons.mpr ⟨lw_p21, fun _ h => absurd h List.not_mem_nil⟩⟩⟩⟩⟩⟩
def lw_privs : List (MethodName × Nat) := lw_privs_1 ++ (lw_privs_2)
def lw_tbl : List Cond := k2_sels lw_privs ++ tables_1
theorem lw_privs_ok : ∀ q ∈ lw_privs, lw_okq q := by
  show ∀ q ∈ lw_privs_1 ++ (lw_privs_2), lw_okq q
  exact List.forall_mem_append.mpr ⟨lw_r1, lw_r2⟩
def RX0 : String := "BurningFields$Contents"
def TX0 : u_T := fun k => match k with
  | _ => ("", "", "", false)
def tyX0 : Nat → FieldType := fun k => match k with
  | _ => .int
theorem nmX0 : ∀ a, a < 0 → ∀ b, b < 0 → a ≠ b → (TX0 a).2.1 ≠ (TX0 b).2.1 := by decide +kernel
theorem tyX0_ok : ∀ k, k < 0 → parseFieldDescriptor (TX0 k).2.2.1 = some (tyX0 k) := by decide +kernel
abbrev cX0_of : ByteArray := prog_2_method_2_code
def yX0_of : MethodName := ⟨RX0, "of", "(III)J"⟩
abbrev cX0_mask : ByteArray := prog_2_method_3_code
def yX0_mask : MethodName := ⟨RX0, "mask", "(JI)I"⟩
abbrev cX0_freeMask : ByteArray := prog_2_method_4_code
def yX0_freeMask : MethodName := ⟨RX0, "freeMask", "(JI)I"⟩
abbrev cX0_at : ByteArray := prog_2_method_5_code
def yX0_at : MethodName := ⟨RX0, "at", "(JI)I"⟩
abbrev cX0_with : ByteArray := prog_2_method_6_code
def yX0_with : MethodName := ⟨RX0, "with", "(JII)J"⟩
abbrev cX0_bit : ByteArray := prog_2_method_7_code
def yX0_bit : MethodName := ⟨RX0, "bit", "(II)J"⟩
def RX1 : String := "BurningFields$Grid"
def TX1 : u_T := fun k => match k with
  | 0 => ("BurningFields$Grid", "width", "I", false)
  | 1 => ("BurningFields$Grid", "height", "I", false)
  | 2 => ("BurningFields$Grid", "fields", "I", false)
  | 3 => ("BurningFields$Grid", "all", "I", false)
  | _ => ("BurningFields$Grid", "next", "[I", true)
def tyX1 : Nat → FieldType := fun k => match k with
  | 0 => .int
  | 1 => .int
  | 2 => .int
  | 3 => .int
  | _ => .array .int
theorem nmX1 : ∀ a, a < 5 → ∀ b, b < 5 → a ≠ b → (TX1 a).2.1 ≠ (TX1 b).2.1 := by decide +kernel
theorem tyX1_ok : ∀ k, k < 5 → parseFieldDescriptor (TX1 k).2.2.1 = some (tyX1 k) := by decide +kernel
abbrev cX1_init : ByteArray := prog_3_method_1_code
def yX1_init : MethodName := ⟨RX1, "<init>", "()V"⟩
abbrev cX1_resize : ByteArray := prog_3_method_2_code
def yX1_resize : MethodName := ⟨RX1, "resize", "(II)V"⟩
abbrev cX1_stepFrom : ByteArray := prog_3_method_3_code
def yX1_stepFrom : MethodName := ⟨RX1, "stepFrom", "(II)I"⟩
abbrev cX1_has : ByteArray := prog_3_method_4_code
def yX1_has : MethodName := ⟨RX1, "has", "(I)Z"⟩
abbrev cX1_seenFrom : ByteArray := prog_3_method_5_code
def yX1_seenFrom : MethodName := ⟨RX1, "seenFrom", "(II)I"⟩
abbrev cX1_neighboursOf : ByteArray := prog_3_method_6_code
def yX1_neighboursOf : MethodName := ⟨RX1, "neighboursOf", "(I)I"⟩
def RX2 : String := "BurningFields$History"
def TX2 : u_T := fun k => match k with
  | 0 => ("BurningFields$History", "widths", "[I", true)
  | 1 => ("BurningFields$History", "heights", "[I", true)
  | 2 => ("BurningFields$History", "boards", "[J", true)
  | _ => ("BurningFields$History", "size", "I", false)
def tyX2 : Nat → FieldType := fun k => match k with
  | 0 => .array .int
  | 1 => .array .int
  | 2 => .array .long
  | _ => .int
theorem nmX2 : ∀ a, a < 4 → ∀ b, b < 4 → a ≠ b → (TX2 a).2.1 ≠ (TX2 b).2.1 := by decide +kernel
theorem tyX2_ok : ∀ k, k < 4 → parseFieldDescriptor (TX2 k).2.2.1 = some (tyX2 k) := by decide +kernel
abbrev cX2_init : ByteArray := prog_4_method_1_code
def yX2_init : MethodName := ⟨RX2, "<init>", "()V"⟩
abbrev cX2_record : ByteArray := prog_4_method_2_code
def yX2_record : MethodName := ⟨RX2, "record", "(LBurningFields$Grid;J)V"⟩
abbrev cX2_dropOldest : ByteArray := prog_4_method_3_code
def yX2_dropOldest : MethodName := ⟨RX2, "dropOldest", "()V"⟩
def RX3 : String := "BurningFields$MoveList"
def TX3 : u_T := fun k => match k with
  | 0 => ("BurningFields$MoveList", "grid", "LBurningFields$Grid;", true)
  | 1 => ("BurningFields$MoveList", "rows", "[I", true)
  | _ => ("BurningFields$MoveList", "size", "I", false)
def tyX3 : Nat → FieldType := fun k => match k with
  | 0 => .object "BurningFields$Grid"
  | 1 => .array .int
  | _ => .int
theorem nmX3 : ∀ a, a < 3 → ∀ b, b < 3 → a ≠ b → (TX3 a).2.1 ≠ (TX3 b).2.1 := by decide +kernel
theorem tyX3_ok : ∀ k, k < 3 → parseFieldDescriptor (TX3 k).2.2.1 = some (tyX3 k) := by decide +kernel
abbrev cX3_init : ByteArray := prog_5_method_1_code
def yX3_init : MethodName := ⟨RX3, "<init>", "(LBurningFields$Grid;)V"⟩
abbrev cX3_fill : ByteArray := prog_5_method_2_code
def yX3_fill : MethodName := ⟨RX3, "fill", "(JI)V"⟩
abbrev cX3_addMovesFrom : ByteArray := prog_5_method_3_code
def yX3_addMovesFrom : MethodName := ⟨RX3, "addMovesFrom", "(II)V"⟩
abbrev cX3_addBurns : ByteArray := prog_5_method_4_code
def yX3_addBurns : MethodName := ⟨RX3, "addBurns", "(II)V"⟩
abbrev cX3_find : ByteArray := prog_5_method_5_code
def yX3_find : MethodName := ⟨RX3, "find", "(III)I"⟩
abbrev cX3_fromOf : ByteArray := prog_5_method_6_code
def yX3_fromOf : MethodName := ⟨RX3, "fromOf", "(I)I"⟩
abbrev cX3_toOf : ByteArray := prog_5_method_7_code
def yX3_toOf : MethodName := ⟨RX3, "toOf", "(I)I"⟩
abbrev cX3_burntOf : ByteArray := prog_5_method_8_code
def yX3_burntOf : MethodName := ⟨RX3, "burntOf", "(I)I"⟩
abbrev cX3_after : ByteArray := prog_5_method_9_code
def yX3_after : MethodName := ⟨RX3, "after", "(JII)J"⟩
def RX4 : String := "BurningFields$Play"
def TX4 : u_T := fun k => match k with
  | 0 => ("BurningFields$Play", "list", "LBurningFields$MoveList;", true)
  | 1 => ("BurningFields$Play", "found", "[J", true)
  | 2 => ("BurningFields$Play", "won", "[Z", true)
  | 3 => ("BurningFields$Play", "rest", "[I", true)
  | 4 => ("BurningFields$Play", "slots", "[I", true)
  | 5 => ("BurningFields$Play", "firstSide", "I", false)
  | 6 => ("BurningFields$Play", "secondSide", "I", false)
  | _ => ("BurningFields$Play", "size", "I", false)
def tyX4 : Nat → FieldType := fun k => match k with
  | 0 => .object "BurningFields$MoveList"
  | 1 => .array .long
  | 2 => .array .boolean
  | 3 => .array .int
  | 4 => .array .int
  | 5 => .int
  | 6 => .int
  | _ => .int
theorem nmX4 : ∀ a, a < 8 → ∀ b, b < 8 → a ≠ b → (TX4 a).2.1 ≠ (TX4 b).2.1 := by decide +kernel
theorem tyX4_ok : ∀ k, k < 8 → parseFieldDescriptor (TX4 k).2.2.1 = some (tyX4 k) := by decide +kernel
abbrev cX4_init : ByteArray := prog_6_method_1_code
def yX4_init : MethodName := ⟨RX4, "<init>", "(LBurningFields$MoveList;)V"⟩
abbrev cX4_explore : ByteArray := prog_6_method_2_code
def yX4_explore : MethodName := ⟨RX4, "explore", "(JII)Z"⟩
abbrev cX4_add : ByteArray := prog_6_method_3_code
def yX4_add : MethodName := ⟨RX4, "add", "(J)Z"⟩
abbrev cX4_slotOf : ByteArray := prog_6_method_4_code
def yX4_slotOf : MethodName := ⟨RX4, "slotOf", "(J)I"⟩
abbrev cX4_find : ByteArray := prog_6_method_5_code
def yX4_find : MethodName := ⟨RX4, "find", "(J)I"⟩
abbrev cX4_sideAt : ByteArray := prog_6_method_6_code
def yX4_sideAt : MethodName := ⟨RX4, "sideAt", "(I)I"⟩
abbrev cX4_solve : ByteArray := prog_6_method_7_code
def yX4_solve : MethodName := ⟨RX4, "solve", "()V"⟩
abbrev cX4_findMostMoves : ByteArray := prog_6_method_8_code
def yX4_findMostMoves : MethodName := ⟨RX4, "findMostMoves", "()I"⟩
abbrev cX4_contentsOf : ByteArray := prog_6_method_9_code
def yX4_contentsOf : MethodName := ⟨RX4, "contentsOf", "(I)J"⟩
abbrev cX4_isWon : ByteArray := prog_6_method_10_code
def yX4_isWon : MethodName := ⟨RX4, "isWon", "(I)Z"⟩
abbrev cX4_restOf : ByteArray := prog_6_method_11_code
def yX4_restOf : MethodName := ⟨RX4, "restOf", "(I)I"⟩
def RX5 : String := "BurningFields$RegionList"
def TX5 : u_T := fun k => match k with
  | 0 => ("BurningFields$RegionList", "masks", "[I", true)
  | _ => ("BurningFields$RegionList", "size", "I", false)
def tyX5 : Nat → FieldType := fun k => match k with
  | 0 => .array .int
  | _ => .int
theorem nmX5 : ∀ a, a < 2 → ∀ b, b < 2 → a ≠ b → (TX5 a).2.1 ≠ (TX5 b).2.1 := by decide +kernel
theorem tyX5_ok : ∀ k, k < 2 → parseFieldDescriptor (TX5 k).2.2.1 = some (tyX5 k) := by decide +kernel
abbrev cX5_init : ByteArray := prog_7_method_1_code
def yX5_init : MethodName := ⟨RX5, "<init>", "()V"⟩
abbrev cX5_has : ByteArray := prog_7_method_2_code
def yX5_has : MethodName := ⟨RX5, "has", "(I)Z"⟩
abbrev cX5_divide : ByteArray := prog_7_method_3_code
def yX5_divide : MethodName := ⟨RX5, "divide", "(LBurningFields$Grid;I)V"⟩
abbrev cX5_spread : ByteArray := prog_7_method_4_code
def yX5_spread : MethodName := ⟨RX5, "spread", "(LBurningFields$Grid;II)I"⟩
def RX6 : String := "BurningFields$Script"
def TX6 : u_T := fun k => match k with
  | 0 => ("BurningFields$Script", "signs", "[C", true)
  | 1 => ("BurningFields$Script", "numbers", "[I", true)
  | 2 => ("BurningFields$Script", "word", "I", false)
  | _ => ("BurningFields$Script", "size", "I", false)
def tyX6 : Nat → FieldType := fun k => match k with
  | 0 => .array .char
  | 1 => .array .int
  | 2 => .int
  | _ => .int
theorem nmX6 : ∀ a, a < 4 → ∀ b, b < 4 → a ≠ b → (TX6 a).2.1 ≠ (TX6 b).2.1 := by decide +kernel
theorem tyX6_ok : ∀ k, k < 4 → parseFieldDescriptor (TX6 k).2.2.1 = some (tyX6 k) := by decide +kernel
abbrev cX6_init : ByteArray := prog_8_method_1_code
def yX6_init : MethodName := ⟨RX6, "<init>", "()V"⟩
abbrev cX6_append : ByteArray := prog_8_method_2_code
def yX6_append : MethodName := ⟨RX6, "append", "(C)Z"⟩
abbrev cX6_findFault : ByteArray := prog_8_method_3_code
def yX6_findFault : MethodName := ⟨RX6, "findFault", "()I"⟩
abbrev cX6_readCommand : ByteArray := prog_8_method_4_code
def yX6_readCommand : MethodName := ⟨RX6, "readCommand", "(I)I"⟩
abbrev cX6_findWord : ByteArray := prog_8_method_5_code
def yX6_findWord : MethodName := ⟨RX6, "findWord", "(I)I"⟩
abbrev cX6_hasText : ByteArray := prog_8_method_6_code
def yX6_hasText : MethodName := ⟨RX6, "hasText", "(ILjava/lang/String;)Z"⟩
abbrev cX6_hasSign : ByteArray := prog_8_method_7_code
def yX6_hasSign : MethodName := ⟨RX6, "hasSign", "(IC)Z"⟩
abbrev cX6_readNumber : ByteArray := prog_8_method_8_code
def yX6_readNumber : MethodName := ⟨RX6, "readNumber", "(II)I"⟩
abbrev cX6_hasDigit : ByteArray := prog_8_method_9_code
def yX6_hasDigit : MethodName := ⟨RX6, "hasDigit", "(I)Z"⟩
abbrev cX6_textOf : ByteArray := prog_8_method_10_code
def yX6_textOf : MethodName := ⟨RX6, "textOf", "(I)Ljava/lang/String;"⟩
abbrev cX6_numbersOf : ByteArray := prog_8_method_11_code
def yX6_numbersOf : MethodName := ⟨RX6, "numbersOf", "(I)I"⟩
def RX7 : String := "BurningFields$ValueTable"
def TX7 : u_T := fun k => match k with
  | 0 => ("BurningFields$ValueTable", "arrangements", "[J", true)
  | 1 => ("BurningFields$ValueTable", "numbers", "[I", true)
  | 2 => ("BurningFields$ValueTable", "size", "I", false)
  | _ => ("BurningFields$ValueTable", "hits", "I", false)
def tyX7 : Nat → FieldType := fun k => match k with
  | 0 => .array .long
  | 1 => .array .int
  | 2 => .int
  | _ => .int
theorem nmX7 : ∀ a, a < 4 → ∀ b, b < 4 → a ≠ b → (TX7 a).2.1 ≠ (TX7 b).2.1 := by decide +kernel
theorem tyX7_ok : ∀ k, k < 4 → parseFieldDescriptor (TX7 k).2.2.1 = some (tyX7 k) := by decide +kernel
abbrev cX7_init : ByteArray := prog_9_method_1_code
def yX7_init : MethodName := ⟨RX7, "<init>", "()V"⟩
abbrev cX7_empty : ByteArray := prog_9_method_2_code
def yX7_empty : MethodName := ⟨RX7, "empty", "()V"⟩
abbrev cX7_find : ByteArray := prog_9_method_3_code
def yX7_find : MethodName := ⟨RX7, "find", "(J)I"⟩
abbrev cX7_put : ByteArray := prog_9_method_4_code
def yX7_put : MethodName := ⟨RX7, "put", "(JI)V"⟩
def RX8 : String := "BurningFields"
def TX8 : u_T := fun k => match k with
  | 0 => ("BurningFields", "grid", "LBurningFields$Grid;", true)
  | 1 => ("BurningFields", "list", "LBurningFields$MoveList;", true)
  | 2 => ("BurningFields", "leftPlay", "LBurningFields$Play;", true)
  | 3 => ("BurningFields", "rightPlay", "LBurningFields$Play;", true)
  | 4 => ("BurningFields", "areas", "LBurningFields$RegionList;", true)
  | 5 => ("BurningFields", "table", "LBurningFields$ValueTable;", true)
  | 6 => ("BurningFields", "history", "LBurningFields$History;", true)
  | 7 => ("BurningFields", "script", "LBurningFields$Script;", true)
  | _ => ("BurningFields", "board", "J", false)
def tyX8 : Nat → FieldType := fun k => match k with
  | 0 => .object "BurningFields$Grid"
  | 1 => .object "BurningFields$MoveList"
  | 2 => .object "BurningFields$Play"
  | 3 => .object "BurningFields$Play"
  | 4 => .object "BurningFields$RegionList"
  | 5 => .object "BurningFields$ValueTable"
  | 6 => .object "BurningFields$History"
  | 7 => .object "BurningFields$Script"
  | _ => .long
theorem nmX8 : ∀ a, a < 9 → ∀ b, b < 9 → a ≠ b → (TX8 a).2.1 ≠ (TX8 b).2.1 := by decide +kernel
theorem tyX8_ok : ∀ k, k < 9 → parseFieldDescriptor (TX8 k).2.2.1 = some (tyX8 k) := by decide +kernel
abbrev cX8_init : ByteArray := prog_1_method_1_code
def yX8_init : MethodName := ⟨RX8, "<init>", "()V"⟩
abbrev cX8_reset : ByteArray := prog_1_method_2_code
def yX8_reset : MethodName := ⟨RX8, "reset", "(II)I"⟩
abbrev cX8_setField : ByteArray := prog_1_method_3_code
def yX8_setField : MethodName := ⟨RX8, "setField", "(II)I"⟩
abbrev cX8_field : ByteArray := prog_1_method_4_code
def yX8_field : MethodName := ⟨RX8, "field", "(I)I"⟩
abbrev cX8_count : ByteArray := prog_1_method_5_code
def yX8_count : MethodName := ⟨RX8, "count", "(I)I"⟩
abbrev cX8_isSeen : ByteArray := prog_1_method_6_code
def yX8_isSeen : MethodName := ⟨RX8, "isSeen", "(II)I"⟩
abbrev cX8_undo : ByteArray := prog_1_method_7_code
def yX8_undo : MethodName := ⟨RX8, "undo", "()I"⟩
abbrev cX8_move : ByteArray := prog_1_method_8_code
def yX8_move : MethodName := ⟨RX8, "move", "(IIII)I"⟩
abbrev cX8_moves : ByteArray := prog_1_method_9_code
def yX8_moves : MethodName := ⟨RX8, "moves", "(I)I"⟩
abbrev cX8_moveAt : ByteArray := prog_1_method_10_code
def yX8_moveAt : MethodName := ⟨RX8, "moveAt", "(III)I"⟩
abbrev cX8_regions : ByteArray := prog_1_method_11_code
def yX8_regions : MethodName := ⟨RX8, "regions", "()I"⟩
abbrev cX8_value : ByteArray := prog_1_method_14_code
def yX8_value : MethodName := ⟨RX8, "value", "(I)I"⟩
abbrev cX8_lead : ByteArray := prog_1_method_15_code
def yX8_lead : MethodName := ⟨RX8, "lead", "()I"⟩
abbrev cX8_wins : ByteArray := prog_1_method_18_code
def yX8_wins : MethodName := ⟨RX8, "wins", "(I)I"⟩
abbrev cX8_outcome : ByteArray := prog_1_method_19_code
def yX8_outcome : MethodName := ⟨RX8, "outcome", "()I"⟩
abbrev cX8_outcomeOf : ByteArray := prog_1_method_20_code
def yX8_outcomeOf : MethodName := ⟨RX8, "outcomeOf", "(I)I"⟩
abbrev cX8_bestMove : ByteArray := prog_1_method_21_code
def yX8_bestMove : MethodName := ⟨RX8, "bestMove", "(I)I"⟩
abbrev cX8_length : ByteArray := prog_1_method_22_code
def yX8_length : MethodName := ⟨RX8, "length", "(I)I"⟩
abbrev cX8_zugzwangs : ByteArray := prog_1_method_23_code
def yX8_zugzwangs : MethodName := ⟨RX8, "zugzwangs", "()I"⟩
abbrev cX8_type : ByteArray := prog_1_method_24_code
def yX8_type : MethodName := ⟨RX8, "type", "(I)I"⟩
abbrev cX8_clearText : ByteArray := prog_1_method_25_code
def yX8_clearText : MethodName := ⟨RX8, "clearText", "()I"⟩
abbrev cX8_fault : ByteArray := prog_1_method_26_code
def yX8_fault : MethodName := ⟨RX8, "fault", "()I"⟩
abbrev cX8_run : ByteArray := prog_1_method_27_code
def yX8_run : MethodName := ⟨RX8, "run", "()I"⟩
abbrev cX8_isBoardSize : ByteArray := prog_1_method_28_code
def yX8_isBoardSize : MethodName := ⟨RX8, "isBoardSize", "(II)Z"⟩
abbrev cX8_isContents : ByteArray := prog_1_method_29_code
def yX8_isContents : MethodName := ⟨RX8, "isContents", "(I)Z"⟩
abbrev cX8_isSide : ByteArray := prog_1_method_30_code
def yX8_isSide : MethodName := ⟨RX8, "isSide", "(I)Z"⟩
abbrev cX8_otherSide : ByteArray := prog_1_method_31_code
def yX8_otherSide : MethodName := ⟨RX8, "otherSide", "(I)I"⟩
abbrev cX8_maskOf : ByteArray := prog_1_method_32_code
def yX8_maskOf : MethodName := ⟨RX8, "maskOf", "(I)I"⟩
abbrev cX8_putContents : ByteArray := prog_1_method_33_code
def yX8_putContents : MethodName := ⟨RX8, "putContents", "(II)I"⟩
abbrev cX8_makeMove : ByteArray := prog_1_method_34_code
def yX8_makeMove : MethodName := ⟨RX8, "makeMove", "(IIII)I"⟩
abbrev cX8_executeCommand : ByteArray := prog_1_method_35_code
def yX8_executeCommand : MethodName := ⟨RX8, "executeCommand", "()I"⟩
abbrev cX8_divideBoard : ByteArray := prog_1_method_36_code
def yX8_divideBoard : MethodName := ⟨RX8, "divideBoard", "()V"⟩
abbrev cX8_kindOf : ByteArray := prog_1_method_37_code
def yX8_kindOf : MethodName := ⟨RX8, "kindOf", "(I)I"⟩
abbrev cX8_isShared : ByteArray := prog_1_method_38_code
def yX8_isShared : MethodName := ⟨RX8, "isShared", "(I)Z"⟩
abbrev cX8_aloneOf : ByteArray := prog_1_method_39_code
def yX8_aloneOf : MethodName := ⟨RX8, "aloneOf", "(I)J"⟩
abbrev cX8_askValue : ByteArray := prog_1_method_40_code
def yX8_askValue : MethodName := ⟨RX8, "askValue", "(I)I"⟩
abbrev cX8_exploreAndSolve : ByteArray := prog_1_method_41_code
def yX8_exploreAndSolve : MethodName := ⟨RX8, "exploreAndSolve", "(LBurningFields$Play;JI)Z"⟩
abbrev cX8_findOutcome : ByteArray := prog_1_method_42_code
def yX8_findOutcome : MethodName := ⟨RX8, "findOutcome", "(J)I"⟩
def RX9 : String := "BurningFieldsModel"
def TX9 : u_T := fun k => match k with
  | _ => ("", "", "", false)
def tyX9 : Nat → FieldType := fun k => match k with
  | _ => .int
theorem nmX9 : ∀ a, a < 0 → ∀ b, b < 0 → a ≠ b → (TX9 a).2.1 ≠ (TX9 b).2.1 := by decide +kernel
theorem tyX9_ok : ∀ k, k < 0 → parseFieldDescriptor (TX9 k).2.2.1 = some (tyX9 k) := by decide +kernel
def RJ6 : String := "java/lang/Integer"
abbrev cJ6_bitCount_0f7a4 : ByteArray := prog_12_method_49_code
def yJ6_bitCount_0f7a4 : MethodName := ⟨RJ6, "bitCount", "(I)I"⟩
def RJ9 : String := "java/lang/Math"
abbrev cJ9_max_7cf53 : ByteArray := prog_13_method_65_code
def yJ9_max_7cf53 : MethodName := ⟨RJ9, "max", "(II)I"⟩
abbrev cJ9_min_7cf53 : ByteArray := prog_13_method_69_code
def yJ9_min_7cf53 : MethodName := ⟨RJ9, "min", "(II)I"⟩
def RJ0 : String := "java/lang/String"
abbrev cJ0_length_8abf5 : ByteArray := prog_14_method_54_code
def yJ0_length_8abf5 : MethodName := ⟨RJ0, "length", "()I"⟩
abbrev cJ0_charAt_5068e : ByteArray := prog_14_method_56_code
def yJ0_charAt_5068e : MethodName := ⟨RJ0, "charAt", "(I)C"⟩
abbrev cJ0_coder_7d493 : ByteArray := prog_14_method_152_code
def yJ0_coder_7d493 : MethodName := ⟨RJ0, "coder", "()B"⟩
abbrev cJ0_isLatin1_aae02 : ByteArray := prog_14_method_154_code
def yJ0_isLatin1_aae02 : MethodName := ⟨RJ0, "isLatin1", "()Z"⟩
abbrev cJ0_checkIndex_df160 : ByteArray := prog_14_method_155_code
def yJ0_checkIndex_df160 : MethodName := ⟨RJ0, "checkIndex", "(II)V"⟩
def RJ1 : String := "java/lang/StringLatin1"
abbrev cJ1_charAt_3b067 : ByteArray := prog_15_method_2_code
def yJ1_charAt_3b067 : MethodName := ⟨RJ1, "charAt", "([BI)C"⟩
def RJ2 : String := "java/lang/StringUTF16"
abbrev cJ2_getChar_3b067 : ByteArray := prog_16_method_5_code
def yJ2_getChar_3b067 : MethodName := ⟨RJ2, "getChar", "([BI)C"⟩
abbrev cJ2_length_9d52b : ByteArray := prog_16_method_6_code
def yJ2_length_9d52b : MethodName := ⟨RJ2, "length", "([B)I"⟩
abbrev cJ2_charAt_3b067 : ByteArray := prog_16_method_83_code
def yJ2_charAt_3b067 : MethodName := ⟨RJ2, "charAt", "([BI)C"⟩
abbrev cJ2_checkIndex_2214a : ByteArray := prog_16_method_91_code
def yJ2_checkIndex_2214a : MethodName := ⟨RJ2, "checkIndex", "(I[B)V"⟩
def RJ3 : String := "jdk/internal/util/Preconditions"
abbrev cJ3_checkIndex_8e157 : ByteArray := prog_17_method_11_code
def yJ3_checkIndex_8e157 : MethodName := ⟨RJ3, "checkIndex", "(IILjava/util/function/BiFunction;)I"⟩
def RL : String := "BurningFieldsLaw"
abbrev cL_cell : ByteArray := method_2_code
abbrev cL_draws : ByteArray := method_3_code
abbrev cL_isParted : ByteArray := method_4_code
abbrev cL_number : ByteArray := method_5_code
abbrev cL_word : ByteArray := method_6_code
abbrev cL_packed : ByteArray := method_7_code
abbrev cL_isText : ByteArray := method_8_code
abbrev cL_isSound : ByteArray := method_9_code
abbrev cL_law : ByteArray := code
theorem dX0_of_0 : decode cX0_of 0 = .ok (.iload_n 0, 1) := by decide +kernel
theorem dX0_of_1 : decode cX0_of 1 = .ok (.i2l, 1) := by decide +kernel
theorem dX0_of_2 : decode cX0_of 2 = .ok (.iload_n 1, 1) := by decide +kernel
theorem dX0_of_3 : decode cX0_of 3 = .ok (.i2l, 1) := by decide +kernel
theorem dX0_of_4 : decode cX0_of 4 = .ok (.bipush 15, 2) := by decide +kernel
theorem dX0_of_6 : decode cX0_of 6 = .ok (.lshl, 1) := by decide +kernel
theorem dX0_of_7 : decode cX0_of 7 = .ok (.lor, 1) := by decide +kernel
theorem dX0_of_8 : decode cX0_of 8 = .ok (.iload_n 2, 1) := by decide +kernel
theorem dX0_of_9 : decode cX0_of 9 = .ok (.i2l, 1) := by decide +kernel
theorem dX0_of_10 : decode cX0_of 10 = .ok (.bipush 30, 2) := by decide +kernel
theorem dX0_of_12 : decode cX0_of 12 = .ok (.lshl, 1) := by decide +kernel
theorem dX0_of_13 : decode cX0_of 13 = .ok (.lor, 1) := by decide +kernel
theorem dX0_of_14 : decode cX0_of 14 = .ok (.lreturn, 1) := by decide +kernel
theorem dX0_mask_0 : decode cX0_mask 0 = .ok (.lload_n 0, 1) := by decide +kernel
theorem dX0_mask_1 : decode cX0_mask 1 = .ok (.bipush 15, 2) := by decide +kernel
theorem dX0_mask_3 : decode cX0_mask 3 = .ok (.iload_n 2, 1) := by decide +kernel
theorem dX0_mask_4 : decode cX0_mask 4 = .ok (.iconst 1, 1) := by decide +kernel
theorem dX0_mask_5 : decode cX0_mask 5 = .ok (.isub, 1) := by decide +kernel
theorem dX0_mask_6 : decode cX0_mask 6 = .ok (.imul, 1) := by decide +kernel
theorem dX0_mask_7 : decode cX0_mask 7 = .ok (.lushr, 1) := by decide +kernel
theorem dX0_mask_8 : decode cX0_mask 8 = .ok (.l2i, 1) := by decide +kernel
theorem dX0_mask_9 : decode cX0_mask 9 = .ok (.sipush 32767, 3) := by decide +kernel
theorem dX0_mask_12 : decode cX0_mask 12 = .ok (.iand, 1) := by decide +kernel
theorem dX0_mask_13 : decode cX0_mask 13 = .ok (.ireturn, 1) := by decide +kernel
theorem dX0_freeMask_0 : decode cX0_freeMask 0 = .ok (.iload_n 2, 1) := by decide +kernel
theorem dX0_freeMask_1 : decode cX0_freeMask 1 = .ok (.lload_n 0, 1) := by decide +kernel
theorem dX0_freeMask_2 : decode cX0_freeMask 2 = .ok (.iconst 1, 1) := by decide +kernel
theorem dX0_freeMask_3 : decode cX0_freeMask 3 = .ok (.invokestatic 11, 3) := by decide +kernel
theorem dX0_freeMask_6 : decode cX0_freeMask 6 = .ok (.lload_n 0, 1) := by decide +kernel
theorem dX0_freeMask_7 : decode cX0_freeMask 7 = .ok (.iconst 2, 1) := by decide +kernel
theorem dX0_freeMask_8 : decode cX0_freeMask 8 = .ok (.invokestatic 11, 3) := by decide +kernel
theorem dX0_freeMask_11 : decode cX0_freeMask 11 = .ok (.ior, 1) := by decide +kernel
theorem dX0_freeMask_12 : decode cX0_freeMask 12 = .ok (.lload_n 0, 1) := by decide +kernel
theorem dX0_freeMask_13 : decode cX0_freeMask 13 = .ok (.iconst 3, 1) := by decide +kernel
theorem dX0_freeMask_14 : decode cX0_freeMask 14 = .ok (.invokestatic 11, 3) := by decide +kernel
theorem dX0_freeMask_17 : decode cX0_freeMask 17 = .ok (.ior, 1) := by decide +kernel
theorem dX0_freeMask_18 : decode cX0_freeMask 18 = .ok (.iconst (-1), 1) := by decide +kernel
theorem dX0_freeMask_19 : decode cX0_freeMask 19 = .ok (.ixor, 1) := by decide +kernel
theorem dX0_freeMask_20 : decode cX0_freeMask 20 = .ok (.iand, 1) := by decide +kernel
theorem dX0_freeMask_21 : decode cX0_freeMask 21 = .ok (.ireturn, 1) := by decide +kernel
theorem dX0_at_0 : decode cX0_at 0 = .ok (.iconst 1, 1) := by decide +kernel
theorem dX0_at_1 : decode cX0_at 1 = .ok (.istore_n 3, 1) := by decide +kernel
theorem dX0_at_2 : decode cX0_at 2 = .ok (.iload_n 3, 1) := by decide +kernel
theorem dX0_at_3 : decode cX0_at 3 = .ok (.iconst 3, 1) := by decide +kernel
theorem dX0_at_4 : decode cX0_at 4 = .ok (.if_icmp .gt 23, 3) := by decide +kernel
theorem dX0_at_7 : decode cX0_at 7 = .ok (.lload_n 0, 1) := by decide +kernel
theorem dX0_at_8 : decode cX0_at 8 = .ok (.iload_n 3, 1) := by decide +kernel
theorem dX0_at_9 : decode cX0_at 9 = .ok (.invokestatic 11, 3) := by decide +kernel
theorem dX0_at_12 : decode cX0_at 12 = .ok (.iload_n 2, 1) := by decide +kernel
theorem dX0_at_13 : decode cX0_at 13 = .ok (.ishr, 1) := by decide +kernel
theorem dX0_at_14 : decode cX0_at 14 = .ok (.iconst 1, 1) := by decide +kernel
theorem dX0_at_15 : decode cX0_at 15 = .ok (.iand, 1) := by decide +kernel
theorem dX0_at_16 : decode cX0_at 16 = .ok (.ifCond .eq 5, 3) := by decide +kernel
theorem dX0_at_19 : decode cX0_at 19 = .ok (.iload_n 3, 1) := by decide +kernel
theorem dX0_at_20 : decode cX0_at 20 = .ok (.ireturn, 1) := by decide +kernel
theorem dX0_at_21 : decode cX0_at 21 = .ok (.iinc 3 1, 3) := by decide +kernel
theorem dX0_at_24 : decode cX0_at 24 = .ok (.goto (-22), 3) := by decide +kernel
theorem dX0_at_27 : decode cX0_at 27 = .ok (.iconst 0, 1) := by decide +kernel
theorem dX0_at_28 : decode cX0_at 28 = .ok (.ireturn, 1) := by decide +kernel
theorem dX0_with_0 : decode cX0_with 0 = .ok (.lload_n 0, 1) := by decide +kernel
theorem dX0_with_1 : decode cX0_with 1 = .ok (.iload_n 2, 1) := by decide +kernel
theorem dX0_with_2 : decode cX0_with 2 = .ok (.iconst 1, 1) := by decide +kernel
theorem dX0_with_3 : decode cX0_with 3 = .ok (.invokestatic 15, 3) := by decide +kernel
theorem dX0_with_6 : decode cX0_with 6 = .ok (.iload_n 2, 1) := by decide +kernel
theorem dX0_with_7 : decode cX0_with 7 = .ok (.iconst 2, 1) := by decide +kernel
theorem dX0_with_8 : decode cX0_with 8 = .ok (.invokestatic 15, 3) := by decide +kernel
theorem dX0_with_11 : decode cX0_with 11 = .ok (.lor, 1) := by decide +kernel
theorem dX0_with_12 : decode cX0_with 12 = .ok (.iload_n 2, 1) := by decide +kernel
theorem dX0_with_13 : decode cX0_with 13 = .ok (.iconst 3, 1) := by decide +kernel
theorem dX0_with_14 : decode cX0_with 14 = .ok (.invokestatic 15, 3) := by decide +kernel
theorem dX0_with_17 : decode cX0_with 17 = .ok (.lor, 1) := by decide +kernel
theorem dX0_with_18 : decode cX0_with 18 = .ok (.ldc2_w 19, 3) := by decide +kernel
theorem dX0_with_21 : decode cX0_with 21 = .ok (.lxor, 1) := by decide +kernel
theorem dX0_with_22 : decode cX0_with 22 = .ok (.land, 1) := by decide +kernel
theorem dX0_with_23 : decode cX0_with 23 = .ok (.lstore 4, 2) := by decide +kernel
theorem dX0_with_25 : decode cX0_with 25 = .ok (.iload_n 3, 1) := by decide +kernel
theorem dX0_with_26 : decode cX0_with 26 = .ok (.ifCond .ne 8, 3) := by decide +kernel
theorem dX0_with_29 : decode cX0_with 29 = .ok (.lload 4, 2) := by decide +kernel
theorem dX0_with_31 : decode cX0_with 31 = .ok (.goto 11, 3) := by decide +kernel
theorem dX0_with_34 : decode cX0_with 34 = .ok (.lload 4, 2) := by decide +kernel
theorem dX0_with_36 : decode cX0_with 36 = .ok (.iload_n 2, 1) := by decide +kernel
theorem dX0_with_37 : decode cX0_with 37 = .ok (.iload_n 3, 1) := by decide +kernel
theorem dX0_with_38 : decode cX0_with 38 = .ok (.invokestatic 15, 3) := by decide +kernel
theorem dX0_with_41 : decode cX0_with 41 = .ok (.lor, 1) := by decide +kernel
theorem dX0_with_42 : decode cX0_with 42 = .ok (.lreturn, 1) := by decide +kernel
theorem dX0_bit_0 : decode cX0_bit 0 = .ok (.lconst 1, 1) := by decide +kernel
theorem dX0_bit_1 : decode cX0_bit 1 = .ok (.bipush 15, 2) := by decide +kernel
theorem dX0_bit_3 : decode cX0_bit 3 = .ok (.iload_n 1, 1) := by decide +kernel
theorem dX0_bit_4 : decode cX0_bit 4 = .ok (.iconst 1, 1) := by decide +kernel
theorem dX0_bit_5 : decode cX0_bit 5 = .ok (.isub, 1) := by decide +kernel
theorem dX0_bit_6 : decode cX0_bit 6 = .ok (.imul, 1) := by decide +kernel
theorem dX0_bit_7 : decode cX0_bit 7 = .ok (.iload_n 0, 1) := by decide +kernel
theorem dX0_bit_8 : decode cX0_bit 8 = .ok (.iadd, 1) := by decide +kernel
theorem dX0_bit_9 : decode cX0_bit 9 = .ok (.lshl, 1) := by decide +kernel
theorem dX0_bit_10 : decode cX0_bit 10 = .ok (.lreturn, 1) := by decide +kernel
theorem dX1_init_0 : decode cX1_init 0 = .ok (.aload_n 0, 1) := by decide +kernel
theorem dX1_init_1 : decode cX1_init 1 = .ok (.invokespecial 3, 3) := by decide +kernel
theorem dX1_init_4 : decode cX1_init 4 = .ok (.aload_n 0, 1) := by decide +kernel
theorem dX1_init_5 : decode cX1_init 5 = .ok (.bipush 120, 2) := by decide +kernel
theorem dX1_init_7 : decode cX1_init 7 = .ok (.newarray .int, 2) := by decide +kernel
theorem dX1_init_9 : decode cX1_init 9 = .ok (.putfield 9, 3) := by decide +kernel
theorem dX1_init_12 : decode cX1_init 12 = .ok (.return_, 1) := by decide +kernel
theorem dX1_resize_0 : decode cX1_resize 0 = .ok (.aload_n 0, 1) := by decide +kernel
theorem dX1_resize_1 : decode cX1_resize 1 = .ok (.iload_n 1, 1) := by decide +kernel
theorem dX1_resize_2 : decode cX1_resize 2 = .ok (.putfield 15, 3) := by decide +kernel
theorem dX1_resize_5 : decode cX1_resize 5 = .ok (.aload_n 0, 1) := by decide +kernel
theorem dX1_resize_6 : decode cX1_resize 6 = .ok (.iload_n 2, 1) := by decide +kernel
theorem dX1_resize_7 : decode cX1_resize 7 = .ok (.putfield 19, 3) := by decide +kernel
theorem dX1_resize_10 : decode cX1_resize 10 = .ok (.aload_n 0, 1) := by decide +kernel
theorem dX1_resize_11 : decode cX1_resize 11 = .ok (.aload_n 0, 1) := by decide +kernel
theorem dX1_resize_12 : decode cX1_resize 12 = .ok (.getfield 15, 3) := by decide +kernel
theorem dX1_resize_15 : decode cX1_resize 15 = .ok (.aload_n 0, 1) := by decide +kernel
theorem dX1_resize_16 : decode cX1_resize 16 = .ok (.getfield 19, 3) := by decide +kernel
theorem dX1_resize_19 : decode cX1_resize 19 = .ok (.imul, 1) := by decide +kernel
theorem dX1_resize_20 : decode cX1_resize 20 = .ok (.putfield 22, 3) := by decide +kernel
theorem dX1_resize_23 : decode cX1_resize 23 = .ok (.aload_n 0, 1) := by decide +kernel
theorem dX1_resize_24 : decode cX1_resize 24 = .ok (.iconst 1, 1) := by decide +kernel
theorem dX1_resize_25 : decode cX1_resize 25 = .ok (.aload_n 0, 1) := by decide +kernel
theorem dX1_resize_26 : decode cX1_resize 26 = .ok (.getfield 22, 3) := by decide +kernel
theorem dX1_resize_29 : decode cX1_resize 29 = .ok (.ishl, 1) := by decide +kernel
theorem dX1_resize_30 : decode cX1_resize 30 = .ok (.iconst 1, 1) := by decide +kernel
theorem dX1_resize_31 : decode cX1_resize 31 = .ok (.isub, 1) := by decide +kernel
theorem dX1_resize_32 : decode cX1_resize 32 = .ok (.putfield 25, 3) := by decide +kernel
theorem dX1_resize_35 : decode cX1_resize 35 = .ok (.iconst 0, 1) := by decide +kernel
theorem dX1_resize_36 : decode cX1_resize 36 = .ok (.istore_n 3, 1) := by decide +kernel
theorem dX1_resize_37 : decode cX1_resize 37 = .ok (.iload_n 3, 1) := by decide +kernel
theorem dX1_resize_38 : decode cX1_resize 38 = .ok (.aload_n 0, 1) := by decide +kernel
theorem dX1_resize_39 : decode cX1_resize 39 = .ok (.getfield 22, 3) := by decide +kernel
theorem dX1_resize_42 : decode cX1_resize 42 = .ok (.if_icmp .ge 50, 3) := by decide +kernel
theorem dX1_resize_45 : decode cX1_resize 45 = .ok (.iload_n 3, 1) := by decide +kernel
theorem dX1_resize_46 : decode cX1_resize 46 = .ok (.bipush 15, 2) := by decide +kernel
theorem dX1_resize_48 : decode cX1_resize 48 = .ok (.if_icmp .ge 44, 3) := by decide +kernel
theorem dX1_resize_51 : decode cX1_resize 51 = .ok (.iconst 0, 1) := by decide +kernel
theorem dX1_resize_52 : decode cX1_resize 52 = .ok (.istore 4, 2) := by decide +kernel
theorem dX1_resize_54 : decode cX1_resize 54 = .ok (.iload 4, 2) := by decide +kernel
theorem dX1_resize_56 : decode cX1_resize 56 = .ok (.bipush 8, 2) := by decide +kernel
theorem dX1_resize_58 : decode cX1_resize 58 = .ok (.if_icmp .ge 28, 3) := by decide +kernel
theorem dX1_resize_61 : decode cX1_resize 61 = .ok (.aload_n 0, 1) := by decide +kernel
theorem dX1_resize_62 : decode cX1_resize 62 = .ok (.getfield 9, 3) := by decide +kernel
theorem dX1_resize_65 : decode cX1_resize 65 = .ok (.iload_n 3, 1) := by decide +kernel
theorem dX1_resize_66 : decode cX1_resize 66 = .ok (.bipush 8, 2) := by decide +kernel
theorem dX1_resize_68 : decode cX1_resize 68 = .ok (.imul, 1) := by decide +kernel
theorem dX1_resize_69 : decode cX1_resize 69 = .ok (.iload 4, 2) := by decide +kernel
theorem dX1_resize_71 : decode cX1_resize 71 = .ok (.iadd, 1) := by decide +kernel
theorem dX1_resize_72 : decode cX1_resize 72 = .ok (.aload_n 0, 1) := by decide +kernel
theorem dX1_resize_73 : decode cX1_resize 73 = .ok (.iload_n 3, 1) := by decide +kernel
theorem dX1_resize_74 : decode cX1_resize 74 = .ok (.iload 4, 2) := by decide +kernel
theorem dX1_resize_76 : decode cX1_resize 76 = .ok (.invokevirtual 28, 3) := by decide +kernel
theorem dX1_resize_79 : decode cX1_resize 79 = .ok (.iastore, 1) := by decide +kernel
theorem dX1_resize_80 : decode cX1_resize 80 = .ok (.iinc 4 1, 3) := by decide +kernel
theorem dX1_resize_83 : decode cX1_resize 83 = .ok (.goto (-29), 3) := by decide +kernel
theorem dX1_resize_86 : decode cX1_resize 86 = .ok (.iinc 3 1, 3) := by decide +kernel
theorem dX1_resize_89 : decode cX1_resize 89 = .ok (.goto (-52), 3) := by decide +kernel
theorem dX1_resize_92 : decode cX1_resize 92 = .ok (.return_, 1) := by decide +kernel
theorem dX1_stepFrom_0 : decode cX1_stepFrom 0 = .ok (.iload_n 2, 1) := by decide +kernel
theorem dX1_stepFrom_1 : decode cX1_stepFrom 1 = .ok (.iconst 4, 1) := by decide +kernel
theorem dX1_stepFrom_2 : decode cX1_stepFrom 2 = .ok (.if_icmp .ge 7, 3) := by decide +kernel
theorem dX1_stepFrom_5 : decode cX1_stepFrom 5 = .ok (.iload_n 2, 1) := by decide +kernel
theorem dX1_stepFrom_6 : decode cX1_stepFrom 6 = .ok (.goto 6, 3) := by decide +kernel
theorem dX1_stepFrom_9 : decode cX1_stepFrom 9 = .ok (.iload_n 2, 1) := by decide +kernel
theorem dX1_stepFrom_10 : decode cX1_stepFrom 10 = .ok (.iconst 1, 1) := by decide +kernel
theorem dX1_stepFrom_11 : decode cX1_stepFrom 11 = .ok (.iadd, 1) := by decide +kernel
theorem dX1_stepFrom_12 : decode cX1_stepFrom 12 = .ok (.istore_n 3, 1) := by decide +kernel
theorem dX1_stepFrom_13 : decode cX1_stepFrom 13 = .ok (.iconst 0, 1) := by decide +kernel
theorem dX1_stepFrom_14 : decode cX1_stepFrom 14 = .ok (.istore 4, 2) := by decide +kernel
theorem dX1_stepFrom_16 : decode cX1_stepFrom 16 = .ok (.iload_n 1, 1) := by decide +kernel
theorem dX1_stepFrom_17 : decode cX1_stepFrom 17 = .ok (.istore 5, 2) := by decide +kernel
theorem dX1_stepFrom_19 : decode cX1_stepFrom 19 = .ok (.iconst 1, 1) := by decide +kernel
theorem dX1_stepFrom_20 : decode cX1_stepFrom 20 = .ok (.istore 6, 2) := by decide +kernel
theorem dX1_stepFrom_22 : decode cX1_stepFrom 22 = .ok (.iload 6, 2) := by decide +kernel
theorem dX1_stepFrom_24 : decode cX1_stepFrom 24 = .ok (.aload_n 0, 1) := by decide +kernel
theorem dX1_stepFrom_25 : decode cX1_stepFrom 25 = .ok (.getfield 19, 3) := by decide +kernel
theorem dX1_stepFrom_28 : decode cX1_stepFrom 28 = .ok (.if_icmp .ge 30, 3) := by decide +kernel
theorem dX1_stepFrom_31 : decode cX1_stepFrom 31 = .ok (.iload 5, 2) := by decide +kernel
theorem dX1_stepFrom_33 : decode cX1_stepFrom 33 = .ok (.aload_n 0, 1) := by decide +kernel
theorem dX1_stepFrom_34 : decode cX1_stepFrom 34 = .ok (.getfield 15, 3) := by decide +kernel
theorem dX1_stepFrom_37 : decode cX1_stepFrom 37 = .ok (.if_icmp .lt 21, 3) := by decide +kernel
theorem dX1_stepFrom_40 : decode cX1_stepFrom 40 = .ok (.iload 5, 2) := by decide +kernel
theorem dX1_stepFrom_42 : decode cX1_stepFrom 42 = .ok (.aload_n 0, 1) := by decide +kernel
theorem dX1_stepFrom_43 : decode cX1_stepFrom 43 = .ok (.getfield 15, 3) := by decide +kernel
theorem dX1_stepFrom_46 : decode cX1_stepFrom 46 = .ok (.isub, 1) := by decide +kernel
theorem dX1_stepFrom_47 : decode cX1_stepFrom 47 = .ok (.istore 5, 2) := by decide +kernel
theorem dX1_stepFrom_49 : decode cX1_stepFrom 49 = .ok (.iinc 4 1, 3) := by decide +kernel
theorem dX1_stepFrom_52 : decode cX1_stepFrom 52 = .ok (.iinc 6 1, 3) := by decide +kernel
theorem dX1_stepFrom_55 : decode cX1_stepFrom 55 = .ok (.goto (-33), 3) := by decide +kernel
theorem dX1_stepFrom_58 : decode cX1_stepFrom 58 = .ok (.iload 5, 2) := by decide +kernel
theorem dX1_stepFrom_60 : decode cX1_stepFrom 60 = .ok (.iload_n 3, 1) := by decide +kernel
theorem dX1_stepFrom_61 : decode cX1_stepFrom 61 = .ok (.iconst 3, 1) := by decide +kernel
theorem dX1_stepFrom_62 : decode cX1_stepFrom 62 = .ok (.irem, 1) := by decide +kernel
theorem dX1_stepFrom_63 : decode cX1_stepFrom 63 = .ok (.iconst 1, 1) := by decide +kernel
theorem dX1_stepFrom_64 : decode cX1_stepFrom 64 = .ok (.isub, 1) := by decide +kernel
theorem dX1_stepFrom_65 : decode cX1_stepFrom 65 = .ok (.iadd, 1) := by decide +kernel
theorem dX1_stepFrom_66 : decode cX1_stepFrom 66 = .ok (.istore 5, 2) := by decide +kernel
theorem dX1_stepFrom_68 : decode cX1_stepFrom 68 = .ok (.iload 4, 2) := by decide +kernel
theorem dX1_stepFrom_70 : decode cX1_stepFrom 70 = .ok (.iload_n 3, 1) := by decide +kernel
theorem dX1_stepFrom_71 : decode cX1_stepFrom 71 = .ok (.iconst 3, 1) := by decide +kernel
theorem dX1_stepFrom_72 : decode cX1_stepFrom 72 = .ok (.idiv, 1) := by decide +kernel
theorem dX1_stepFrom_73 : decode cX1_stepFrom 73 = .ok (.iconst 1, 1) := by decide +kernel
theorem dX1_stepFrom_74 : decode cX1_stepFrom 74 = .ok (.isub, 1) := by decide +kernel
theorem dX1_stepFrom_75 : decode cX1_stepFrom 75 = .ok (.iadd, 1) := by decide +kernel
theorem dX1_stepFrom_76 : decode cX1_stepFrom 76 = .ok (.istore 4, 2) := by decide +kernel
theorem dX1_stepFrom_78 : decode cX1_stepFrom 78 = .ok (.iload 5, 2) := by decide +kernel
theorem dX1_stepFrom_80 : decode cX1_stepFrom 80 = .ok (.ifCond .lt 30, 3) := by decide +kernel
theorem dX1_stepFrom_83 : decode cX1_stepFrom 83 = .ok (.iload 5, 2) := by decide +kernel
theorem dX1_stepFrom_85 : decode cX1_stepFrom 85 = .ok (.aload_n 0, 1) := by decide +kernel
theorem dX1_stepFrom_86 : decode cX1_stepFrom 86 = .ok (.getfield 15, 3) := by decide +kernel
theorem dX1_stepFrom_89 : decode cX1_stepFrom 89 = .ok (.if_icmp .ge 21, 3) := by decide +kernel
theorem dX1_stepFrom_92 : decode cX1_stepFrom 92 = .ok (.iload 4, 2) := by decide +kernel
theorem dX1_stepFrom_94 : decode cX1_stepFrom 94 = .ok (.ifCond .lt 16, 3) := by decide +kernel
theorem dX1_stepFrom_97 : decode cX1_stepFrom 97 = .ok (.iload 4, 2) := by decide +kernel
theorem dX1_stepFrom_99 : decode cX1_stepFrom 99 = .ok (.aload_n 0, 1) := by decide +kernel
theorem dX1_stepFrom_100 : decode cX1_stepFrom 100 = .ok (.getfield 19, 3) := by decide +kernel
theorem dX1_stepFrom_103 : decode cX1_stepFrom 103 = .ok (.if_icmp .ge 7, 3) := by decide +kernel
theorem dX1_stepFrom_106 : decode cX1_stepFrom 106 = .ok (.iconst 1, 1) := by decide +kernel
theorem dX1_stepFrom_107 : decode cX1_stepFrom 107 = .ok (.goto 4, 3) := by decide +kernel
theorem dX1_stepFrom_110 : decode cX1_stepFrom 110 = .ok (.iconst 0, 1) := by decide +kernel
theorem dX1_stepFrom_111 : decode cX1_stepFrom 111 = .ok (.istore 6, 2) := by decide +kernel
theorem dX1_stepFrom_113 : decode cX1_stepFrom 113 = .ok (.iload 6, 2) := by decide +kernel
theorem dX1_stepFrom_115 : decode cX1_stepFrom 115 = .ok (.ifCond .eq 16, 3) := by decide +kernel
theorem dX1_stepFrom_118 : decode cX1_stepFrom 118 = .ok (.aload_n 0, 1) := by decide +kernel
theorem dX1_stepFrom_119 : decode cX1_stepFrom 119 = .ok (.getfield 15, 3) := by decide +kernel
theorem dX1_stepFrom_122 : decode cX1_stepFrom 122 = .ok (.iload 4, 2) := by decide +kernel
theorem dX1_stepFrom_124 : decode cX1_stepFrom 124 = .ok (.imul, 1) := by decide +kernel
theorem dX1_stepFrom_125 : decode cX1_stepFrom 125 = .ok (.iload 5, 2) := by decide +kernel
theorem dX1_stepFrom_127 : decode cX1_stepFrom 127 = .ok (.iadd, 1) := by decide +kernel
theorem dX1_stepFrom_128 : decode cX1_stepFrom 128 = .ok (.goto 4, 3) := by decide +kernel
theorem dX1_stepFrom_131 : decode cX1_stepFrom 131 = .ok (.iconst (-1), 1) := by decide +kernel
theorem dX1_stepFrom_132 : decode cX1_stepFrom 132 = .ok (.ireturn, 1) := by decide +kernel
theorem dX1_has_0 : decode cX1_has 0 = .ok (.iload_n 1, 1) := by decide +kernel
theorem dX1_has_1 : decode cX1_has 1 = .ok (.ifCond .lt 15, 3) := by decide +kernel
theorem dX1_has_4 : decode cX1_has 4 = .ok (.iload_n 1, 1) := by decide +kernel
theorem dX1_has_5 : decode cX1_has 5 = .ok (.aload_n 0, 1) := by decide +kernel
theorem dX1_has_6 : decode cX1_has 6 = .ok (.getfield 22, 3) := by decide +kernel
theorem dX1_has_9 : decode cX1_has 9 = .ok (.if_icmp .ge 7, 3) := by decide +kernel
theorem dX1_has_12 : decode cX1_has 12 = .ok (.iconst 1, 1) := by decide +kernel
theorem dX1_has_13 : decode cX1_has 13 = .ok (.goto 4, 3) := by decide +kernel
theorem dX1_has_16 : decode cX1_has 16 = .ok (.iconst 0, 1) := by decide +kernel
theorem dX1_has_17 : decode cX1_has 17 = .ok (.ireturn, 1) := by decide +kernel
theorem dX1_seenFrom_0 : decode cX1_seenFrom 0 = .ok (.iconst 0, 1) := by decide +kernel
theorem dX1_seenFrom_1 : decode cX1_seenFrom 1 = .ok (.istore_n 3, 1) := by decide +kernel
theorem dX1_seenFrom_2 : decode cX1_seenFrom 2 = .ok (.aload_n 0, 1) := by decide +kernel
theorem dX1_seenFrom_3 : decode cX1_seenFrom 3 = .ok (.iload_n 1, 1) := by decide +kernel
theorem dX1_seenFrom_4 : decode cX1_seenFrom 4 = .ok (.invokevirtual 32, 3) := by decide +kernel
theorem dX1_seenFrom_7 : decode cX1_seenFrom 7 = .ok (.ifCond .ne 5, 3) := by decide +kernel
theorem dX1_seenFrom_10 : decode cX1_seenFrom 10 = .ok (.iload_n 3, 1) := by decide +kernel
theorem dX1_seenFrom_11 : decode cX1_seenFrom 11 = .ok (.ireturn, 1) := by decide +kernel
theorem dX1_seenFrom_12 : decode cX1_seenFrom 12 = .ok (.iconst 0, 1) := by decide +kernel
theorem dX1_seenFrom_13 : decode cX1_seenFrom 13 = .ok (.istore 4, 2) := by decide +kernel
theorem dX1_seenFrom_15 : decode cX1_seenFrom 15 = .ok (.iload 4, 2) := by decide +kernel
theorem dX1_seenFrom_17 : decode cX1_seenFrom 17 = .ok (.bipush 8, 2) := by decide +kernel
theorem dX1_seenFrom_19 : decode cX1_seenFrom 19 = .ok (.if_icmp .ge 81, 3) := by decide +kernel
theorem dX1_seenFrom_22 : decode cX1_seenFrom 22 = .ok (.aload_n 0, 1) := by decide +kernel
theorem dX1_seenFrom_23 : decode cX1_seenFrom 23 = .ok (.getfield 9, 3) := by decide +kernel
theorem dX1_seenFrom_26 : decode cX1_seenFrom 26 = .ok (.iload_n 1, 1) := by decide +kernel
theorem dX1_seenFrom_27 : decode cX1_seenFrom 27 = .ok (.bipush 8, 2) := by decide +kernel
theorem dX1_seenFrom_29 : decode cX1_seenFrom 29 = .ok (.imul, 1) := by decide +kernel
theorem dX1_seenFrom_30 : decode cX1_seenFrom 30 = .ok (.iload 4, 2) := by decide +kernel
theorem dX1_seenFrom_32 : decode cX1_seenFrom 32 = .ok (.iadd, 1) := by decide +kernel
theorem dX1_seenFrom_33 : decode cX1_seenFrom 33 = .ok (.iaload, 1) := by decide +kernel
theorem dX1_seenFrom_34 : decode cX1_seenFrom 34 = .ok (.istore 5, 2) := by decide +kernel
theorem dX1_seenFrom_36 : decode cX1_seenFrom 36 = .ok (.iconst 1, 1) := by decide +kernel
theorem dX1_seenFrom_37 : decode cX1_seenFrom 37 = .ok (.istore 6, 2) := by decide +kernel
theorem dX1_seenFrom_39 : decode cX1_seenFrom 39 = .ok (.iload 6, 2) := by decide +kernel
theorem dX1_seenFrom_41 : decode cX1_seenFrom 41 = .ok (.iconst 5, 1) := by decide +kernel
theorem dX1_seenFrom_42 : decode cX1_seenFrom 42 = .ok (.if_icmp .ge 52, 3) := by decide +kernel
theorem dX1_seenFrom_45 : decode cX1_seenFrom 45 = .ok (.aload_n 0, 1) := by decide +kernel
theorem dX1_seenFrom_46 : decode cX1_seenFrom 46 = .ok (.iload 5, 2) := by decide +kernel
theorem dX1_seenFrom_48 : decode cX1_seenFrom 48 = .ok (.invokevirtual 32, 3) := by decide +kernel
theorem dX1_seenFrom_51 : decode cX1_seenFrom 51 = .ok (.ifCond .eq 43, 3) := by decide +kernel
theorem dX1_seenFrom_54 : decode cX1_seenFrom 54 = .ok (.iload_n 2, 1) := by decide +kernel
theorem dX1_seenFrom_55 : decode cX1_seenFrom 55 = .ok (.iload 5, 2) := by decide +kernel
theorem dX1_seenFrom_57 : decode cX1_seenFrom 57 = .ok (.ishr, 1) := by decide +kernel
theorem dX1_seenFrom_58 : decode cX1_seenFrom 58 = .ok (.iconst 1, 1) := by decide +kernel
theorem dX1_seenFrom_59 : decode cX1_seenFrom 59 = .ok (.iand, 1) := by decide +kernel
theorem dX1_seenFrom_60 : decode cX1_seenFrom 60 = .ok (.ifCond .ne 6, 3) := by decide +kernel
theorem dX1_seenFrom_63 : decode cX1_seenFrom 63 = .ok (.goto 31, 3) := by decide +kernel
theorem dX1_seenFrom_66 : decode cX1_seenFrom 66 = .ok (.iload_n 3, 1) := by decide +kernel
theorem dX1_seenFrom_67 : decode cX1_seenFrom 67 = .ok (.iconst 1, 1) := by decide +kernel
theorem dX1_seenFrom_68 : decode cX1_seenFrom 68 = .ok (.iload 5, 2) := by decide +kernel
theorem dX1_seenFrom_70 : decode cX1_seenFrom 70 = .ok (.ishl, 1) := by decide +kernel
theorem dX1_seenFrom_71 : decode cX1_seenFrom 71 = .ok (.ior, 1) := by decide +kernel
theorem dX1_seenFrom_72 : decode cX1_seenFrom 72 = .ok (.istore_n 3, 1) := by decide +kernel
theorem dX1_seenFrom_73 : decode cX1_seenFrom 73 = .ok (.aload_n 0, 1) := by decide +kernel
theorem dX1_seenFrom_74 : decode cX1_seenFrom 74 = .ok (.getfield 9, 3) := by decide +kernel
theorem dX1_seenFrom_77 : decode cX1_seenFrom 77 = .ok (.iload 5, 2) := by decide +kernel
theorem dX1_seenFrom_79 : decode cX1_seenFrom 79 = .ok (.bipush 8, 2) := by decide +kernel
theorem dX1_seenFrom_81 : decode cX1_seenFrom 81 = .ok (.imul, 1) := by decide +kernel
theorem dX1_seenFrom_82 : decode cX1_seenFrom 82 = .ok (.iload 4, 2) := by decide +kernel
theorem dX1_seenFrom_84 : decode cX1_seenFrom 84 = .ok (.iadd, 1) := by decide +kernel
theorem dX1_seenFrom_85 : decode cX1_seenFrom 85 = .ok (.iaload, 1) := by decide +kernel
theorem dX1_seenFrom_86 : decode cX1_seenFrom 86 = .ok (.istore 5, 2) := by decide +kernel
theorem dX1_seenFrom_88 : decode cX1_seenFrom 88 = .ok (.iinc 6 1, 3) := by decide +kernel
theorem dX1_seenFrom_91 : decode cX1_seenFrom 91 = .ok (.goto (-52), 3) := by decide +kernel
theorem dX1_seenFrom_94 : decode cX1_seenFrom 94 = .ok (.iinc 4 1, 3) := by decide +kernel
theorem dX1_seenFrom_97 : decode cX1_seenFrom 97 = .ok (.goto (-82), 3) := by decide +kernel
theorem dX1_seenFrom_100 : decode cX1_seenFrom 100 = .ok (.iload_n 3, 1) := by decide +kernel
theorem dX1_seenFrom_101 : decode cX1_seenFrom 101 = .ok (.ireturn, 1) := by decide +kernel
theorem dX1_neighboursOf_0 : decode cX1_neighboursOf 0 = .ok (.iconst 0, 1) := by decide +kernel
theorem dX1_neighboursOf_1 : decode cX1_neighboursOf 1 = .ok (.istore_n 2, 1) := by decide +kernel
theorem dX1_neighboursOf_2 : decode cX1_neighboursOf 2 = .ok (.aload_n 0, 1) := by decide +kernel
theorem dX1_neighboursOf_3 : decode cX1_neighboursOf 3 = .ok (.iload_n 1, 1) := by decide +kernel
theorem dX1_neighboursOf_4 : decode cX1_neighboursOf 4 = .ok (.invokevirtual 32, 3) := by decide +kernel
theorem dX1_neighboursOf_7 : decode cX1_neighboursOf 7 = .ok (.ifCond .ne 5, 3) := by decide +kernel
theorem dX1_neighboursOf_10 : decode cX1_neighboursOf 10 = .ok (.iload_n 2, 1) := by decide +kernel
theorem dX1_neighboursOf_11 : decode cX1_neighboursOf 11 = .ok (.ireturn, 1) := by decide +kernel
theorem dX1_neighboursOf_12 : decode cX1_neighboursOf 12 = .ok (.iconst 0, 1) := by decide +kernel
theorem dX1_neighboursOf_13 : decode cX1_neighboursOf 13 = .ok (.istore_n 3, 1) := by decide +kernel
theorem dX1_neighboursOf_14 : decode cX1_neighboursOf 14 = .ok (.iload_n 3, 1) := by decide +kernel
theorem dX1_neighboursOf_15 : decode cX1_neighboursOf 15 = .ok (.bipush 8, 2) := by decide +kernel
theorem dX1_neighboursOf_17 : decode cX1_neighboursOf 17 = .ok (.if_icmp .ge 35, 3) := by decide +kernel
theorem dX1_neighboursOf_20 : decode cX1_neighboursOf 20 = .ok (.aload_n 0, 1) := by decide +kernel
theorem dX1_neighboursOf_21 : decode cX1_neighboursOf 21 = .ok (.getfield 9, 3) := by decide +kernel
theorem dX1_neighboursOf_24 : decode cX1_neighboursOf 24 = .ok (.iload_n 1, 1) := by decide +kernel
theorem dX1_neighboursOf_25 : decode cX1_neighboursOf 25 = .ok (.bipush 8, 2) := by decide +kernel
theorem dX1_neighboursOf_27 : decode cX1_neighboursOf 27 = .ok (.imul, 1) := by decide +kernel
theorem dX1_neighboursOf_28 : decode cX1_neighboursOf 28 = .ok (.iload_n 3, 1) := by decide +kernel
theorem dX1_neighboursOf_29 : decode cX1_neighboursOf 29 = .ok (.iadd, 1) := by decide +kernel
theorem dX1_neighboursOf_30 : decode cX1_neighboursOf 30 = .ok (.iaload, 1) := by decide +kernel
theorem dX1_neighboursOf_31 : decode cX1_neighboursOf 31 = .ok (.istore 4, 2) := by decide +kernel
theorem dX1_neighboursOf_33 : decode cX1_neighboursOf 33 = .ok (.iload 4, 2) := by decide +kernel
theorem dX1_neighboursOf_35 : decode cX1_neighboursOf 35 = .ok (.iconst (-1), 1) := by decide +kernel
theorem dX1_neighboursOf_36 : decode cX1_neighboursOf 36 = .ok (.if_icmp .eq 10, 3) := by decide +kernel
theorem dX1_neighboursOf_39 : decode cX1_neighboursOf 39 = .ok (.iload_n 2, 1) := by decide +kernel
theorem dX1_neighboursOf_40 : decode cX1_neighboursOf 40 = .ok (.iconst 1, 1) := by decide +kernel
theorem dX1_neighboursOf_41 : decode cX1_neighboursOf 41 = .ok (.iload 4, 2) := by decide +kernel
theorem dX1_neighboursOf_43 : decode cX1_neighboursOf 43 = .ok (.ishl, 1) := by decide +kernel
theorem dX1_neighboursOf_44 : decode cX1_neighboursOf 44 = .ok (.ior, 1) := by decide +kernel
theorem dX1_neighboursOf_45 : decode cX1_neighboursOf 45 = .ok (.istore_n 2, 1) := by decide +kernel
theorem dX1_neighboursOf_46 : decode cX1_neighboursOf 46 = .ok (.iinc 3 1, 3) := by decide +kernel
theorem dX1_neighboursOf_49 : decode cX1_neighboursOf 49 = .ok (.goto (-35), 3) := by decide +kernel
theorem dX1_neighboursOf_52 : decode cX1_neighboursOf 52 = .ok (.iload_n 2, 1) := by decide +kernel
theorem dX1_neighboursOf_53 : decode cX1_neighboursOf 53 = .ok (.ireturn, 1) := by decide +kernel
theorem dX2_init_0 : decode cX2_init 0 = .ok (.aload_n 0, 1) := by decide +kernel
theorem dX2_init_1 : decode cX2_init 1 = .ok (.invokespecial 3, 3) := by decide +kernel
theorem dX2_init_4 : decode cX2_init 4 = .ok (.aload_n 0, 1) := by decide +kernel
theorem dX2_init_5 : decode cX2_init 5 = .ok (.bipush 8, 2) := by decide +kernel
theorem dX2_init_7 : decode cX2_init 7 = .ok (.newarray .int, 2) := by decide +kernel
theorem dX2_init_9 : decode cX2_init 9 = .ok (.putfield 9, 3) := by decide +kernel
theorem dX2_init_12 : decode cX2_init 12 = .ok (.aload_n 0, 1) := by decide +kernel
theorem dX2_init_13 : decode cX2_init 13 = .ok (.bipush 8, 2) := by decide +kernel
theorem dX2_init_15 : decode cX2_init 15 = .ok (.newarray .int, 2) := by decide +kernel
theorem dX2_init_17 : decode cX2_init 17 = .ok (.putfield 15, 3) := by decide +kernel
theorem dX2_init_20 : decode cX2_init 20 = .ok (.aload_n 0, 1) := by decide +kernel
theorem dX2_init_21 : decode cX2_init 21 = .ok (.bipush 8, 2) := by decide +kernel
theorem dX2_init_23 : decode cX2_init 23 = .ok (.newarray .long, 2) := by decide +kernel
theorem dX2_init_25 : decode cX2_init 25 = .ok (.putfield 18, 3) := by decide +kernel
theorem dX2_init_28 : decode cX2_init 28 = .ok (.return_, 1) := by decide +kernel
theorem dX2_record_0 : decode cX2_record 0 = .ok (.aload_n 0, 1) := by decide +kernel
theorem dX2_record_1 : decode cX2_record 1 = .ok (.getfield 22, 3) := by decide +kernel
theorem dX2_record_4 : decode cX2_record 4 = .ok (.bipush 8, 2) := by decide +kernel
theorem dX2_record_6 : decode cX2_record 6 = .ok (.if_icmp .lt 7, 3) := by decide +kernel
theorem dX2_record_9 : decode cX2_record 9 = .ok (.aload_n 0, 1) := by decide +kernel
theorem dX2_record_10 : decode cX2_record 10 = .ok (.invokevirtual 26, 3) := by decide +kernel
theorem dX2_record_13 : decode cX2_record 13 = .ok (.aload_n 0, 1) := by decide +kernel
theorem dX2_record_14 : decode cX2_record 14 = .ok (.getfield 9, 3) := by decide +kernel
theorem dX2_record_17 : decode cX2_record 17 = .ok (.aload_n 0, 1) := by decide +kernel
theorem dX2_record_18 : decode cX2_record 18 = .ok (.getfield 22, 3) := by decide +kernel
theorem dX2_record_21 : decode cX2_record 21 = .ok (.aload_n 1, 1) := by decide +kernel
theorem dX2_record_22 : decode cX2_record 22 = .ok (.getfield 29, 3) := by decide +kernel
theorem dX2_record_25 : decode cX2_record 25 = .ok (.iastore, 1) := by decide +kernel
theorem dX2_record_26 : decode cX2_record 26 = .ok (.aload_n 0, 1) := by decide +kernel
theorem dX2_record_27 : decode cX2_record 27 = .ok (.getfield 15, 3) := by decide +kernel
theorem dX2_record_30 : decode cX2_record 30 = .ok (.aload_n 0, 1) := by decide +kernel
theorem dX2_record_31 : decode cX2_record 31 = .ok (.getfield 22, 3) := by decide +kernel
theorem dX2_record_34 : decode cX2_record 34 = .ok (.aload_n 1, 1) := by decide +kernel
theorem dX2_record_35 : decode cX2_record 35 = .ok (.getfield 34, 3) := by decide +kernel
theorem dX2_record_38 : decode cX2_record 38 = .ok (.iastore, 1) := by decide +kernel
theorem dX2_record_39 : decode cX2_record 39 = .ok (.aload_n 0, 1) := by decide +kernel
theorem dX2_record_40 : decode cX2_record 40 = .ok (.getfield 18, 3) := by decide +kernel
theorem dX2_record_43 : decode cX2_record 43 = .ok (.aload_n 0, 1) := by decide +kernel
theorem dX2_record_44 : decode cX2_record 44 = .ok (.getfield 22, 3) := by decide +kernel
theorem dX2_record_47 : decode cX2_record 47 = .ok (.lload_n 2, 1) := by decide +kernel
theorem dX2_record_48 : decode cX2_record 48 = .ok (.lastore, 1) := by decide +kernel
theorem dX2_record_49 : decode cX2_record 49 = .ok (.aload_n 0, 1) := by decide +kernel
theorem dX2_record_50 : decode cX2_record 50 = .ok (.dup, 1) := by decide +kernel
theorem dX2_record_51 : decode cX2_record 51 = .ok (.getfield 22, 3) := by decide +kernel
theorem dX2_record_54 : decode cX2_record 54 = .ok (.iconst 1, 1) := by decide +kernel
theorem dX2_record_55 : decode cX2_record 55 = .ok (.iadd, 1) := by decide +kernel
theorem dX2_record_56 : decode cX2_record 56 = .ok (.putfield 22, 3) := by decide +kernel
theorem dX2_record_59 : decode cX2_record 59 = .ok (.return_, 1) := by decide +kernel
theorem dX2_dropOldest_0 : decode cX2_dropOldest 0 = .ok (.iconst 1, 1) := by decide +kernel
theorem dX2_dropOldest_1 : decode cX2_dropOldest 1 = .ok (.istore_n 1, 1) := by decide +kernel
theorem dX2_dropOldest_2 : decode cX2_dropOldest 2 = .ok (.iload_n 1, 1) := by decide +kernel
theorem dX2_dropOldest_3 : decode cX2_dropOldest 3 = .ok (.bipush 8, 2) := by decide +kernel
theorem dX2_dropOldest_5 : decode cX2_dropOldest 5 = .ok (.if_icmp .ge 51, 3) := by decide +kernel
theorem dX2_dropOldest_8 : decode cX2_dropOldest 8 = .ok (.aload_n 0, 1) := by decide +kernel
theorem dX2_dropOldest_9 : decode cX2_dropOldest 9 = .ok (.getfield 9, 3) := by decide +kernel
theorem dX2_dropOldest_12 : decode cX2_dropOldest 12 = .ok (.iload_n 1, 1) := by decide +kernel
theorem dX2_dropOldest_13 : decode cX2_dropOldest 13 = .ok (.iconst 1, 1) := by decide +kernel
theorem dX2_dropOldest_14 : decode cX2_dropOldest 14 = .ok (.isub, 1) := by decide +kernel
theorem dX2_dropOldest_15 : decode cX2_dropOldest 15 = .ok (.aload_n 0, 1) := by decide +kernel
theorem dX2_dropOldest_16 : decode cX2_dropOldest 16 = .ok (.getfield 9, 3) := by decide +kernel
theorem dX2_dropOldest_19 : decode cX2_dropOldest 19 = .ok (.iload_n 1, 1) := by decide +kernel
theorem dX2_dropOldest_20 : decode cX2_dropOldest 20 = .ok (.iaload, 1) := by decide +kernel
theorem dX2_dropOldest_21 : decode cX2_dropOldest 21 = .ok (.iastore, 1) := by decide +kernel
theorem dX2_dropOldest_22 : decode cX2_dropOldest 22 = .ok (.aload_n 0, 1) := by decide +kernel
theorem dX2_dropOldest_23 : decode cX2_dropOldest 23 = .ok (.getfield 15, 3) := by decide +kernel
theorem dX2_dropOldest_26 : decode cX2_dropOldest 26 = .ok (.iload_n 1, 1) := by decide +kernel
theorem dX2_dropOldest_27 : decode cX2_dropOldest 27 = .ok (.iconst 1, 1) := by decide +kernel
theorem dX2_dropOldest_28 : decode cX2_dropOldest 28 = .ok (.isub, 1) := by decide +kernel
theorem dX2_dropOldest_29 : decode cX2_dropOldest 29 = .ok (.aload_n 0, 1) := by decide +kernel
theorem dX2_dropOldest_30 : decode cX2_dropOldest 30 = .ok (.getfield 15, 3) := by decide +kernel
theorem dX2_dropOldest_33 : decode cX2_dropOldest 33 = .ok (.iload_n 1, 1) := by decide +kernel
theorem dX2_dropOldest_34 : decode cX2_dropOldest 34 = .ok (.iaload, 1) := by decide +kernel
theorem dX2_dropOldest_35 : decode cX2_dropOldest 35 = .ok (.iastore, 1) := by decide +kernel
theorem dX2_dropOldest_36 : decode cX2_dropOldest 36 = .ok (.aload_n 0, 1) := by decide +kernel
theorem dX2_dropOldest_37 : decode cX2_dropOldest 37 = .ok (.getfield 18, 3) := by decide +kernel
theorem dX2_dropOldest_40 : decode cX2_dropOldest 40 = .ok (.iload_n 1, 1) := by decide +kernel
theorem dX2_dropOldest_41 : decode cX2_dropOldest 41 = .ok (.iconst 1, 1) := by decide +kernel
theorem dX2_dropOldest_42 : decode cX2_dropOldest 42 = .ok (.isub, 1) := by decide +kernel
theorem dX2_dropOldest_43 : decode cX2_dropOldest 43 = .ok (.aload_n 0, 1) := by decide +kernel
theorem dX2_dropOldest_44 : decode cX2_dropOldest 44 = .ok (.getfield 18, 3) := by decide +kernel
theorem dX2_dropOldest_47 : decode cX2_dropOldest 47 = .ok (.iload_n 1, 1) := by decide +kernel
theorem dX2_dropOldest_48 : decode cX2_dropOldest 48 = .ok (.laload, 1) := by decide +kernel
theorem dX2_dropOldest_49 : decode cX2_dropOldest 49 = .ok (.lastore, 1) := by decide +kernel
theorem dX2_dropOldest_50 : decode cX2_dropOldest 50 = .ok (.iinc 1 1, 3) := by decide +kernel
theorem dX2_dropOldest_53 : decode cX2_dropOldest 53 = .ok (.goto (-51), 3) := by decide +kernel
theorem dX2_dropOldest_56 : decode cX2_dropOldest 56 = .ok (.aload_n 0, 1) := by decide +kernel
theorem dX2_dropOldest_57 : decode cX2_dropOldest 57 = .ok (.bipush 7, 2) := by decide +kernel
theorem dX2_dropOldest_59 : decode cX2_dropOldest 59 = .ok (.putfield 22, 3) := by decide +kernel
theorem dX2_dropOldest_62 : decode cX2_dropOldest 62 = .ok (.return_, 1) := by decide +kernel
theorem dX3_init_0 : decode cX3_init 0 = .ok (.aload_n 0, 1) := by decide +kernel
theorem dX3_init_1 : decode cX3_init 1 = .ok (.invokespecial 3, 3) := by decide +kernel
theorem dX3_init_4 : decode cX3_init 4 = .ok (.aload_n 0, 1) := by decide +kernel
theorem dX3_init_5 : decode cX3_init 5 = .ok (.sipush 588, 3) := by decide +kernel
theorem dX3_init_8 : decode cX3_init 8 = .ok (.newarray .int, 2) := by decide +kernel
theorem dX3_init_10 : decode cX3_init 10 = .ok (.putfield 9, 3) := by decide +kernel
theorem dX3_init_13 : decode cX3_init 13 = .ok (.aload_n 0, 1) := by decide +kernel
theorem dX3_init_14 : decode cX3_init 14 = .ok (.aload_n 1, 1) := by decide +kernel
theorem dX3_init_15 : decode cX3_init 15 = .ok (.putfield 15, 3) := by decide +kernel
theorem dX3_init_18 : decode cX3_init 18 = .ok (.return_, 1) := by decide +kernel
theorem dX3_fill_0 : decode cX3_fill 0 = .ok (.aload_n 0, 1) := by decide +kernel
theorem dX3_fill_1 : decode cX3_fill 1 = .ok (.iconst 0, 1) := by decide +kernel
theorem dX3_fill_2 : decode cX3_fill 2 = .ok (.putfield 19, 3) := by decide +kernel
theorem dX3_fill_5 : decode cX3_fill 5 = .ok (.lload_n 1, 1) := by decide +kernel
theorem dX3_fill_6 : decode cX3_fill 6 = .ok (.iload_n 3, 1) := by decide +kernel
theorem dX3_fill_7 : decode cX3_fill 7 = .ok (.invokestatic 23, 3) := by decide +kernel
theorem dX3_fill_10 : decode cX3_fill 10 = .ok (.istore 4, 2) := by decide +kernel
theorem dX3_fill_12 : decode cX3_fill 12 = .ok (.lload_n 1, 1) := by decide +kernel
theorem dX3_fill_13 : decode cX3_fill 13 = .ok (.aload_n 0, 1) := by decide +kernel
theorem dX3_fill_14 : decode cX3_fill 14 = .ok (.getfield 15, 3) := by decide +kernel
theorem dX3_fill_17 : decode cX3_fill 17 = .ok (.getfield 29, 3) := by decide +kernel
theorem dX3_fill_20 : decode cX3_fill 20 = .ok (.invokestatic 34, 3) := by decide +kernel
theorem dX3_fill_23 : decode cX3_fill 23 = .ok (.istore 5, 2) := by decide +kernel
theorem dX3_fill_25 : decode cX3_fill 25 = .ok (.iconst 0, 1) := by decide +kernel
theorem dX3_fill_26 : decode cX3_fill 26 = .ok (.istore 6, 2) := by decide +kernel
theorem dX3_fill_28 : decode cX3_fill 28 = .ok (.iload 6, 2) := by decide +kernel
theorem dX3_fill_30 : decode cX3_fill 30 = .ok (.aload_n 0, 1) := by decide +kernel
theorem dX3_fill_31 : decode cX3_fill 31 = .ok (.getfield 15, 3) := by decide +kernel
theorem dX3_fill_34 : decode cX3_fill 34 = .ok (.getfield 37, 3) := by decide +kernel
theorem dX3_fill_37 : decode cX3_fill 37 = .ok (.if_icmp .ge 27, 3) := by decide +kernel
theorem dX3_fill_40 : decode cX3_fill 40 = .ok (.iload 4, 2) := by decide +kernel
theorem dX3_fill_42 : decode cX3_fill 42 = .ok (.iload 6, 2) := by decide +kernel
theorem dX3_fill_44 : decode cX3_fill 44 = .ok (.ishr, 1) := by decide +kernel
theorem dX3_fill_45 : decode cX3_fill 45 = .ok (.iconst 1, 1) := by decide +kernel
theorem dX3_fill_46 : decode cX3_fill 46 = .ok (.iand, 1) := by decide +kernel
theorem dX3_fill_47 : decode cX3_fill 47 = .ok (.ifCond .eq 11, 3) := by decide +kernel
theorem dX3_fill_50 : decode cX3_fill 50 = .ok (.aload_n 0, 1) := by decide +kernel
theorem dX3_fill_51 : decode cX3_fill 51 = .ok (.iload 6, 2) := by decide +kernel
theorem dX3_fill_53 : decode cX3_fill 53 = .ok (.iload 5, 2) := by decide +kernel
theorem dX3_fill_55 : decode cX3_fill 55 = .ok (.invokevirtual 40, 3) := by decide +kernel
theorem dX3_fill_58 : decode cX3_fill 58 = .ok (.iinc 6 1, 3) := by decide +kernel
theorem dX3_fill_61 : decode cX3_fill 61 = .ok (.goto (-33), 3) := by decide +kernel
theorem dX3_fill_64 : decode cX3_fill 64 = .ok (.return_, 1) := by decide +kernel
theorem dX3_addMovesFrom_0 : decode cX3_addMovesFrom 0 = .ok (.aload_n 0, 1) := by decide +kernel
theorem dX3_addMovesFrom_1 : decode cX3_addMovesFrom 1 = .ok (.getfield 15, 3) := by decide +kernel
theorem dX3_addMovesFrom_4 : decode cX3_addMovesFrom 4 = .ok (.iload_n 1, 1) := by decide +kernel
theorem dX3_addMovesFrom_5 : decode cX3_addMovesFrom 5 = .ok (.iload_n 2, 1) := by decide +kernel
theorem dX3_addMovesFrom_6 : decode cX3_addMovesFrom 6 = .ok (.invokevirtual 44, 3) := by decide +kernel
theorem dX3_addMovesFrom_9 : decode cX3_addMovesFrom 9 = .ok (.istore_n 3, 1) := by decide +kernel
theorem dX3_addMovesFrom_10 : decode cX3_addMovesFrom 10 = .ok (.iconst 0, 1) := by decide +kernel
theorem dX3_addMovesFrom_11 : decode cX3_addMovesFrom 11 = .ok (.istore 4, 2) := by decide +kernel
theorem dX3_addMovesFrom_13 : decode cX3_addMovesFrom 13 = .ok (.iload 4, 2) := by decide +kernel
theorem dX3_addMovesFrom_15 : decode cX3_addMovesFrom 15 = .ok (.aload_n 0, 1) := by decide +kernel
theorem dX3_addMovesFrom_16 : decode cX3_addMovesFrom 16 = .ok (.getfield 15, 3) := by decide +kernel
theorem dX3_addMovesFrom_19 : decode cX3_addMovesFrom 19 = .ok (.getfield 37, 3) := by decide +kernel
theorem dX3_addMovesFrom_22 : decode cX3_addMovesFrom 22 = .ok (.if_icmp .ge 56, 3) := by decide +kernel
theorem dX3_addMovesFrom_25 : decode cX3_addMovesFrom 25 = .ok (.iload_n 3, 1) := by decide +kernel
theorem dX3_addMovesFrom_26 : decode cX3_addMovesFrom 26 = .ok (.iload 4, 2) := by decide +kernel
theorem dX3_addMovesFrom_28 : decode cX3_addMovesFrom 28 = .ok (.ishr, 1) := by decide +kernel
theorem dX3_addMovesFrom_29 : decode cX3_addMovesFrom 29 = .ok (.iconst 1, 1) := by decide +kernel
theorem dX3_addMovesFrom_30 : decode cX3_addMovesFrom 30 = .ok (.iand, 1) := by decide +kernel
theorem dX3_addMovesFrom_31 : decode cX3_addMovesFrom 31 = .ok (.ifCond .eq 41, 3) := by decide +kernel
theorem dX3_addMovesFrom_34 : decode cX3_addMovesFrom 34 = .ok (.aload_n 0, 1) := by decide +kernel
theorem dX3_addMovesFrom_35 : decode cX3_addMovesFrom 35 = .ok (.getfield 15, 3) := by decide +kernel
theorem dX3_addMovesFrom_38 : decode cX3_addMovesFrom 38 = .ok (.iload 4, 2) := by decide +kernel
theorem dX3_addMovesFrom_40 : decode cX3_addMovesFrom 40 = .ok (.iload_n 2, 1) := by decide +kernel
theorem dX3_addMovesFrom_41 : decode cX3_addMovesFrom 41 = .ok (.iconst 1, 1) := by decide +kernel
theorem dX3_addMovesFrom_42 : decode cX3_addMovesFrom 42 = .ok (.iload_n 1, 1) := by decide +kernel
theorem dX3_addMovesFrom_43 : decode cX3_addMovesFrom 43 = .ok (.ishl, 1) := by decide +kernel
theorem dX3_addMovesFrom_44 : decode cX3_addMovesFrom 44 = .ok (.ior, 1) := by decide +kernel
theorem dX3_addMovesFrom_45 : decode cX3_addMovesFrom 45 = .ok (.iconst 1, 1) := by decide +kernel
theorem dX3_addMovesFrom_46 : decode cX3_addMovesFrom 46 = .ok (.iload 4, 2) := by decide +kernel
theorem dX3_addMovesFrom_48 : decode cX3_addMovesFrom 48 = .ok (.ishl, 1) := by decide +kernel
theorem dX3_addMovesFrom_49 : decode cX3_addMovesFrom 49 = .ok (.iconst (-1), 1) := by decide +kernel
theorem dX3_addMovesFrom_50 : decode cX3_addMovesFrom 50 = .ok (.ixor, 1) := by decide +kernel
theorem dX3_addMovesFrom_51 : decode cX3_addMovesFrom 51 = .ok (.iand, 1) := by decide +kernel
theorem dX3_addMovesFrom_52 : decode cX3_addMovesFrom 52 = .ok (.invokevirtual 44, 3) := by decide +kernel
theorem dX3_addMovesFrom_55 : decode cX3_addMovesFrom 55 = .ok (.istore 5, 2) := by decide +kernel
theorem dX3_addMovesFrom_57 : decode cX3_addMovesFrom 57 = .ok (.aload_n 0, 1) := by decide +kernel
theorem dX3_addMovesFrom_58 : decode cX3_addMovesFrom 58 = .ok (.iload_n 1, 1) := by decide +kernel
theorem dX3_addMovesFrom_59 : decode cX3_addMovesFrom 59 = .ok (.bipush 8, 2) := by decide +kernel
theorem dX3_addMovesFrom_61 : decode cX3_addMovesFrom 61 = .ok (.ishl, 1) := by decide +kernel
theorem dX3_addMovesFrom_62 : decode cX3_addMovesFrom 62 = .ok (.iload 4, 2) := by decide +kernel
theorem dX3_addMovesFrom_64 : decode cX3_addMovesFrom 64 = .ok (.iconst 4, 1) := by decide +kernel
theorem dX3_addMovesFrom_65 : decode cX3_addMovesFrom 65 = .ok (.ishl, 1) := by decide +kernel
theorem dX3_addMovesFrom_66 : decode cX3_addMovesFrom 66 = .ok (.ior, 1) := by decide +kernel
theorem dX3_addMovesFrom_67 : decode cX3_addMovesFrom 67 = .ok (.iload 5, 2) := by decide +kernel
theorem dX3_addMovesFrom_69 : decode cX3_addMovesFrom 69 = .ok (.invokevirtual 48, 3) := by decide +kernel
theorem dX3_addMovesFrom_72 : decode cX3_addMovesFrom 72 = .ok (.iinc 4 1, 3) := by decide +kernel
theorem dX3_addMovesFrom_75 : decode cX3_addMovesFrom 75 = .ok (.goto (-62), 3) := by decide +kernel
theorem dX3_addMovesFrom_78 : decode cX3_addMovesFrom 78 = .ok (.return_, 1) := by decide +kernel
theorem dX3_addBurns_0 : decode cX3_addBurns 0 = .ok (.iconst 0, 1) := by decide +kernel
theorem dX3_addBurns_1 : decode cX3_addBurns 1 = .ok (.istore_n 3, 1) := by decide +kernel
theorem dX3_addBurns_2 : decode cX3_addBurns 2 = .ok (.iload_n 3, 1) := by decide +kernel
theorem dX3_addBurns_3 : decode cX3_addBurns 3 = .ok (.aload_n 0, 1) := by decide +kernel
theorem dX3_addBurns_4 : decode cX3_addBurns 4 = .ok (.getfield 15, 3) := by decide +kernel
theorem dX3_addBurns_7 : decode cX3_addBurns 7 = .ok (.getfield 37, 3) := by decide +kernel
theorem dX3_addBurns_10 : decode cX3_addBurns 10 = .ok (.if_icmp .ge 49, 3) := by decide +kernel
theorem dX3_addBurns_13 : decode cX3_addBurns 13 = .ok (.iload_n 2, 1) := by decide +kernel
theorem dX3_addBurns_14 : decode cX3_addBurns 14 = .ok (.iload_n 3, 1) := by decide +kernel
theorem dX3_addBurns_15 : decode cX3_addBurns 15 = .ok (.ishr, 1) := by decide +kernel
theorem dX3_addBurns_16 : decode cX3_addBurns 16 = .ok (.iconst 1, 1) := by decide +kernel
theorem dX3_addBurns_17 : decode cX3_addBurns 17 = .ok (.iand, 1) := by decide +kernel
theorem dX3_addBurns_18 : decode cX3_addBurns 18 = .ok (.ifCond .eq 35, 3) := by decide +kernel
theorem dX3_addBurns_21 : decode cX3_addBurns 21 = .ok (.aload_n 0, 1) := by decide +kernel
theorem dX3_addBurns_22 : decode cX3_addBurns 22 = .ok (.getfield 19, 3) := by decide +kernel
theorem dX3_addBurns_25 : decode cX3_addBurns 25 = .ok (.sipush 588, 3) := by decide +kernel
theorem dX3_addBurns_28 : decode cX3_addBurns 28 = .ok (.if_icmp .ge 25, 3) := by decide +kernel
theorem dX3_addBurns_31 : decode cX3_addBurns 31 = .ok (.aload_n 0, 1) := by decide +kernel
theorem dX3_addBurns_32 : decode cX3_addBurns 32 = .ok (.getfield 9, 3) := by decide +kernel
theorem dX3_addBurns_35 : decode cX3_addBurns 35 = .ok (.aload_n 0, 1) := by decide +kernel
theorem dX3_addBurns_36 : decode cX3_addBurns 36 = .ok (.getfield 19, 3) := by decide +kernel
theorem dX3_addBurns_39 : decode cX3_addBurns 39 = .ok (.iload_n 1, 1) := by decide +kernel
theorem dX3_addBurns_40 : decode cX3_addBurns 40 = .ok (.iload_n 3, 1) := by decide +kernel
theorem dX3_addBurns_41 : decode cX3_addBurns 41 = .ok (.ior, 1) := by decide +kernel
theorem dX3_addBurns_42 : decode cX3_addBurns 42 = .ok (.iastore, 1) := by decide +kernel
theorem dX3_addBurns_43 : decode cX3_addBurns 43 = .ok (.aload_n 0, 1) := by decide +kernel
theorem dX3_addBurns_44 : decode cX3_addBurns 44 = .ok (.dup, 1) := by decide +kernel
theorem dX3_addBurns_45 : decode cX3_addBurns 45 = .ok (.getfield 19, 3) := by decide +kernel
theorem dX3_addBurns_48 : decode cX3_addBurns 48 = .ok (.iconst 1, 1) := by decide +kernel
theorem dX3_addBurns_49 : decode cX3_addBurns 49 = .ok (.iadd, 1) := by decide +kernel
theorem dX3_addBurns_50 : decode cX3_addBurns 50 = .ok (.putfield 19, 3) := by decide +kernel
theorem dX3_addBurns_53 : decode cX3_addBurns 53 = .ok (.iinc 3 1, 3) := by decide +kernel
theorem dX3_addBurns_56 : decode cX3_addBurns 56 = .ok (.goto (-54), 3) := by decide +kernel
theorem dX3_addBurns_59 : decode cX3_addBurns 59 = .ok (.return_, 1) := by decide +kernel
theorem dX3_find_0 : decode cX3_find 0 = .ok (.iload_n 1, 1) := by decide +kernel
theorem dX3_find_1 : decode cX3_find 1 = .ok (.bipush 8, 2) := by decide +kernel
theorem dX3_find_3 : decode cX3_find 3 = .ok (.ishl, 1) := by decide +kernel
theorem dX3_find_4 : decode cX3_find 4 = .ok (.iload_n 2, 1) := by decide +kernel
theorem dX3_find_5 : decode cX3_find 5 = .ok (.iconst 4, 1) := by decide +kernel
theorem dX3_find_6 : decode cX3_find 6 = .ok (.ishl, 1) := by decide +kernel
theorem dX3_find_7 : decode cX3_find 7 = .ok (.ior, 1) := by decide +kernel
theorem dX3_find_8 : decode cX3_find 8 = .ok (.iload_n 3, 1) := by decide +kernel
theorem dX3_find_9 : decode cX3_find 9 = .ok (.ior, 1) := by decide +kernel
theorem dX3_find_10 : decode cX3_find 10 = .ok (.istore 4, 2) := by decide +kernel
theorem dX3_find_12 : decode cX3_find 12 = .ok (.iconst 0, 1) := by decide +kernel
theorem dX3_find_13 : decode cX3_find 13 = .ok (.istore 5, 2) := by decide +kernel
theorem dX3_find_15 : decode cX3_find 15 = .ok (.iload 5, 2) := by decide +kernel
theorem dX3_find_17 : decode cX3_find 17 = .ok (.aload_n 0, 1) := by decide +kernel
theorem dX3_find_18 : decode cX3_find 18 = .ok (.getfield 19, 3) := by decide +kernel
theorem dX3_find_21 : decode cX3_find 21 = .ok (.if_icmp .ge 24, 3) := by decide +kernel
theorem dX3_find_24 : decode cX3_find 24 = .ok (.aload_n 0, 1) := by decide +kernel
theorem dX3_find_25 : decode cX3_find 25 = .ok (.getfield 9, 3) := by decide +kernel
theorem dX3_find_28 : decode cX3_find 28 = .ok (.iload 5, 2) := by decide +kernel
theorem dX3_find_30 : decode cX3_find 30 = .ok (.iaload, 1) := by decide +kernel
theorem dX3_find_31 : decode cX3_find 31 = .ok (.iload 4, 2) := by decide +kernel
theorem dX3_find_33 : decode cX3_find 33 = .ok (.if_icmp .ne 6, 3) := by decide +kernel
theorem dX3_find_36 : decode cX3_find 36 = .ok (.iload 5, 2) := by decide +kernel
theorem dX3_find_38 : decode cX3_find 38 = .ok (.ireturn, 1) := by decide +kernel
theorem dX3_find_39 : decode cX3_find 39 = .ok (.iinc 5 1, 3) := by decide +kernel
theorem dX3_find_42 : decode cX3_find 42 = .ok (.goto (-27), 3) := by decide +kernel
theorem dX3_find_45 : decode cX3_find 45 = .ok (.iconst (-1), 1) := by decide +kernel
theorem dX3_find_46 : decode cX3_find 46 = .ok (.ireturn, 1) := by decide +kernel
theorem dX3_fromOf_0 : decode cX3_fromOf 0 = .ok (.aload_n 0, 1) := by decide +kernel
theorem dX3_fromOf_1 : decode cX3_fromOf 1 = .ok (.getfield 9, 3) := by decide +kernel
theorem dX3_fromOf_4 : decode cX3_fromOf 4 = .ok (.iload_n 1, 1) := by decide +kernel
theorem dX3_fromOf_5 : decode cX3_fromOf 5 = .ok (.iaload, 1) := by decide +kernel
theorem dX3_fromOf_6 : decode cX3_fromOf 6 = .ok (.bipush 8, 2) := by decide +kernel
theorem dX3_fromOf_8 : decode cX3_fromOf 8 = .ok (.ishr, 1) := by decide +kernel
theorem dX3_fromOf_9 : decode cX3_fromOf 9 = .ok (.ireturn, 1) := by decide +kernel
theorem dX3_toOf_0 : decode cX3_toOf 0 = .ok (.aload_n 0, 1) := by decide +kernel
theorem dX3_toOf_1 : decode cX3_toOf 1 = .ok (.getfield 9, 3) := by decide +kernel
theorem dX3_toOf_4 : decode cX3_toOf 4 = .ok (.iload_n 1, 1) := by decide +kernel
theorem dX3_toOf_5 : decode cX3_toOf 5 = .ok (.iaload, 1) := by decide +kernel
theorem dX3_toOf_6 : decode cX3_toOf 6 = .ok (.iconst 4, 1) := by decide +kernel
theorem dX3_toOf_7 : decode cX3_toOf 7 = .ok (.ishr, 1) := by decide +kernel
theorem dX3_toOf_8 : decode cX3_toOf 8 = .ok (.bipush 15, 2) := by decide +kernel
theorem dX3_toOf_10 : decode cX3_toOf 10 = .ok (.iand, 1) := by decide +kernel
theorem dX3_toOf_11 : decode cX3_toOf 11 = .ok (.ireturn, 1) := by decide +kernel
theorem dX3_burntOf_0 : decode cX3_burntOf 0 = .ok (.aload_n 0, 1) := by decide +kernel
theorem dX3_burntOf_1 : decode cX3_burntOf 1 = .ok (.getfield 9, 3) := by decide +kernel
theorem dX3_burntOf_4 : decode cX3_burntOf 4 = .ok (.iload_n 1, 1) := by decide +kernel
theorem dX3_burntOf_5 : decode cX3_burntOf 5 = .ok (.iaload, 1) := by decide +kernel
theorem dX3_burntOf_6 : decode cX3_burntOf 6 = .ok (.bipush 15, 2) := by decide +kernel
theorem dX3_burntOf_8 : decode cX3_burntOf 8 = .ok (.iand, 1) := by decide +kernel
theorem dX3_burntOf_9 : decode cX3_burntOf 9 = .ok (.ireturn, 1) := by decide +kernel
theorem dX3_after_0 : decode cX3_after 0 = .ok (.lload_n 1, 1) := by decide +kernel
theorem dX3_after_1 : decode cX3_after 1 = .ok (.aload_n 0, 1) := by decide +kernel
theorem dX3_after_2 : decode cX3_after 2 = .ok (.iload 4, 2) := by decide +kernel
theorem dX3_after_4 : decode cX3_after 4 = .ok (.invokevirtual 51, 3) := by decide +kernel
theorem dX3_after_7 : decode cX3_after 7 = .ok (.iload_n 3, 1) := by decide +kernel
theorem dX3_after_8 : decode cX3_after 8 = .ok (.invokestatic 55, 3) := by decide +kernel
theorem dX3_after_11 : decode cX3_after 11 = .ok (.ldc2_w 59, 3) := by decide +kernel
theorem dX3_after_14 : decode cX3_after 14 = .ok (.lxor, 1) := by decide +kernel
theorem dX3_after_15 : decode cX3_after 15 = .ok (.land, 1) := by decide +kernel
theorem dX3_after_16 : decode cX3_after 16 = .ok (.aload_n 0, 1) := by decide +kernel
theorem dX3_after_17 : decode cX3_after 17 = .ok (.iload 4, 2) := by decide +kernel
theorem dX3_after_19 : decode cX3_after 19 = .ok (.invokevirtual 61, 3) := by decide +kernel
theorem dX3_after_22 : decode cX3_after 22 = .ok (.iload_n 3, 1) := by decide +kernel
theorem dX3_after_23 : decode cX3_after 23 = .ok (.invokestatic 55, 3) := by decide +kernel
theorem dX3_after_26 : decode cX3_after 26 = .ok (.lor, 1) := by decide +kernel
theorem dX3_after_27 : decode cX3_after 27 = .ok (.lstore 5, 2) := by decide +kernel
theorem dX3_after_29 : decode cX3_after 29 = .ok (.lload 5, 2) := by decide +kernel
theorem dX3_after_31 : decode cX3_after 31 = .ok (.aload_n 0, 1) := by decide +kernel
theorem dX3_after_32 : decode cX3_after 32 = .ok (.iload 4, 2) := by decide +kernel
theorem dX3_after_34 : decode cX3_after 34 = .ok (.invokevirtual 64, 3) := by decide +kernel
theorem dX3_after_37 : decode cX3_after 37 = .ok (.iconst 3, 1) := by decide +kernel
theorem dX3_after_38 : decode cX3_after 38 = .ok (.invokestatic 55, 3) := by decide +kernel
theorem dX3_after_41 : decode cX3_after 41 = .ok (.lor, 1) := by decide +kernel
theorem dX3_after_42 : decode cX3_after 42 = .ok (.lreturn, 1) := by decide +kernel
theorem dX4_init_0 : decode cX4_init 0 = .ok (.aload_n 0, 1) := by decide +kernel
theorem dX4_init_1 : decode cX4_init 1 = .ok (.invokespecial 3, 3) := by decide +kernel
theorem dX4_init_4 : decode cX4_init 4 = .ok (.aload_n 0, 1) := by decide +kernel
theorem dX4_init_5 : decode cX4_init 5 = .ok (.sipush 1500, 3) := by decide +kernel
theorem dX4_init_8 : decode cX4_init 8 = .ok (.newarray .long, 2) := by decide +kernel
theorem dX4_init_10 : decode cX4_init 10 = .ok (.putfield 9, 3) := by decide +kernel
theorem dX4_init_13 : decode cX4_init 13 = .ok (.aload_n 0, 1) := by decide +kernel
theorem dX4_init_14 : decode cX4_init 14 = .ok (.sipush 1500, 3) := by decide +kernel
theorem dX4_init_17 : decode cX4_init 17 = .ok (.newarray .boolean, 2) := by decide +kernel
theorem dX4_init_19 : decode cX4_init 19 = .ok (.putfield 15, 3) := by decide +kernel
theorem dX4_init_22 : decode cX4_init 22 = .ok (.aload_n 0, 1) := by decide +kernel
theorem dX4_init_23 : decode cX4_init 23 = .ok (.sipush 1500, 3) := by decide +kernel
theorem dX4_init_26 : decode cX4_init 26 = .ok (.newarray .int, 2) := by decide +kernel
theorem dX4_init_28 : decode cX4_init 28 = .ok (.putfield 19, 3) := by decide +kernel
theorem dX4_init_31 : decode cX4_init 31 = .ok (.aload_n 0, 1) := by decide +kernel
theorem dX4_init_32 : decode cX4_init 32 = .ok (.sipush 4096, 3) := by decide +kernel
theorem dX4_init_35 : decode cX4_init 35 = .ok (.newarray .int, 2) := by decide +kernel
theorem dX4_init_37 : decode cX4_init 37 = .ok (.putfield 23, 3) := by decide +kernel
theorem dX4_init_40 : decode cX4_init 40 = .ok (.aload_n 0, 1) := by decide +kernel
theorem dX4_init_41 : decode cX4_init 41 = .ok (.aload_n 1, 1) := by decide +kernel
theorem dX4_init_42 : decode cX4_init 42 = .ok (.putfield 26, 3) := by decide +kernel
theorem dX4_init_45 : decode cX4_init 45 = .ok (.return_, 1) := by decide +kernel
theorem dX4_explore_0 : decode cX4_explore 0 = .ok (.iconst 0, 1) := by decide +kernel
theorem dX4_explore_1 : decode cX4_explore 1 = .ok (.istore 5, 2) := by decide +kernel
theorem dX4_explore_3 : decode cX4_explore 3 = .ok (.iload 5, 2) := by decide +kernel
theorem dX4_explore_5 : decode cX4_explore 5 = .ok (.sipush 4096, 3) := by decide +kernel
theorem dX4_explore_8 : decode cX4_explore 8 = .ok (.if_icmp .ge 17, 3) := by decide +kernel
theorem dX4_explore_11 : decode cX4_explore 11 = .ok (.aload_n 0, 1) := by decide +kernel
theorem dX4_explore_12 : decode cX4_explore 12 = .ok (.getfield 23, 3) := by decide +kernel
theorem dX4_explore_15 : decode cX4_explore 15 = .ok (.iload 5, 2) := by decide +kernel
theorem dX4_explore_17 : decode cX4_explore 17 = .ok (.iconst 0, 1) := by decide +kernel
theorem dX4_explore_18 : decode cX4_explore 18 = .ok (.iastore, 1) := by decide +kernel
theorem dX4_explore_19 : decode cX4_explore 19 = .ok (.iinc 5 1, 3) := by decide +kernel
theorem dX4_explore_22 : decode cX4_explore 22 = .ok (.goto (-19), 3) := by decide +kernel
theorem dX4_explore_25 : decode cX4_explore 25 = .ok (.aload_n 0, 1) := by decide +kernel
theorem dX4_explore_26 : decode cX4_explore 26 = .ok (.iconst 0, 1) := by decide +kernel
theorem dX4_explore_27 : decode cX4_explore 27 = .ok (.putfield 30, 3) := by decide +kernel
theorem dX4_explore_30 : decode cX4_explore 30 = .ok (.aload_n 0, 1) := by decide +kernel
theorem dX4_explore_31 : decode cX4_explore 31 = .ok (.iload_n 3, 1) := by decide +kernel
theorem dX4_explore_32 : decode cX4_explore 32 = .ok (.putfield 34, 3) := by decide +kernel
theorem dX4_explore_35 : decode cX4_explore 35 = .ok (.aload_n 0, 1) := by decide +kernel
theorem dX4_explore_36 : decode cX4_explore 36 = .ok (.iload 4, 2) := by decide +kernel
theorem dX4_explore_38 : decode cX4_explore 38 = .ok (.putfield 37, 3) := by decide +kernel
theorem dX4_explore_41 : decode cX4_explore 41 = .ok (.aload_n 0, 1) := by decide +kernel
theorem dX4_explore_42 : decode cX4_explore 42 = .ok (.lload_n 1, 1) := by decide +kernel
theorem dX4_explore_43 : decode cX4_explore 43 = .ok (.invokevirtual 40, 3) := by decide +kernel
theorem dX4_explore_46 : decode cX4_explore 46 = .ok (.pop, 1) := by decide +kernel
theorem dX4_explore_47 : decode cX4_explore 47 = .ok (.iconst 0, 1) := by decide +kernel
theorem dX4_explore_48 : decode cX4_explore 48 = .ok (.istore 5, 2) := by decide +kernel
theorem dX4_explore_50 : decode cX4_explore 50 = .ok (.iload 5, 2) := by decide +kernel
theorem dX4_explore_52 : decode cX4_explore 52 = .ok (.aload_n 0, 1) := by decide +kernel
theorem dX4_explore_53 : decode cX4_explore 53 = .ok (.getfield 30, 3) := by decide +kernel
theorem dX4_explore_56 : decode cX4_explore 56 = .ok (.if_icmp .ge 89, 3) := by decide +kernel
theorem dX4_explore_59 : decode cX4_explore 59 = .ok (.iload 5, 2) := by decide +kernel
theorem dX4_explore_61 : decode cX4_explore 61 = .ok (.sipush 1500, 3) := by decide +kernel
theorem dX4_explore_64 : decode cX4_explore 64 = .ok (.if_icmp .ge 81, 3) := by decide +kernel
theorem dX4_explore_67 : decode cX4_explore 67 = .ok (.aload_n 0, 1) := by decide +kernel
theorem dX4_explore_68 : decode cX4_explore 68 = .ok (.iload 5, 2) := by decide +kernel
theorem dX4_explore_70 : decode cX4_explore 70 = .ok (.invokevirtual 44, 3) := by decide +kernel
theorem dX4_explore_73 : decode cX4_explore 73 = .ok (.istore 6, 2) := by decide +kernel
theorem dX4_explore_75 : decode cX4_explore 75 = .ok (.aload_n 0, 1) := by decide +kernel
theorem dX4_explore_76 : decode cX4_explore 76 = .ok (.getfield 26, 3) := by decide +kernel
theorem dX4_explore_79 : decode cX4_explore 79 = .ok (.aload_n 0, 1) := by decide +kernel
theorem dX4_explore_80 : decode cX4_explore 80 = .ok (.getfield 9, 3) := by decide +kernel
theorem dX4_explore_83 : decode cX4_explore 83 = .ok (.iload 5, 2) := by decide +kernel
theorem dX4_explore_85 : decode cX4_explore 85 = .ok (.laload, 1) := by decide +kernel
theorem dX4_explore_86 : decode cX4_explore 86 = .ok (.iload 6, 2) := by decide +kernel
theorem dX4_explore_88 : decode cX4_explore 88 = .ok (.invokevirtual 48, 3) := by decide +kernel
theorem dX4_explore_91 : decode cX4_explore 91 = .ok (.iconst 0, 1) := by decide +kernel
theorem dX4_explore_92 : decode cX4_explore 92 = .ok (.istore 7, 2) := by decide +kernel
theorem dX4_explore_94 : decode cX4_explore 94 = .ok (.iload 7, 2) := by decide +kernel
theorem dX4_explore_96 : decode cX4_explore 96 = .ok (.aload_n 0, 1) := by decide +kernel
theorem dX4_explore_97 : decode cX4_explore 97 = .ok (.getfield 26, 3) := by decide +kernel
theorem dX4_explore_100 : decode cX4_explore 100 = .ok (.getfield 54, 3) := by decide +kernel
theorem dX4_explore_103 : decode cX4_explore 103 = .ok (.if_icmp .ge 36, 3) := by decide +kernel
theorem dX4_explore_106 : decode cX4_explore 106 = .ok (.aload_n 0, 1) := by decide +kernel
theorem dX4_explore_107 : decode cX4_explore 107 = .ok (.aload_n 0, 1) := by decide +kernel
theorem dX4_explore_108 : decode cX4_explore 108 = .ok (.getfield 26, 3) := by decide +kernel
theorem dX4_explore_111 : decode cX4_explore 111 = .ok (.aload_n 0, 1) := by decide +kernel
theorem dX4_explore_112 : decode cX4_explore 112 = .ok (.getfield 9, 3) := by decide +kernel
theorem dX4_explore_115 : decode cX4_explore 115 = .ok (.iload 5, 2) := by decide +kernel
theorem dX4_explore_117 : decode cX4_explore 117 = .ok (.laload, 1) := by decide +kernel
theorem dX4_explore_118 : decode cX4_explore 118 = .ok (.iload 6, 2) := by decide +kernel
theorem dX4_explore_120 : decode cX4_explore 120 = .ok (.iload 7, 2) := by decide +kernel
theorem dX4_explore_122 : decode cX4_explore 122 = .ok (.invokevirtual 55, 3) := by decide +kernel
theorem dX4_explore_125 : decode cX4_explore 125 = .ok (.invokevirtual 40, 3) := by decide +kernel
theorem dX4_explore_128 : decode cX4_explore 128 = .ok (.ifCond .ne 5, 3) := by decide +kernel
theorem dX4_explore_131 : decode cX4_explore 131 = .ok (.iconst 0, 1) := by decide +kernel
theorem dX4_explore_132 : decode cX4_explore 132 = .ok (.ireturn, 1) := by decide +kernel
theorem dX4_explore_133 : decode cX4_explore 133 = .ok (.iinc 7 1, 3) := by decide +kernel
theorem dX4_explore_136 : decode cX4_explore 136 = .ok (.goto (-42), 3) := by decide +kernel
theorem dX4_explore_139 : decode cX4_explore 139 = .ok (.iinc 5 1, 3) := by decide +kernel
theorem dX4_explore_142 : decode cX4_explore 142 = .ok (.goto (-92), 3) := by decide +kernel
theorem dX4_explore_145 : decode cX4_explore 145 = .ok (.iconst 1, 1) := by decide +kernel
theorem dX4_explore_146 : decode cX4_explore 146 = .ok (.ireturn, 1) := by decide +kernel
theorem dX4_add_0 : decode cX4_add 0 = .ok (.aload_n 0, 1) := by decide +kernel
theorem dX4_add_1 : decode cX4_add 1 = .ok (.lload_n 1, 1) := by decide +kernel
theorem dX4_add_2 : decode cX4_add 2 = .ok (.invokevirtual 59, 3) := by decide +kernel
theorem dX4_add_5 : decode cX4_add 5 = .ok (.istore_n 3, 1) := by decide +kernel
theorem dX4_add_6 : decode cX4_add 6 = .ok (.aload_n 0, 1) := by decide +kernel
theorem dX4_add_7 : decode cX4_add 7 = .ok (.getfield 23, 3) := by decide +kernel
theorem dX4_add_10 : decode cX4_add 10 = .ok (.iload_n 3, 1) := by decide +kernel
theorem dX4_add_11 : decode cX4_add 11 = .ok (.iaload, 1) := by decide +kernel
theorem dX4_add_12 : decode cX4_add 12 = .ok (.ifCond .eq 5, 3) := by decide +kernel
theorem dX4_add_15 : decode cX4_add 15 = .ok (.iconst 1, 1) := by decide +kernel
theorem dX4_add_16 : decode cX4_add 16 = .ok (.ireturn, 1) := by decide +kernel
theorem dX4_add_17 : decode cX4_add 17 = .ok (.aload_n 0, 1) := by decide +kernel
theorem dX4_add_18 : decode cX4_add 18 = .ok (.getfield 30, 3) := by decide +kernel
theorem dX4_add_21 : decode cX4_add 21 = .ok (.sipush 1500, 3) := by decide +kernel
theorem dX4_add_24 : decode cX4_add 24 = .ok (.if_icmp .lt 5, 3) := by decide +kernel
theorem dX4_add_27 : decode cX4_add 27 = .ok (.iconst 0, 1) := by decide +kernel
theorem dX4_add_28 : decode cX4_add 28 = .ok (.ireturn, 1) := by decide +kernel
theorem dX4_add_29 : decode cX4_add 29 = .ok (.aload_n 0, 1) := by decide +kernel
theorem dX4_add_30 : decode cX4_add 30 = .ok (.getfield 9, 3) := by decide +kernel
theorem dX4_add_33 : decode cX4_add 33 = .ok (.aload_n 0, 1) := by decide +kernel
theorem dX4_add_34 : decode cX4_add 34 = .ok (.getfield 30, 3) := by decide +kernel
theorem dX4_add_37 : decode cX4_add 37 = .ok (.lload_n 1, 1) := by decide +kernel
theorem dX4_add_38 : decode cX4_add 38 = .ok (.lastore, 1) := by decide +kernel
theorem dX4_add_39 : decode cX4_add 39 = .ok (.aload_n 0, 1) := by decide +kernel
theorem dX4_add_40 : decode cX4_add 40 = .ok (.dup, 1) := by decide +kernel
theorem dX4_add_41 : decode cX4_add 41 = .ok (.getfield 30, 3) := by decide +kernel
theorem dX4_add_44 : decode cX4_add 44 = .ok (.iconst 1, 1) := by decide +kernel
theorem dX4_add_45 : decode cX4_add 45 = .ok (.iadd, 1) := by decide +kernel
theorem dX4_add_46 : decode cX4_add 46 = .ok (.putfield 30, 3) := by decide +kernel
theorem dX4_add_49 : decode cX4_add 49 = .ok (.aload_n 0, 1) := by decide +kernel
theorem dX4_add_50 : decode cX4_add 50 = .ok (.getfield 23, 3) := by decide +kernel
theorem dX4_add_53 : decode cX4_add 53 = .ok (.iload_n 3, 1) := by decide +kernel
theorem dX4_add_54 : decode cX4_add 54 = .ok (.aload_n 0, 1) := by decide +kernel
theorem dX4_add_55 : decode cX4_add 55 = .ok (.getfield 30, 3) := by decide +kernel
theorem dX4_add_58 : decode cX4_add 58 = .ok (.iastore, 1) := by decide +kernel
theorem dX4_add_59 : decode cX4_add 59 = .ok (.iconst 1, 1) := by decide +kernel
theorem dX4_add_60 : decode cX4_add 60 = .ok (.ireturn, 1) := by decide +kernel
theorem dX4_slotOf_0 : decode cX4_slotOf 0 = .ok (.lload_n 1, 1) := by decide +kernel
theorem dX4_slotOf_1 : decode cX4_slotOf 1 = .ok (.ldc2_w 63, 3) := by decide +kernel
theorem dX4_slotOf_4 : decode cX4_slotOf 4 = .ok (.lmul, 1) := by decide +kernel
theorem dX4_slotOf_5 : decode cX4_slotOf 5 = .ok (.bipush 52, 2) := by decide +kernel
theorem dX4_slotOf_7 : decode cX4_slotOf 7 = .ok (.lushr, 1) := by decide +kernel
theorem dX4_slotOf_8 : decode cX4_slotOf 8 = .ok (.l2i, 1) := by decide +kernel
theorem dX4_slotOf_9 : decode cX4_slotOf 9 = .ok (.istore_n 3, 1) := by decide +kernel
theorem dX4_slotOf_10 : decode cX4_slotOf 10 = .ok (.iconst 0, 1) := by decide +kernel
theorem dX4_slotOf_11 : decode cX4_slotOf 11 = .ok (.istore 4, 2) := by decide +kernel
theorem dX4_slotOf_13 : decode cX4_slotOf 13 = .ok (.iload 4, 2) := by decide +kernel
theorem dX4_slotOf_15 : decode cX4_slotOf 15 = .ok (.sipush 4096, 3) := by decide +kernel
theorem dX4_slotOf_18 : decode cX4_slotOf 18 = .ok (.if_icmp .ge 46, 3) := by decide +kernel
theorem dX4_slotOf_21 : decode cX4_slotOf 21 = .ok (.aload_n 0, 1) := by decide +kernel
theorem dX4_slotOf_22 : decode cX4_slotOf 22 = .ok (.getfield 23, 3) := by decide +kernel
theorem dX4_slotOf_25 : decode cX4_slotOf 25 = .ok (.iload_n 3, 1) := by decide +kernel
theorem dX4_slotOf_26 : decode cX4_slotOf 26 = .ok (.iaload, 1) := by decide +kernel
theorem dX4_slotOf_27 : decode cX4_slotOf 27 = .ok (.istore 5, 2) := by decide +kernel
theorem dX4_slotOf_29 : decode cX4_slotOf 29 = .ok (.iload 5, 2) := by decide +kernel
theorem dX4_slotOf_31 : decode cX4_slotOf 31 = .ok (.ifCond .eq 17, 3) := by decide +kernel
theorem dX4_slotOf_34 : decode cX4_slotOf 34 = .ok (.aload_n 0, 1) := by decide +kernel
theorem dX4_slotOf_35 : decode cX4_slotOf 35 = .ok (.getfield 9, 3) := by decide +kernel
theorem dX4_slotOf_38 : decode cX4_slotOf 38 = .ok (.iload 5, 2) := by decide +kernel
theorem dX4_slotOf_40 : decode cX4_slotOf 40 = .ok (.iconst 1, 1) := by decide +kernel
theorem dX4_slotOf_41 : decode cX4_slotOf 41 = .ok (.isub, 1) := by decide +kernel
theorem dX4_slotOf_42 : decode cX4_slotOf 42 = .ok (.laload, 1) := by decide +kernel
theorem dX4_slotOf_43 : decode cX4_slotOf 43 = .ok (.lload_n 1, 1) := by decide +kernel
theorem dX4_slotOf_44 : decode cX4_slotOf 44 = .ok (.lcmp, 1) := by decide +kernel
theorem dX4_slotOf_45 : decode cX4_slotOf 45 = .ok (.ifCond .ne 5, 3) := by decide +kernel
theorem dX4_slotOf_48 : decode cX4_slotOf 48 = .ok (.iload_n 3, 1) := by decide +kernel
theorem dX4_slotOf_49 : decode cX4_slotOf 49 = .ok (.ireturn, 1) := by decide +kernel
theorem dX4_slotOf_50 : decode cX4_slotOf 50 = .ok (.iload_n 3, 1) := by decide +kernel
theorem dX4_slotOf_51 : decode cX4_slotOf 51 = .ok (.iconst 1, 1) := by decide +kernel
theorem dX4_slotOf_52 : decode cX4_slotOf 52 = .ok (.iadd, 1) := by decide +kernel
theorem dX4_slotOf_53 : decode cX4_slotOf 53 = .ok (.sipush 4095, 3) := by decide +kernel
theorem dX4_slotOf_56 : decode cX4_slotOf 56 = .ok (.iand, 1) := by decide +kernel
theorem dX4_slotOf_57 : decode cX4_slotOf 57 = .ok (.istore_n 3, 1) := by decide +kernel
theorem dX4_slotOf_58 : decode cX4_slotOf 58 = .ok (.iinc 4 1, 3) := by decide +kernel
theorem dX4_slotOf_61 : decode cX4_slotOf 61 = .ok (.goto (-48), 3) := by decide +kernel
theorem dX4_slotOf_64 : decode cX4_slotOf 64 = .ok (.iload_n 3, 1) := by decide +kernel
theorem dX4_slotOf_65 : decode cX4_slotOf 65 = .ok (.ireturn, 1) := by decide +kernel
theorem dX4_find_0 : decode cX4_find 0 = .ok (.aload_n 0, 1) := by decide +kernel
theorem dX4_find_1 : decode cX4_find 1 = .ok (.getfield 23, 3) := by decide +kernel
theorem dX4_find_4 : decode cX4_find 4 = .ok (.aload_n 0, 1) := by decide +kernel
theorem dX4_find_5 : decode cX4_find 5 = .ok (.lload_n 1, 1) := by decide +kernel
theorem dX4_find_6 : decode cX4_find 6 = .ok (.invokevirtual 59, 3) := by decide +kernel
theorem dX4_find_9 : decode cX4_find 9 = .ok (.iaload, 1) := by decide +kernel
theorem dX4_find_10 : decode cX4_find 10 = .ok (.iconst 1, 1) := by decide +kernel
theorem dX4_find_11 : decode cX4_find 11 = .ok (.isub, 1) := by decide +kernel
theorem dX4_find_12 : decode cX4_find 12 = .ok (.ireturn, 1) := by decide +kernel
theorem dX4_sideAt_0 : decode cX4_sideAt 0 = .ok (.aload_n 0, 1) := by decide +kernel
theorem dX4_sideAt_1 : decode cX4_sideAt 1 = .ok (.getfield 9, 3) := by decide +kernel
theorem dX4_sideAt_4 : decode cX4_sideAt 4 = .ok (.iconst 0, 1) := by decide +kernel
theorem dX4_sideAt_5 : decode cX4_sideAt 5 = .ok (.laload, 1) := by decide +kernel
theorem dX4_sideAt_6 : decode cX4_sideAt 6 = .ok (.iconst 3, 1) := by decide +kernel
theorem dX4_sideAt_7 : decode cX4_sideAt 7 = .ok (.invokestatic 65, 3) := by decide +kernel
theorem dX4_sideAt_10 : decode cX4_sideAt 10 = .ok (.invokestatic 71, 3) := by decide +kernel
theorem dX4_sideAt_13 : decode cX4_sideAt 13 = .ok (.istore_n 2, 1) := by decide +kernel
theorem dX4_sideAt_14 : decode cX4_sideAt 14 = .ok (.aload_n 0, 1) := by decide +kernel
theorem dX4_sideAt_15 : decode cX4_sideAt 15 = .ok (.getfield 9, 3) := by decide +kernel
theorem dX4_sideAt_18 : decode cX4_sideAt 18 = .ok (.iload_n 1, 1) := by decide +kernel
theorem dX4_sideAt_19 : decode cX4_sideAt 19 = .ok (.laload, 1) := by decide +kernel
theorem dX4_sideAt_20 : decode cX4_sideAt 20 = .ok (.iconst 3, 1) := by decide +kernel
theorem dX4_sideAt_21 : decode cX4_sideAt 21 = .ok (.invokestatic 65, 3) := by decide +kernel
theorem dX4_sideAt_24 : decode cX4_sideAt 24 = .ok (.invokestatic 71, 3) := by decide +kernel
theorem dX4_sideAt_27 : decode cX4_sideAt 27 = .ok (.istore_n 3, 1) := by decide +kernel
theorem dX4_sideAt_28 : decode cX4_sideAt 28 = .ok (.iload_n 3, 1) := by decide +kernel
theorem dX4_sideAt_29 : decode cX4_sideAt 29 = .ok (.iload_n 2, 1) := by decide +kernel
theorem dX4_sideAt_30 : decode cX4_sideAt 30 = .ok (.isub, 1) := by decide +kernel
theorem dX4_sideAt_31 : decode cX4_sideAt 31 = .ok (.iconst 1, 1) := by decide +kernel
theorem dX4_sideAt_32 : decode cX4_sideAt 32 = .ok (.iand, 1) := by decide +kernel
theorem dX4_sideAt_33 : decode cX4_sideAt 33 = .ok (.ifCond .ne 10, 3) := by decide +kernel
theorem dX4_sideAt_36 : decode cX4_sideAt 36 = .ok (.aload_n 0, 1) := by decide +kernel
theorem dX4_sideAt_37 : decode cX4_sideAt 37 = .ok (.getfield 34, 3) := by decide +kernel
theorem dX4_sideAt_40 : decode cX4_sideAt 40 = .ok (.goto 7, 3) := by decide +kernel
theorem dX4_sideAt_43 : decode cX4_sideAt 43 = .ok (.aload_n 0, 1) := by decide +kernel
theorem dX4_sideAt_44 : decode cX4_sideAt 44 = .ok (.getfield 37, 3) := by decide +kernel
theorem dX4_sideAt_47 : decode cX4_sideAt 47 = .ok (.ireturn, 1) := by decide +kernel
theorem dX4_solve_0 : decode cX4_solve 0 = .ok (.aload_n 0, 1) := by decide +kernel
theorem dX4_solve_1 : decode cX4_solve 1 = .ok (.getfield 30, 3) := by decide +kernel
theorem dX4_solve_4 : decode cX4_solve 4 = .ok (.iconst 1, 1) := by decide +kernel
theorem dX4_solve_5 : decode cX4_solve 5 = .ok (.isub, 1) := by decide +kernel
theorem dX4_solve_6 : decode cX4_solve 6 = .ok (.istore_n 1, 1) := by decide +kernel
theorem dX4_solve_7 : decode cX4_solve 7 = .ok (.iload_n 1, 1) := by decide +kernel
theorem dX4_solve_8 : decode cX4_solve 8 = .ok (.ifCond .lt 167, 3) := by decide +kernel
theorem dX4_solve_11 : decode cX4_solve 11 = .ok (.aload_n 0, 1) := by decide +kernel
theorem dX4_solve_12 : decode cX4_solve 12 = .ok (.iload_n 1, 1) := by decide +kernel
theorem dX4_solve_13 : decode cX4_solve 13 = .ok (.invokevirtual 44, 3) := by decide +kernel
theorem dX4_solve_16 : decode cX4_solve 16 = .ok (.istore_n 2, 1) := by decide +kernel
theorem dX4_solve_17 : decode cX4_solve 17 = .ok (.sipush 1000, 3) := by decide +kernel
theorem dX4_solve_20 : decode cX4_solve 20 = .ok (.istore_n 3, 1) := by decide +kernel
theorem dX4_solve_21 : decode cX4_solve 21 = .ok (.iconst 0, 1) := by decide +kernel
theorem dX4_solve_22 : decode cX4_solve 22 = .ok (.istore 4, 2) := by decide +kernel
theorem dX4_solve_24 : decode cX4_solve 24 = .ok (.aload_n 0, 1) := by decide +kernel
theorem dX4_solve_25 : decode cX4_solve 25 = .ok (.getfield 26, 3) := by decide +kernel
theorem dX4_solve_28 : decode cX4_solve 28 = .ok (.aload_n 0, 1) := by decide +kernel
theorem dX4_solve_29 : decode cX4_solve 29 = .ok (.getfield 9, 3) := by decide +kernel
theorem dX4_solve_32 : decode cX4_solve 32 = .ok (.iload_n 1, 1) := by decide +kernel
theorem dX4_solve_33 : decode cX4_solve 33 = .ok (.laload, 1) := by decide +kernel
theorem dX4_solve_34 : decode cX4_solve 34 = .ok (.iload_n 2, 1) := by decide +kernel
theorem dX4_solve_35 : decode cX4_solve 35 = .ok (.invokevirtual 48, 3) := by decide +kernel
theorem dX4_solve_38 : decode cX4_solve 38 = .ok (.iconst 0, 1) := by decide +kernel
theorem dX4_solve_39 : decode cX4_solve 39 = .ok (.istore 5, 2) := by decide +kernel
theorem dX4_solve_41 : decode cX4_solve 41 = .ok (.iload 5, 2) := by decide +kernel
theorem dX4_solve_43 : decode cX4_solve 43 = .ok (.aload_n 0, 1) := by decide +kernel
theorem dX4_solve_44 : decode cX4_solve 44 = .ok (.getfield 26, 3) := by decide +kernel
theorem dX4_solve_47 : decode cX4_solve 47 = .ok (.getfield 54, 3) := by decide +kernel
theorem dX4_solve_50 : decode cX4_solve 50 = .ok (.if_icmp .ge 80, 3) := by decide +kernel
theorem dX4_solve_53 : decode cX4_solve 53 = .ok (.aload_n 0, 1) := by decide +kernel
theorem dX4_solve_54 : decode cX4_solve 54 = .ok (.aload_n 0, 1) := by decide +kernel
theorem dX4_solve_55 : decode cX4_solve 55 = .ok (.getfield 26, 3) := by decide +kernel
theorem dX4_solve_58 : decode cX4_solve 58 = .ok (.aload_n 0, 1) := by decide +kernel
theorem dX4_solve_59 : decode cX4_solve 59 = .ok (.getfield 9, 3) := by decide +kernel
theorem dX4_solve_62 : decode cX4_solve 62 = .ok (.iload_n 1, 1) := by decide +kernel
theorem dX4_solve_63 : decode cX4_solve 63 = .ok (.laload, 1) := by decide +kernel
theorem dX4_solve_64 : decode cX4_solve 64 = .ok (.iload_n 2, 1) := by decide +kernel
theorem dX4_solve_65 : decode cX4_solve 65 = .ok (.iload 5, 2) := by decide +kernel
theorem dX4_solve_67 : decode cX4_solve 67 = .ok (.invokevirtual 55, 3) := by decide +kernel
theorem dX4_solve_70 : decode cX4_solve 70 = .ok (.invokevirtual 76, 3) := by decide +kernel
theorem dX4_solve_73 : decode cX4_solve 73 = .ok (.istore 6, 2) := by decide +kernel
theorem dX4_solve_75 : decode cX4_solve 75 = .ok (.iload 6, 2) := by decide +kernel
theorem dX4_solve_77 : decode cX4_solve 77 = .ok (.iconst (-1), 1) := by decide +kernel
theorem dX4_solve_78 : decode cX4_solve 78 = .ok (.if_icmp .ne 6, 3) := by decide +kernel
theorem dX4_solve_81 : decode cX4_solve 81 = .ok (.goto 43, 3) := by decide +kernel
theorem dX4_solve_84 : decode cX4_solve 84 = .ok (.iload 4, 2) := by decide +kernel
theorem dX4_solve_86 : decode cX4_solve 86 = .ok (.aload_n 0, 1) := by decide +kernel
theorem dX4_solve_87 : decode cX4_solve 87 = .ok (.getfield 19, 3) := by decide +kernel
theorem dX4_solve_90 : decode cX4_solve 90 = .ok (.iload 6, 2) := by decide +kernel
theorem dX4_solve_92 : decode cX4_solve 92 = .ok (.iaload, 1) := by decide +kernel
theorem dX4_solve_93 : decode cX4_solve 93 = .ok (.iconst 1, 1) := by decide +kernel
theorem dX4_solve_94 : decode cX4_solve 94 = .ok (.iadd, 1) := by decide +kernel
theorem dX4_solve_95 : decode cX4_solve 95 = .ok (.invokestatic 79, 3) := by decide +kernel
theorem dX4_solve_98 : decode cX4_solve 98 = .ok (.istore 4, 2) := by decide +kernel
theorem dX4_solve_100 : decode cX4_solve 100 = .ok (.aload_n 0, 1) := by decide +kernel
theorem dX4_solve_101 : decode cX4_solve 101 = .ok (.getfield 15, 3) := by decide +kernel
theorem dX4_solve_104 : decode cX4_solve 104 = .ok (.iload 6, 2) := by decide +kernel
theorem dX4_solve_106 : decode cX4_solve 106 = .ok (.baload, 1) := by decide +kernel
theorem dX4_solve_107 : decode cX4_solve 107 = .ok (.ifCond .ne 17, 3) := by decide +kernel
theorem dX4_solve_110 : decode cX4_solve 110 = .ok (.iload_n 3, 1) := by decide +kernel
theorem dX4_solve_111 : decode cX4_solve 111 = .ok (.aload_n 0, 1) := by decide +kernel
theorem dX4_solve_112 : decode cX4_solve 112 = .ok (.getfield 19, 3) := by decide +kernel
theorem dX4_solve_115 : decode cX4_solve 115 = .ok (.iload 6, 2) := by decide +kernel
theorem dX4_solve_117 : decode cX4_solve 117 = .ok (.iaload, 1) := by decide +kernel
theorem dX4_solve_118 : decode cX4_solve 118 = .ok (.iconst 1, 1) := by decide +kernel
theorem dX4_solve_119 : decode cX4_solve 119 = .ok (.iadd, 1) := by decide +kernel
theorem dX4_solve_120 : decode cX4_solve 120 = .ok (.invokestatic 85, 3) := by decide +kernel
theorem dX4_solve_123 : decode cX4_solve 123 = .ok (.istore_n 3, 1) := by decide +kernel
theorem dX4_solve_124 : decode cX4_solve 124 = .ok (.iinc 5 1, 3) := by decide +kernel
theorem dX4_solve_127 : decode cX4_solve 127 = .ok (.goto (-86), 3) := by decide +kernel
theorem dX4_solve_130 : decode cX4_solve 130 = .ok (.aload_n 0, 1) := by decide +kernel
theorem dX4_solve_131 : decode cX4_solve 131 = .ok (.getfield 15, 3) := by decide +kernel
theorem dX4_solve_134 : decode cX4_solve 134 = .ok (.iload_n 1, 1) := by decide +kernel
theorem dX4_solve_135 : decode cX4_solve 135 = .ok (.iload_n 3, 1) := by decide +kernel
theorem dX4_solve_136 : decode cX4_solve 136 = .ok (.sipush 1000, 3) := by decide +kernel
theorem dX4_solve_139 : decode cX4_solve 139 = .ok (.if_icmp .eq 7, 3) := by decide +kernel
theorem dX4_solve_142 : decode cX4_solve 142 = .ok (.iconst 1, 1) := by decide +kernel
theorem dX4_solve_143 : decode cX4_solve 143 = .ok (.goto 4, 3) := by decide +kernel
theorem dX4_solve_146 : decode cX4_solve 146 = .ok (.iconst 0, 1) := by decide +kernel
theorem dX4_solve_147 : decode cX4_solve 147 = .ok (.bastore, 1) := by decide +kernel
theorem dX4_solve_148 : decode cX4_solve 148 = .ok (.aload_n 0, 1) := by decide +kernel
theorem dX4_solve_149 : decode cX4_solve 149 = .ok (.getfield 19, 3) := by decide +kernel
theorem dX4_solve_152 : decode cX4_solve 152 = .ok (.iload_n 1, 1) := by decide +kernel
theorem dX4_solve_153 : decode cX4_solve 153 = .ok (.aload_n 0, 1) := by decide +kernel
theorem dX4_solve_154 : decode cX4_solve 154 = .ok (.getfield 15, 3) := by decide +kernel
theorem dX4_solve_157 : decode cX4_solve 157 = .ok (.iload_n 1, 1) := by decide +kernel
theorem dX4_solve_158 : decode cX4_solve 158 = .ok (.baload, 1) := by decide +kernel
theorem dX4_solve_159 : decode cX4_solve 159 = .ok (.ifCond .eq 7, 3) := by decide +kernel
theorem dX4_solve_162 : decode cX4_solve 162 = .ok (.iload_n 3, 1) := by decide +kernel
theorem dX4_solve_163 : decode cX4_solve 163 = .ok (.goto 5, 3) := by decide +kernel
theorem dX4_solve_166 : decode cX4_solve 166 = .ok (.iload 4, 2) := by decide +kernel
theorem dX4_solve_168 : decode cX4_solve 168 = .ok (.iastore, 1) := by decide +kernel
theorem dX4_solve_169 : decode cX4_solve 169 = .ok (.iinc 1 (-1), 3) := by decide +kernel
theorem dX4_solve_172 : decode cX4_solve 172 = .ok (.goto (-165), 3) := by decide +kernel
theorem dX4_solve_175 : decode cX4_solve 175 = .ok (.return_, 1) := by decide +kernel
theorem dX4_findMostMoves_0 : decode cX4_findMostMoves 0 = .ok (.aload_n 0, 1) := by decide +kernel
theorem dX4_findMostMoves_1 : decode cX4_findMostMoves 1 = .ok (.getfield 30, 3) := by decide +kernel
theorem dX4_findMostMoves_4 : decode cX4_findMostMoves 4 = .ok (.iconst 1, 1) := by decide +kernel
theorem dX4_findMostMoves_5 : decode cX4_findMostMoves 5 = .ok (.isub, 1) := by decide +kernel
theorem dX4_findMostMoves_6 : decode cX4_findMostMoves 6 = .ok (.istore_n 1, 1) := by decide +kernel
theorem dX4_findMostMoves_7 : decode cX4_findMostMoves 7 = .ok (.iload_n 1, 1) := by decide +kernel
theorem dX4_findMostMoves_8 : decode cX4_findMostMoves 8 = .ok (.ifCond .lt 98, 3) := by decide +kernel
theorem dX4_findMostMoves_11 : decode cX4_findMostMoves 11 = .ok (.iconst 0, 1) := by decide +kernel
theorem dX4_findMostMoves_12 : decode cX4_findMostMoves 12 = .ok (.istore_n 2, 1) := by decide +kernel
theorem dX4_findMostMoves_13 : decode cX4_findMostMoves 13 = .ok (.aload_n 0, 1) := by decide +kernel
theorem dX4_findMostMoves_14 : decode cX4_findMostMoves 14 = .ok (.getfield 26, 3) := by decide +kernel
theorem dX4_findMostMoves_17 : decode cX4_findMostMoves 17 = .ok (.aload_n 0, 1) := by decide +kernel
theorem dX4_findMostMoves_18 : decode cX4_findMostMoves 18 = .ok (.getfield 9, 3) := by decide +kernel
theorem dX4_findMostMoves_21 : decode cX4_findMostMoves 21 = .ok (.iload_n 1, 1) := by decide +kernel
theorem dX4_findMostMoves_22 : decode cX4_findMostMoves 22 = .ok (.laload, 1) := by decide +kernel
theorem dX4_findMostMoves_23 : decode cX4_findMostMoves 23 = .ok (.aload_n 0, 1) := by decide +kernel
theorem dX4_findMostMoves_24 : decode cX4_findMostMoves 24 = .ok (.getfield 34, 3) := by decide +kernel
theorem dX4_findMostMoves_27 : decode cX4_findMostMoves 27 = .ok (.invokevirtual 48, 3) := by decide +kernel
theorem dX4_findMostMoves_30 : decode cX4_findMostMoves 30 = .ok (.iconst 0, 1) := by decide +kernel
theorem dX4_findMostMoves_31 : decode cX4_findMostMoves 31 = .ok (.istore_n 3, 1) := by decide +kernel
theorem dX4_findMostMoves_32 : decode cX4_findMostMoves 32 = .ok (.iload_n 3, 1) := by decide +kernel
theorem dX4_findMostMoves_33 : decode cX4_findMostMoves 33 = .ok (.aload_n 0, 1) := by decide +kernel
theorem dX4_findMostMoves_34 : decode cX4_findMostMoves 34 = .ok (.getfield 26, 3) := by decide +kernel
theorem dX4_findMostMoves_37 : decode cX4_findMostMoves 37 = .ok (.getfield 54, 3) := by decide +kernel
theorem dX4_findMostMoves_40 : decode cX4_findMostMoves 40 = .ok (.if_icmp .ge 53, 3) := by decide +kernel
theorem dX4_findMostMoves_43 : decode cX4_findMostMoves 43 = .ok (.aload_n 0, 1) := by decide +kernel
theorem dX4_findMostMoves_44 : decode cX4_findMostMoves 44 = .ok (.aload_n 0, 1) := by decide +kernel
theorem dX4_findMostMoves_45 : decode cX4_findMostMoves 45 = .ok (.getfield 26, 3) := by decide +kernel
theorem dX4_findMostMoves_48 : decode cX4_findMostMoves 48 = .ok (.aload_n 0, 1) := by decide +kernel
theorem dX4_findMostMoves_49 : decode cX4_findMostMoves 49 = .ok (.getfield 9, 3) := by decide +kernel
theorem dX4_findMostMoves_52 : decode cX4_findMostMoves 52 = .ok (.iload_n 1, 1) := by decide +kernel
theorem dX4_findMostMoves_53 : decode cX4_findMostMoves 53 = .ok (.laload, 1) := by decide +kernel
theorem dX4_findMostMoves_54 : decode cX4_findMostMoves 54 = .ok (.aload_n 0, 1) := by decide +kernel
theorem dX4_findMostMoves_55 : decode cX4_findMostMoves 55 = .ok (.getfield 34, 3) := by decide +kernel
theorem dX4_findMostMoves_58 : decode cX4_findMostMoves 58 = .ok (.iload_n 3, 1) := by decide +kernel
theorem dX4_findMostMoves_59 : decode cX4_findMostMoves 59 = .ok (.invokevirtual 55, 3) := by decide +kernel
theorem dX4_findMostMoves_62 : decode cX4_findMostMoves 62 = .ok (.invokevirtual 76, 3) := by decide +kernel
theorem dX4_findMostMoves_65 : decode cX4_findMostMoves 65 = .ok (.istore 4, 2) := by decide +kernel
theorem dX4_findMostMoves_67 : decode cX4_findMostMoves 67 = .ok (.iload 4, 2) := by decide +kernel
theorem dX4_findMostMoves_69 : decode cX4_findMostMoves 69 = .ok (.iconst (-1), 1) := by decide +kernel
theorem dX4_findMostMoves_70 : decode cX4_findMostMoves 70 = .ok (.if_icmp .eq 17, 3) := by decide +kernel
theorem dX4_findMostMoves_73 : decode cX4_findMostMoves 73 = .ok (.iload_n 2, 1) := by decide +kernel
theorem dX4_findMostMoves_74 : decode cX4_findMostMoves 74 = .ok (.aload_n 0, 1) := by decide +kernel
theorem dX4_findMostMoves_75 : decode cX4_findMostMoves 75 = .ok (.getfield 19, 3) := by decide +kernel
theorem dX4_findMostMoves_78 : decode cX4_findMostMoves 78 = .ok (.iload 4, 2) := by decide +kernel
theorem dX4_findMostMoves_80 : decode cX4_findMostMoves 80 = .ok (.iaload, 1) := by decide +kernel
theorem dX4_findMostMoves_81 : decode cX4_findMostMoves 81 = .ok (.iconst 1, 1) := by decide +kernel
theorem dX4_findMostMoves_82 : decode cX4_findMostMoves 82 = .ok (.iadd, 1) := by decide +kernel
theorem dX4_findMostMoves_83 : decode cX4_findMostMoves 83 = .ok (.invokestatic 79, 3) := by decide +kernel
theorem dX4_findMostMoves_86 : decode cX4_findMostMoves 86 = .ok (.istore_n 2, 1) := by decide +kernel
theorem dX4_findMostMoves_87 : decode cX4_findMostMoves 87 = .ok (.iinc 3 1, 3) := by decide +kernel
theorem dX4_findMostMoves_90 : decode cX4_findMostMoves 90 = .ok (.goto (-58), 3) := by decide +kernel
theorem dX4_findMostMoves_93 : decode cX4_findMostMoves 93 = .ok (.aload_n 0, 1) := by decide +kernel
theorem dX4_findMostMoves_94 : decode cX4_findMostMoves 94 = .ok (.getfield 19, 3) := by decide +kernel
theorem dX4_findMostMoves_97 : decode cX4_findMostMoves 97 = .ok (.iload_n 1, 1) := by decide +kernel
theorem dX4_findMostMoves_98 : decode cX4_findMostMoves 98 = .ok (.iload_n 2, 1) := by decide +kernel
theorem dX4_findMostMoves_99 : decode cX4_findMostMoves 99 = .ok (.iastore, 1) := by decide +kernel
theorem dX4_findMostMoves_100 : decode cX4_findMostMoves 100 = .ok (.iinc 1 (-1), 3) := by decide +kernel
theorem dX4_findMostMoves_103 : decode cX4_findMostMoves 103 = .ok (.goto (-96), 3) := by decide +kernel
theorem dX4_findMostMoves_106 : decode cX4_findMostMoves 106 = .ok (.aload_n 0, 1) := by decide +kernel
theorem dX4_findMostMoves_107 : decode cX4_findMostMoves 107 = .ok (.getfield 19, 3) := by decide +kernel
theorem dX4_findMostMoves_110 : decode cX4_findMostMoves 110 = .ok (.iconst 0, 1) := by decide +kernel
theorem dX4_findMostMoves_111 : decode cX4_findMostMoves 111 = .ok (.iaload, 1) := by decide +kernel
theorem dX4_findMostMoves_112 : decode cX4_findMostMoves 112 = .ok (.ireturn, 1) := by decide +kernel
theorem dX4_contentsOf_0 : decode cX4_contentsOf 0 = .ok (.aload_n 0, 1) := by decide +kernel
theorem dX4_contentsOf_1 : decode cX4_contentsOf 1 = .ok (.getfield 9, 3) := by decide +kernel
theorem dX4_contentsOf_4 : decode cX4_contentsOf 4 = .ok (.iload_n 1, 1) := by decide +kernel
theorem dX4_contentsOf_5 : decode cX4_contentsOf 5 = .ok (.laload, 1) := by decide +kernel
theorem dX4_contentsOf_6 : decode cX4_contentsOf 6 = .ok (.lreturn, 1) := by decide +kernel
theorem dX4_isWon_0 : decode cX4_isWon 0 = .ok (.aload_n 0, 1) := by decide +kernel
theorem dX4_isWon_1 : decode cX4_isWon 1 = .ok (.getfield 15, 3) := by decide +kernel
theorem dX4_isWon_4 : decode cX4_isWon 4 = .ok (.iload_n 1, 1) := by decide +kernel
theorem dX4_isWon_5 : decode cX4_isWon 5 = .ok (.baload, 1) := by decide +kernel
theorem dX4_isWon_6 : decode cX4_isWon 6 = .ok (.ireturn, 1) := by decide +kernel
theorem dX4_restOf_0 : decode cX4_restOf 0 = .ok (.aload_n 0, 1) := by decide +kernel
theorem dX4_restOf_1 : decode cX4_restOf 1 = .ok (.getfield 19, 3) := by decide +kernel
theorem dX4_restOf_4 : decode cX4_restOf 4 = .ok (.iload_n 1, 1) := by decide +kernel
theorem dX4_restOf_5 : decode cX4_restOf 5 = .ok (.iaload, 1) := by decide +kernel
theorem dX4_restOf_6 : decode cX4_restOf 6 = .ok (.ireturn, 1) := by decide +kernel
theorem dX5_init_0 : decode cX5_init 0 = .ok (.aload_n 0, 1) := by decide +kernel
theorem dX5_init_1 : decode cX5_init 1 = .ok (.invokespecial 3, 3) := by decide +kernel
theorem dX5_init_4 : decode cX5_init 4 = .ok (.aload_n 0, 1) := by decide +kernel
theorem dX5_init_5 : decode cX5_init 5 = .ok (.bipush 15, 2) := by decide +kernel
theorem dX5_init_7 : decode cX5_init 7 = .ok (.newarray .int, 2) := by decide +kernel
theorem dX5_init_9 : decode cX5_init 9 = .ok (.putfield 9, 3) := by decide +kernel
theorem dX5_init_12 : decode cX5_init 12 = .ok (.return_, 1) := by decide +kernel
theorem dX5_has_0 : decode cX5_has 0 = .ok (.iload_n 1, 1) := by decide +kernel
theorem dX5_has_1 : decode cX5_has 1 = .ok (.ifCond .lt 15, 3) := by decide +kernel
theorem dX5_has_4 : decode cX5_has 4 = .ok (.iload_n 1, 1) := by decide +kernel
theorem dX5_has_5 : decode cX5_has 5 = .ok (.aload_n 0, 1) := by decide +kernel
theorem dX5_has_6 : decode cX5_has 6 = .ok (.getfield 15, 3) := by decide +kernel
theorem dX5_has_9 : decode cX5_has 9 = .ok (.if_icmp .ge 7, 3) := by decide +kernel
theorem dX5_has_12 : decode cX5_has 12 = .ok (.iconst 1, 1) := by decide +kernel
theorem dX5_has_13 : decode cX5_has 13 = .ok (.goto 4, 3) := by decide +kernel
theorem dX5_has_16 : decode cX5_has 16 = .ok (.iconst 0, 1) := by decide +kernel
theorem dX5_has_17 : decode cX5_has 17 = .ok (.ireturn, 1) := by decide +kernel
theorem dX5_divide_0 : decode cX5_divide 0 = .ok (.aload_n 0, 1) := by decide +kernel
theorem dX5_divide_1 : decode cX5_divide 1 = .ok (.iconst 0, 1) := by decide +kernel
theorem dX5_divide_2 : decode cX5_divide 2 = .ok (.putfield 15, 3) := by decide +kernel
theorem dX5_divide_5 : decode cX5_divide 5 = .ok (.iload_n 2, 1) := by decide +kernel
theorem dX5_divide_6 : decode cX5_divide 6 = .ok (.istore_n 3, 1) := by decide +kernel
theorem dX5_divide_7 : decode cX5_divide 7 = .ok (.iconst 0, 1) := by decide +kernel
theorem dX5_divide_8 : decode cX5_divide 8 = .ok (.istore 4, 2) := by decide +kernel
theorem dX5_divide_10 : decode cX5_divide 10 = .ok (.iload 4, 2) := by decide +kernel
theorem dX5_divide_12 : decode cX5_divide 12 = .ok (.aload_n 1, 1) := by decide +kernel
theorem dX5_divide_13 : decode cX5_divide 13 = .ok (.getfield 19, 3) := by decide +kernel
theorem dX5_divide_16 : decode cX5_divide 16 = .ok (.if_icmp .ge 67, 3) := by decide +kernel
theorem dX5_divide_19 : decode cX5_divide 19 = .ok (.aload_n 0, 1) := by decide +kernel
theorem dX5_divide_20 : decode cX5_divide 20 = .ok (.getfield 15, 3) := by decide +kernel
theorem dX5_divide_23 : decode cX5_divide 23 = .ok (.bipush 15, 2) := by decide +kernel
theorem dX5_divide_25 : decode cX5_divide 25 = .ok (.if_icmp .ge 58, 3) := by decide +kernel
theorem dX5_divide_28 : decode cX5_divide 28 = .ok (.iload_n 3, 1) := by decide +kernel
theorem dX5_divide_29 : decode cX5_divide 29 = .ok (.iload 4, 2) := by decide +kernel
theorem dX5_divide_31 : decode cX5_divide 31 = .ok (.ishr, 1) := by decide +kernel
theorem dX5_divide_32 : decode cX5_divide 32 = .ok (.iconst 1, 1) := by decide +kernel
theorem dX5_divide_33 : decode cX5_divide 33 = .ok (.iand, 1) := by decide +kernel
theorem dX5_divide_34 : decode cX5_divide 34 = .ok (.ifCond .eq 43, 3) := by decide +kernel
theorem dX5_divide_37 : decode cX5_divide 37 = .ok (.aload_n 0, 1) := by decide +kernel
theorem dX5_divide_38 : decode cX5_divide 38 = .ok (.getfield 9, 3) := by decide +kernel
theorem dX5_divide_41 : decode cX5_divide 41 = .ok (.aload_n 0, 1) := by decide +kernel
theorem dX5_divide_42 : decode cX5_divide 42 = .ok (.getfield 15, 3) := by decide +kernel
theorem dX5_divide_45 : decode cX5_divide 45 = .ok (.aload_n 1, 1) := by decide +kernel
theorem dX5_divide_46 : decode cX5_divide 46 = .ok (.iload 4, 2) := by decide +kernel
theorem dX5_divide_48 : decode cX5_divide 48 = .ok (.iload_n 2, 1) := by decide +kernel
theorem dX5_divide_49 : decode cX5_divide 49 = .ok (.invokestatic 24, 3) := by decide +kernel
theorem dX5_divide_52 : decode cX5_divide 52 = .ok (.iastore, 1) := by decide +kernel
theorem dX5_divide_53 : decode cX5_divide 53 = .ok (.iload_n 3, 1) := by decide +kernel
theorem dX5_divide_54 : decode cX5_divide 54 = .ok (.aload_n 0, 1) := by decide +kernel
theorem dX5_divide_55 : decode cX5_divide 55 = .ok (.getfield 9, 3) := by decide +kernel
theorem dX5_divide_58 : decode cX5_divide 58 = .ok (.aload_n 0, 1) := by decide +kernel
theorem dX5_divide_59 : decode cX5_divide 59 = .ok (.getfield 15, 3) := by decide +kernel
theorem dX5_divide_62 : decode cX5_divide 62 = .ok (.iaload, 1) := by decide +kernel
theorem dX5_divide_63 : decode cX5_divide 63 = .ok (.iconst (-1), 1) := by decide +kernel
theorem dX5_divide_64 : decode cX5_divide 64 = .ok (.ixor, 1) := by decide +kernel
theorem dX5_divide_65 : decode cX5_divide 65 = .ok (.iand, 1) := by decide +kernel
theorem dX5_divide_66 : decode cX5_divide 66 = .ok (.istore_n 3, 1) := by decide +kernel
theorem dX5_divide_67 : decode cX5_divide 67 = .ok (.aload_n 0, 1) := by decide +kernel
theorem dX5_divide_68 : decode cX5_divide 68 = .ok (.dup, 1) := by decide +kernel
theorem dX5_divide_69 : decode cX5_divide 69 = .ok (.getfield 15, 3) := by decide +kernel
theorem dX5_divide_72 : decode cX5_divide 72 = .ok (.iconst 1, 1) := by decide +kernel
theorem dX5_divide_73 : decode cX5_divide 73 = .ok (.iadd, 1) := by decide +kernel
theorem dX5_divide_74 : decode cX5_divide 74 = .ok (.putfield 15, 3) := by decide +kernel
theorem dX5_divide_77 : decode cX5_divide 77 = .ok (.iinc 4 1, 3) := by decide +kernel
theorem dX5_divide_80 : decode cX5_divide 80 = .ok (.goto (-70), 3) := by decide +kernel
theorem dX5_divide_83 : decode cX5_divide 83 = .ok (.return_, 1) := by decide +kernel
theorem dX5_spread_0 : decode cX5_spread 0 = .ok (.iconst 1, 1) := by decide +kernel
theorem dX5_spread_1 : decode cX5_spread 1 = .ok (.iload_n 1, 1) := by decide +kernel
theorem dX5_spread_2 : decode cX5_spread 2 = .ok (.ishl, 1) := by decide +kernel
theorem dX5_spread_3 : decode cX5_spread 3 = .ok (.istore_n 3, 1) := by decide +kernel
theorem dX5_spread_4 : decode cX5_spread 4 = .ok (.iconst 0, 1) := by decide +kernel
theorem dX5_spread_5 : decode cX5_spread 5 = .ok (.istore 4, 2) := by decide +kernel
theorem dX5_spread_7 : decode cX5_spread 7 = .ok (.iload 4, 2) := by decide +kernel
theorem dX5_spread_9 : decode cX5_spread 9 = .ok (.bipush 15, 2) := by decide +kernel
theorem dX5_spread_11 : decode cX5_spread 11 = .ok (.if_icmp .ge 59, 3) := by decide +kernel
theorem dX5_spread_14 : decode cX5_spread 14 = .ok (.iload_n 3, 1) := by decide +kernel
theorem dX5_spread_15 : decode cX5_spread 15 = .ok (.istore 5, 2) := by decide +kernel
theorem dX5_spread_17 : decode cX5_spread 17 = .ok (.iconst 0, 1) := by decide +kernel
theorem dX5_spread_18 : decode cX5_spread 18 = .ok (.istore 6, 2) := by decide +kernel
theorem dX5_spread_20 : decode cX5_spread 20 = .ok (.iload 6, 2) := by decide +kernel
theorem dX5_spread_22 : decode cX5_spread 22 = .ok (.aload_n 0, 1) := by decide +kernel
theorem dX5_spread_23 : decode cX5_spread 23 = .ok (.getfield 19, 3) := by decide +kernel
theorem dX5_spread_26 : decode cX5_spread 26 = .ok (.if_icmp .ge 29, 3) := by decide +kernel
theorem dX5_spread_29 : decode cX5_spread 29 = .ok (.iload_n 3, 1) := by decide +kernel
theorem dX5_spread_30 : decode cX5_spread 30 = .ok (.iload 6, 2) := by decide +kernel
theorem dX5_spread_32 : decode cX5_spread 32 = .ok (.ishr, 1) := by decide +kernel
theorem dX5_spread_33 : decode cX5_spread 33 = .ok (.iconst 1, 1) := by decide +kernel
theorem dX5_spread_34 : decode cX5_spread 34 = .ok (.iand, 1) := by decide +kernel
theorem dX5_spread_35 : decode cX5_spread 35 = .ok (.ifCond .eq 14, 3) := by decide +kernel
theorem dX5_spread_38 : decode cX5_spread 38 = .ok (.iload_n 3, 1) := by decide +kernel
theorem dX5_spread_39 : decode cX5_spread 39 = .ok (.aload_n 0, 1) := by decide +kernel
theorem dX5_spread_40 : decode cX5_spread 40 = .ok (.iload 6, 2) := by decide +kernel
theorem dX5_spread_42 : decode cX5_spread 42 = .ok (.invokevirtual 28, 3) := by decide +kernel
theorem dX5_spread_45 : decode cX5_spread 45 = .ok (.iload_n 2, 1) := by decide +kernel
theorem dX5_spread_46 : decode cX5_spread 46 = .ok (.iand, 1) := by decide +kernel
theorem dX5_spread_47 : decode cX5_spread 47 = .ok (.ior, 1) := by decide +kernel
theorem dX5_spread_48 : decode cX5_spread 48 = .ok (.istore_n 3, 1) := by decide +kernel
theorem dX5_spread_49 : decode cX5_spread 49 = .ok (.iinc 6 1, 3) := by decide +kernel
theorem dX5_spread_52 : decode cX5_spread 52 = .ok (.goto (-32), 3) := by decide +kernel
theorem dX5_spread_55 : decode cX5_spread 55 = .ok (.iload_n 3, 1) := by decide +kernel
theorem dX5_spread_56 : decode cX5_spread 56 = .ok (.iload 5, 2) := by decide +kernel
theorem dX5_spread_58 : decode cX5_spread 58 = .ok (.if_icmp .ne 6, 3) := by decide +kernel
theorem dX5_spread_61 : decode cX5_spread 61 = .ok (.goto 9, 3) := by decide +kernel
theorem dX5_spread_64 : decode cX5_spread 64 = .ok (.iinc 4 1, 3) := by decide +kernel
theorem dX5_spread_67 : decode cX5_spread 67 = .ok (.goto (-60), 3) := by decide +kernel
theorem dX5_spread_70 : decode cX5_spread 70 = .ok (.iload_n 3, 1) := by decide +kernel
theorem dX5_spread_71 : decode cX5_spread 71 = .ok (.ireturn, 1) := by decide +kernel
theorem dX6_init_0 : decode cX6_init 0 = .ok (.aload_n 0, 1) := by decide +kernel
theorem dX6_init_1 : decode cX6_init 1 = .ok (.invokespecial 3, 3) := by decide +kernel
theorem dX6_init_4 : decode cX6_init 4 = .ok (.aload_n 0, 1) := by decide +kernel
theorem dX6_init_5 : decode cX6_init 5 = .ok (.bipush 60, 2) := by decide +kernel
theorem dX6_init_7 : decode cX6_init 7 = .ok (.newarray .char, 2) := by decide +kernel
theorem dX6_init_9 : decode cX6_init 9 = .ok (.putfield 9, 3) := by decide +kernel
theorem dX6_init_12 : decode cX6_init 12 = .ok (.aload_n 0, 1) := by decide +kernel
theorem dX6_init_13 : decode cX6_init 13 = .ok (.iconst 4, 1) := by decide +kernel
theorem dX6_init_14 : decode cX6_init 14 = .ok (.newarray .int, 2) := by decide +kernel
theorem dX6_init_16 : decode cX6_init 16 = .ok (.putfield 15, 3) := by decide +kernel
theorem dX6_init_19 : decode cX6_init 19 = .ok (.return_, 1) := by decide +kernel
theorem dX6_append_0 : decode cX6_append 0 = .ok (.aload_n 0, 1) := by decide +kernel
theorem dX6_append_1 : decode cX6_append 1 = .ok (.getfield 19, 3) := by decide +kernel
theorem dX6_append_4 : decode cX6_append 4 = .ok (.bipush 60, 2) := by decide +kernel
theorem dX6_append_6 : decode cX6_append 6 = .ok (.if_icmp .lt 5, 3) := by decide +kernel
theorem dX6_append_9 : decode cX6_append 9 = .ok (.iconst 0, 1) := by decide +kernel
theorem dX6_append_10 : decode cX6_append 10 = .ok (.ireturn, 1) := by decide +kernel
theorem dX6_append_11 : decode cX6_append 11 = .ok (.aload_n 0, 1) := by decide +kernel
theorem dX6_append_12 : decode cX6_append 12 = .ok (.getfield 9, 3) := by decide +kernel
theorem dX6_append_15 : decode cX6_append 15 = .ok (.aload_n 0, 1) := by decide +kernel
theorem dX6_append_16 : decode cX6_append 16 = .ok (.getfield 19, 3) := by decide +kernel
theorem dX6_append_19 : decode cX6_append 19 = .ok (.iload_n 1, 1) := by decide +kernel
theorem dX6_append_20 : decode cX6_append 20 = .ok (.castore, 1) := by decide +kernel
theorem dX6_append_21 : decode cX6_append 21 = .ok (.aload_n 0, 1) := by decide +kernel
theorem dX6_append_22 : decode cX6_append 22 = .ok (.dup, 1) := by decide +kernel
theorem dX6_append_23 : decode cX6_append 23 = .ok (.getfield 19, 3) := by decide +kernel
theorem dX6_append_26 : decode cX6_append 26 = .ok (.iconst 1, 1) := by decide +kernel
theorem dX6_append_27 : decode cX6_append 27 = .ok (.iadd, 1) := by decide +kernel
theorem dX6_append_28 : decode cX6_append 28 = .ok (.putfield 19, 3) := by decide +kernel
theorem dX6_append_31 : decode cX6_append 31 = .ok (.iconst 1, 1) := by decide +kernel
theorem dX6_append_32 : decode cX6_append 32 = .ok (.ireturn, 1) := by decide +kernel
theorem dX6_findFault_0 : decode cX6_findFault 0 = .ok (.iconst 0, 1) := by decide +kernel
theorem dX6_findFault_1 : decode cX6_findFault 1 = .ok (.istore_n 1, 1) := by decide +kernel
theorem dX6_findFault_2 : decode cX6_findFault 2 = .ok (.iconst 0, 1) := by decide +kernel
theorem dX6_findFault_3 : decode cX6_findFault 3 = .ok (.istore_n 2, 1) := by decide +kernel
theorem dX6_findFault_4 : decode cX6_findFault 4 = .ok (.iload_n 2, 1) := by decide +kernel
theorem dX6_findFault_5 : decode cX6_findFault 5 = .ok (.bipush 60, 2) := by decide +kernel
theorem dX6_findFault_7 : decode cX6_findFault 7 = .ok (.if_icmp .ge 32, 3) := by decide +kernel
theorem dX6_findFault_10 : decode cX6_findFault 10 = .ok (.iload_n 1, 1) := by decide +kernel
theorem dX6_findFault_11 : decode cX6_findFault 11 = .ok (.aload_n 0, 1) := by decide +kernel
theorem dX6_findFault_12 : decode cX6_findFault 12 = .ok (.getfield 19, 3) := by decide +kernel
theorem dX6_findFault_15 : decode cX6_findFault 15 = .ok (.if_icmp .ge 24, 3) := by decide +kernel
theorem dX6_findFault_18 : decode cX6_findFault 18 = .ok (.aload_n 0, 1) := by decide +kernel
theorem dX6_findFault_19 : decode cX6_findFault 19 = .ok (.iload_n 1, 1) := by decide +kernel
theorem dX6_findFault_20 : decode cX6_findFault 20 = .ok (.invokevirtual 23, 3) := by decide +kernel
theorem dX6_findFault_23 : decode cX6_findFault 23 = .ok (.istore_n 3, 1) := by decide +kernel
theorem dX6_findFault_24 : decode cX6_findFault 24 = .ok (.iload_n 3, 1) := by decide +kernel
theorem dX6_findFault_25 : decode cX6_findFault 25 = .ok (.iconst (-1), 1) := by decide +kernel
theorem dX6_findFault_26 : decode cX6_findFault 26 = .ok (.if_icmp .ne 5, 3) := by decide +kernel
theorem dX6_findFault_29 : decode cX6_findFault 29 = .ok (.iload_n 1, 1) := by decide +kernel
theorem dX6_findFault_30 : decode cX6_findFault 30 = .ok (.ireturn, 1) := by decide +kernel
theorem dX6_findFault_31 : decode cX6_findFault 31 = .ok (.iload_n 3, 1) := by decide +kernel
theorem dX6_findFault_32 : decode cX6_findFault 32 = .ok (.istore_n 1, 1) := by decide +kernel
theorem dX6_findFault_33 : decode cX6_findFault 33 = .ok (.iinc 2 1, 3) := by decide +kernel
theorem dX6_findFault_36 : decode cX6_findFault 36 = .ok (.goto (-32), 3) := by decide +kernel
theorem dX6_findFault_39 : decode cX6_findFault 39 = .ok (.iconst (-1), 1) := by decide +kernel
theorem dX6_findFault_40 : decode cX6_findFault 40 = .ok (.ireturn, 1) := by decide +kernel
theorem dX6_readCommand_0 : decode cX6_readCommand 0 = .ok (.aload_n 0, 1) := by decide +kernel
theorem dX6_readCommand_1 : decode cX6_readCommand 1 = .ok (.aload_n 0, 1) := by decide +kernel
theorem dX6_readCommand_2 : decode cX6_readCommand 2 = .ok (.iload_n 1, 1) := by decide +kernel
theorem dX6_readCommand_3 : decode cX6_readCommand 3 = .ok (.invokevirtual 27, 3) := by decide +kernel
theorem dX6_readCommand_6 : decode cX6_readCommand 6 = .ok (.putfield 30, 3) := by decide +kernel
theorem dX6_readCommand_9 : decode cX6_readCommand 9 = .ok (.aload_n 0, 1) := by decide +kernel
theorem dX6_readCommand_10 : decode cX6_readCommand 10 = .ok (.getfield 30, 3) := by decide +kernel
theorem dX6_readCommand_13 : decode cX6_readCommand 13 = .ok (.iconst (-1), 1) := by decide +kernel
theorem dX6_readCommand_14 : decode cX6_readCommand 14 = .ok (.if_icmp .ne 5, 3) := by decide +kernel
theorem dX6_readCommand_17 : decode cX6_readCommand 17 = .ok (.iconst (-1), 1) := by decide +kernel
theorem dX6_readCommand_18 : decode cX6_readCommand 18 = .ok (.ireturn, 1) := by decide +kernel
theorem dX6_readCommand_19 : decode cX6_readCommand 19 = .ok (.iload_n 1, 1) := by decide +kernel
theorem dX6_readCommand_20 : decode cX6_readCommand 20 = .ok (.aload_n 0, 1) := by decide +kernel
theorem dX6_readCommand_21 : decode cX6_readCommand 21 = .ok (.getfield 30, 3) := by decide +kernel
theorem dX6_readCommand_24 : decode cX6_readCommand 24 = .ok (.invokestatic 33, 3) := by decide +kernel
theorem dX6_readCommand_27 : decode cX6_readCommand 27 = .ok (.invokevirtual 37, 3) := by decide +kernel
theorem dX6_readCommand_30 : decode cX6_readCommand 30 = .ok (.iadd, 1) := by decide +kernel
theorem dX6_readCommand_31 : decode cX6_readCommand 31 = .ok (.istore_n 2, 1) := by decide +kernel
theorem dX6_readCommand_32 : decode cX6_readCommand 32 = .ok (.iconst 0, 1) := by decide +kernel
theorem dX6_readCommand_33 : decode cX6_readCommand 33 = .ok (.istore_n 3, 1) := by decide +kernel
theorem dX6_readCommand_34 : decode cX6_readCommand 34 = .ok (.iload_n 3, 1) := by decide +kernel
theorem dX6_readCommand_35 : decode cX6_readCommand 35 = .ok (.aload_n 0, 1) := by decide +kernel
theorem dX6_readCommand_36 : decode cX6_readCommand 36 = .ok (.getfield 30, 3) := by decide +kernel
theorem dX6_readCommand_39 : decode cX6_readCommand 39 = .ok (.invokestatic 43, 3) := by decide +kernel
theorem dX6_readCommand_42 : decode cX6_readCommand 42 = .ok (.if_icmp .ge 23, 3) := by decide +kernel
theorem dX6_readCommand_45 : decode cX6_readCommand 45 = .ok (.aload_n 0, 1) := by decide +kernel
theorem dX6_readCommand_46 : decode cX6_readCommand 46 = .ok (.iload_n 2, 1) := by decide +kernel
theorem dX6_readCommand_47 : decode cX6_readCommand 47 = .ok (.iload_n 3, 1) := by decide +kernel
theorem dX6_readCommand_48 : decode cX6_readCommand 48 = .ok (.invokevirtual 46, 3) := by decide +kernel
theorem dX6_readCommand_51 : decode cX6_readCommand 51 = .ok (.istore_n 2, 1) := by decide +kernel
theorem dX6_readCommand_52 : decode cX6_readCommand 52 = .ok (.iload_n 2, 1) := by decide +kernel
theorem dX6_readCommand_53 : decode cX6_readCommand 53 = .ok (.iconst (-1), 1) := by decide +kernel
theorem dX6_readCommand_54 : decode cX6_readCommand 54 = .ok (.if_icmp .ne 5, 3) := by decide +kernel
theorem dX6_readCommand_57 : decode cX6_readCommand 57 = .ok (.iconst (-1), 1) := by decide +kernel
theorem dX6_readCommand_58 : decode cX6_readCommand 58 = .ok (.ireturn, 1) := by decide +kernel
theorem dX6_readCommand_59 : decode cX6_readCommand 59 = .ok (.iinc 3 1, 3) := by decide +kernel
theorem dX6_readCommand_62 : decode cX6_readCommand 62 = .ok (.goto (-28), 3) := by decide +kernel
theorem dX6_readCommand_65 : decode cX6_readCommand 65 = .ok (.aload_n 0, 1) := by decide +kernel
theorem dX6_readCommand_66 : decode cX6_readCommand 66 = .ok (.iload_n 2, 1) := by decide +kernel
theorem dX6_readCommand_67 : decode cX6_readCommand 67 = .ok (.bipush 59, 2) := by decide +kernel
theorem dX6_readCommand_69 : decode cX6_readCommand 69 = .ok (.invokevirtual 50, 3) := by decide +kernel
theorem dX6_readCommand_72 : decode cX6_readCommand 72 = .ok (.ifCond .eq 9, 3) := by decide +kernel
theorem dX6_readCommand_75 : decode cX6_readCommand 75 = .ok (.iload_n 2, 1) := by decide +kernel
theorem dX6_readCommand_76 : decode cX6_readCommand 76 = .ok (.iconst 1, 1) := by decide +kernel
theorem dX6_readCommand_77 : decode cX6_readCommand 77 = .ok (.iadd, 1) := by decide +kernel
theorem dX6_readCommand_78 : decode cX6_readCommand 78 = .ok (.goto 4, 3) := by decide +kernel
theorem dX6_readCommand_81 : decode cX6_readCommand 81 = .ok (.iconst (-1), 1) := by decide +kernel
theorem dX6_readCommand_82 : decode cX6_readCommand 82 = .ok (.ireturn, 1) := by decide +kernel
theorem dX6_findWord_0 : decode cX6_findWord 0 = .ok (.iconst 0, 1) := by decide +kernel
theorem dX6_findWord_1 : decode cX6_findWord 1 = .ok (.istore_n 2, 1) := by decide +kernel
theorem dX6_findWord_2 : decode cX6_findWord 2 = .ok (.iload_n 2, 1) := by decide +kernel
theorem dX6_findWord_3 : decode cX6_findWord 3 = .ok (.bipush 6, 2) := by decide +kernel
theorem dX6_findWord_5 : decode cX6_findWord 5 = .ok (.if_icmp .ge 23, 3) := by decide +kernel
theorem dX6_findWord_8 : decode cX6_findWord 8 = .ok (.aload_n 0, 1) := by decide +kernel
theorem dX6_findWord_9 : decode cX6_findWord 9 = .ok (.iload_n 1, 1) := by decide +kernel
theorem dX6_findWord_10 : decode cX6_findWord 10 = .ok (.iload_n 2, 1) := by decide +kernel
theorem dX6_findWord_11 : decode cX6_findWord 11 = .ok (.invokestatic 33, 3) := by decide +kernel
theorem dX6_findWord_14 : decode cX6_findWord 14 = .ok (.invokevirtual 54, 3) := by decide +kernel
theorem dX6_findWord_17 : decode cX6_findWord 17 = .ok (.ifCond .eq 5, 3) := by decide +kernel
theorem dX6_findWord_20 : decode cX6_findWord 20 = .ok (.iload_n 2, 1) := by decide +kernel
theorem dX6_findWord_21 : decode cX6_findWord 21 = .ok (.ireturn, 1) := by decide +kernel
theorem dX6_findWord_22 : decode cX6_findWord 22 = .ok (.iinc 2 1, 3) := by decide +kernel
theorem dX6_findWord_25 : decode cX6_findWord 25 = .ok (.goto (-23), 3) := by decide +kernel
theorem dX6_findWord_28 : decode cX6_findWord 28 = .ok (.iconst (-1), 1) := by decide +kernel
theorem dX6_findWord_29 : decode cX6_findWord 29 = .ok (.ireturn, 1) := by decide +kernel
theorem dX6_hasText_0 : decode cX6_hasText 0 = .ok (.iconst 0, 1) := by decide +kernel
theorem dX6_hasText_1 : decode cX6_hasText 1 = .ok (.istore_n 3, 1) := by decide +kernel
theorem dX6_hasText_2 : decode cX6_hasText 2 = .ok (.iload_n 3, 1) := by decide +kernel
theorem dX6_hasText_3 : decode cX6_hasText 3 = .ok (.aload_n 2, 1) := by decide +kernel
theorem dX6_hasText_4 : decode cX6_hasText 4 = .ok (.invokevirtual 37, 3) := by decide +kernel
theorem dX6_hasText_7 : decode cX6_hasText 7 = .ok (.if_icmp .ge 26, 3) := by decide +kernel
theorem dX6_hasText_10 : decode cX6_hasText 10 = .ok (.aload_n 0, 1) := by decide +kernel
theorem dX6_hasText_11 : decode cX6_hasText 11 = .ok (.iload_n 1, 1) := by decide +kernel
theorem dX6_hasText_12 : decode cX6_hasText 12 = .ok (.iload_n 3, 1) := by decide +kernel
theorem dX6_hasText_13 : decode cX6_hasText 13 = .ok (.iadd, 1) := by decide +kernel
theorem dX6_hasText_14 : decode cX6_hasText 14 = .ok (.aload_n 2, 1) := by decide +kernel
theorem dX6_hasText_15 : decode cX6_hasText 15 = .ok (.iload_n 3, 1) := by decide +kernel
theorem dX6_hasText_16 : decode cX6_hasText 16 = .ok (.invokevirtual 58, 3) := by decide +kernel
theorem dX6_hasText_19 : decode cX6_hasText 19 = .ok (.invokevirtual 50, 3) := by decide +kernel
theorem dX6_hasText_22 : decode cX6_hasText 22 = .ok (.ifCond .ne 5, 3) := by decide +kernel
theorem dX6_hasText_25 : decode cX6_hasText 25 = .ok (.iconst 0, 1) := by decide +kernel
theorem dX6_hasText_26 : decode cX6_hasText 26 = .ok (.ireturn, 1) := by decide +kernel
theorem dX6_hasText_27 : decode cX6_hasText 27 = .ok (.iinc 3 1, 3) := by decide +kernel
theorem dX6_hasText_30 : decode cX6_hasText 30 = .ok (.goto (-28), 3) := by decide +kernel
theorem dX6_hasText_33 : decode cX6_hasText 33 = .ok (.iconst 1, 1) := by decide +kernel
theorem dX6_hasText_34 : decode cX6_hasText 34 = .ok (.ireturn, 1) := by decide +kernel
theorem dX6_hasSign_0 : decode cX6_hasSign 0 = .ok (.iload_n 1, 1) := by decide +kernel
theorem dX6_hasSign_1 : decode cX6_hasSign 1 = .ok (.ifCond .lt 25, 3) := by decide +kernel
theorem dX6_hasSign_4 : decode cX6_hasSign 4 = .ok (.iload_n 1, 1) := by decide +kernel
theorem dX6_hasSign_5 : decode cX6_hasSign 5 = .ok (.aload_n 0, 1) := by decide +kernel
theorem dX6_hasSign_6 : decode cX6_hasSign 6 = .ok (.getfield 19, 3) := by decide +kernel
theorem dX6_hasSign_9 : decode cX6_hasSign 9 = .ok (.if_icmp .ge 17, 3) := by decide +kernel
theorem dX6_hasSign_12 : decode cX6_hasSign 12 = .ok (.aload_n 0, 1) := by decide +kernel
theorem dX6_hasSign_13 : decode cX6_hasSign 13 = .ok (.getfield 9, 3) := by decide +kernel
theorem dX6_hasSign_16 : decode cX6_hasSign 16 = .ok (.iload_n 1, 1) := by decide +kernel
theorem dX6_hasSign_17 : decode cX6_hasSign 17 = .ok (.caload, 1) := by decide +kernel
theorem dX6_hasSign_18 : decode cX6_hasSign 18 = .ok (.iload_n 2, 1) := by decide +kernel
theorem dX6_hasSign_19 : decode cX6_hasSign 19 = .ok (.if_icmp .ne 7, 3) := by decide +kernel
theorem dX6_hasSign_22 : decode cX6_hasSign 22 = .ok (.iconst 1, 1) := by decide +kernel
theorem dX6_hasSign_23 : decode cX6_hasSign 23 = .ok (.goto 4, 3) := by decide +kernel
theorem dX6_hasSign_26 : decode cX6_hasSign 26 = .ok (.iconst 0, 1) := by decide +kernel
theorem dX6_hasSign_27 : decode cX6_hasSign 27 = .ok (.ireturn, 1) := by decide +kernel
theorem dX6_readNumber_0 : decode cX6_readNumber 0 = .ok (.aload_n 0, 1) := by decide +kernel
theorem dX6_readNumber_1 : decode cX6_readNumber 1 = .ok (.iload_n 1, 1) := by decide +kernel
theorem dX6_readNumber_2 : decode cX6_readNumber 2 = .ok (.bipush 32, 2) := by decide +kernel
theorem dX6_readNumber_4 : decode cX6_readNumber 4 = .ok (.invokevirtual 50, 3) := by decide +kernel
theorem dX6_readNumber_7 : decode cX6_readNumber 7 = .ok (.ifCond .eq 13, 3) := by decide +kernel
theorem dX6_readNumber_10 : decode cX6_readNumber 10 = .ok (.aload_n 0, 1) := by decide +kernel
theorem dX6_readNumber_11 : decode cX6_readNumber 11 = .ok (.iload_n 1, 1) := by decide +kernel
theorem dX6_readNumber_12 : decode cX6_readNumber 12 = .ok (.iconst 1, 1) := by decide +kernel
theorem dX6_readNumber_13 : decode cX6_readNumber 13 = .ok (.iadd, 1) := by decide +kernel
theorem dX6_readNumber_14 : decode cX6_readNumber 14 = .ok (.invokevirtual 62, 3) := by decide +kernel
theorem dX6_readNumber_17 : decode cX6_readNumber 17 = .ok (.ifCond .ne 5, 3) := by decide +kernel
theorem dX6_readNumber_20 : decode cX6_readNumber 20 = .ok (.iconst (-1), 1) := by decide +kernel
theorem dX6_readNumber_21 : decode cX6_readNumber 21 = .ok (.ireturn, 1) := by decide +kernel
theorem dX6_readNumber_22 : decode cX6_readNumber 22 = .ok (.aload_n 0, 1) := by decide +kernel
theorem dX6_readNumber_23 : decode cX6_readNumber 23 = .ok (.getfield 9, 3) := by decide +kernel
theorem dX6_readNumber_26 : decode cX6_readNumber 26 = .ok (.iload_n 1, 1) := by decide +kernel
theorem dX6_readNumber_27 : decode cX6_readNumber 27 = .ok (.iconst 1, 1) := by decide +kernel
theorem dX6_readNumber_28 : decode cX6_readNumber 28 = .ok (.iadd, 1) := by decide +kernel
theorem dX6_readNumber_29 : decode cX6_readNumber 29 = .ok (.caload, 1) := by decide +kernel
theorem dX6_readNumber_30 : decode cX6_readNumber 30 = .ok (.bipush 48, 2) := by decide +kernel
theorem dX6_readNumber_32 : decode cX6_readNumber 32 = .ok (.isub, 1) := by decide +kernel
theorem dX6_readNumber_33 : decode cX6_readNumber 33 = .ok (.istore_n 3, 1) := by decide +kernel
theorem dX6_readNumber_34 : decode cX6_readNumber 34 = .ok (.iload_n 1, 1) := by decide +kernel
theorem dX6_readNumber_35 : decode cX6_readNumber 35 = .ok (.iconst 2, 1) := by decide +kernel
theorem dX6_readNumber_36 : decode cX6_readNumber 36 = .ok (.iadd, 1) := by decide +kernel
theorem dX6_readNumber_37 : decode cX6_readNumber 37 = .ok (.istore 4, 2) := by decide +kernel
theorem dX6_readNumber_39 : decode cX6_readNumber 39 = .ok (.aload_n 0, 1) := by decide +kernel
theorem dX6_readNumber_40 : decode cX6_readNumber 40 = .ok (.iload 4, 2) := by decide +kernel
theorem dX6_readNumber_42 : decode cX6_readNumber 42 = .ok (.invokevirtual 62, 3) := by decide +kernel
theorem dX6_readNumber_45 : decode cX6_readNumber 45 = .ok (.ifCond .eq 22, 3) := by decide +kernel
theorem dX6_readNumber_48 : decode cX6_readNumber 48 = .ok (.bipush 10, 2) := by decide +kernel
theorem dX6_readNumber_50 : decode cX6_readNumber 50 = .ok (.iload_n 3, 1) := by decide +kernel
theorem dX6_readNumber_51 : decode cX6_readNumber 51 = .ok (.imul, 1) := by decide +kernel
theorem dX6_readNumber_52 : decode cX6_readNumber 52 = .ok (.aload_n 0, 1) := by decide +kernel
theorem dX6_readNumber_53 : decode cX6_readNumber 53 = .ok (.getfield 9, 3) := by decide +kernel
theorem dX6_readNumber_56 : decode cX6_readNumber 56 = .ok (.iload 4, 2) := by decide +kernel
theorem dX6_readNumber_58 : decode cX6_readNumber 58 = .ok (.caload, 1) := by decide +kernel
theorem dX6_readNumber_59 : decode cX6_readNumber 59 = .ok (.iadd, 1) := by decide +kernel
theorem dX6_readNumber_60 : decode cX6_readNumber 60 = .ok (.bipush 48, 2) := by decide +kernel
theorem dX6_readNumber_62 : decode cX6_readNumber 62 = .ok (.isub, 1) := by decide +kernel
theorem dX6_readNumber_63 : decode cX6_readNumber 63 = .ok (.istore_n 3, 1) := by decide +kernel
theorem dX6_readNumber_64 : decode cX6_readNumber 64 = .ok (.iinc 4 1, 3) := by decide +kernel
theorem dX6_readNumber_67 : decode cX6_readNumber 67 = .ok (.aload_n 0, 1) := by decide +kernel
theorem dX6_readNumber_68 : decode cX6_readNumber 68 = .ok (.getfield 15, 3) := by decide +kernel
theorem dX6_readNumber_71 : decode cX6_readNumber 71 = .ok (.iload_n 2, 1) := by decide +kernel
theorem dX6_readNumber_72 : decode cX6_readNumber 72 = .ok (.iload_n 3, 1) := by decide +kernel
theorem dX6_readNumber_73 : decode cX6_readNumber 73 = .ok (.iastore, 1) := by decide +kernel
theorem dX6_readNumber_74 : decode cX6_readNumber 74 = .ok (.iload 4, 2) := by decide +kernel
theorem dX6_readNumber_76 : decode cX6_readNumber 76 = .ok (.ireturn, 1) := by decide +kernel
theorem dX6_hasDigit_0 : decode cX6_hasDigit 0 = .ok (.iload_n 1, 1) := by decide +kernel
theorem dX6_hasDigit_1 : decode cX6_hasDigit 1 = .ok (.ifCond .lt 37, 3) := by decide +kernel
theorem dX6_hasDigit_4 : decode cX6_hasDigit 4 = .ok (.iload_n 1, 1) := by decide +kernel
theorem dX6_hasDigit_5 : decode cX6_hasDigit 5 = .ok (.aload_n 0, 1) := by decide +kernel
theorem dX6_hasDigit_6 : decode cX6_hasDigit 6 = .ok (.getfield 19, 3) := by decide +kernel
theorem dX6_hasDigit_9 : decode cX6_hasDigit 9 = .ok (.if_icmp .ge 29, 3) := by decide +kernel
theorem dX6_hasDigit_12 : decode cX6_hasDigit 12 = .ok (.aload_n 0, 1) := by decide +kernel
theorem dX6_hasDigit_13 : decode cX6_hasDigit 13 = .ok (.getfield 9, 3) := by decide +kernel
theorem dX6_hasDigit_16 : decode cX6_hasDigit 16 = .ok (.iload_n 1, 1) := by decide +kernel
theorem dX6_hasDigit_17 : decode cX6_hasDigit 17 = .ok (.caload, 1) := by decide +kernel
theorem dX6_hasDigit_18 : decode cX6_hasDigit 18 = .ok (.bipush 48, 2) := by decide +kernel
theorem dX6_hasDigit_20 : decode cX6_hasDigit 20 = .ok (.if_icmp .lt 18, 3) := by decide +kernel
theorem dX6_hasDigit_23 : decode cX6_hasDigit 23 = .ok (.aload_n 0, 1) := by decide +kernel
theorem dX6_hasDigit_24 : decode cX6_hasDigit 24 = .ok (.getfield 9, 3) := by decide +kernel
theorem dX6_hasDigit_27 : decode cX6_hasDigit 27 = .ok (.iload_n 1, 1) := by decide +kernel
theorem dX6_hasDigit_28 : decode cX6_hasDigit 28 = .ok (.caload, 1) := by decide +kernel
theorem dX6_hasDigit_29 : decode cX6_hasDigit 29 = .ok (.bipush 57, 2) := by decide +kernel
theorem dX6_hasDigit_31 : decode cX6_hasDigit 31 = .ok (.if_icmp .gt 7, 3) := by decide +kernel
theorem dX6_hasDigit_34 : decode cX6_hasDigit 34 = .ok (.iconst 1, 1) := by decide +kernel
theorem dX6_hasDigit_35 : decode cX6_hasDigit 35 = .ok (.goto 4, 3) := by decide +kernel
theorem dX6_hasDigit_38 : decode cX6_hasDigit 38 = .ok (.iconst 0, 1) := by decide +kernel
theorem dX6_hasDigit_39 : decode cX6_hasDigit 39 = .ok (.ireturn, 1) := by decide +kernel
theorem dX6_textOf_0 : decode cX6_textOf 0 = .ok (.iload_n 0, 1) := by decide +kernel
theorem dX6_textOf_1 : decode cX6_textOf 1 = .ok (.tableswitch 50 0 4 #[35, 38, 41, 44, 47], 35) := by decide +kernel
theorem dX6_textOf_36 : decode cX6_textOf 36 = .ok (.ldc 66, 2) := by decide +kernel
theorem dX6_textOf_38 : decode cX6_textOf 38 = .ok (.areturn, 1) := by decide +kernel
theorem dX6_textOf_39 : decode cX6_textOf 39 = .ok (.ldc 68, 2) := by decide +kernel
theorem dX6_textOf_41 : decode cX6_textOf 41 = .ok (.areturn, 1) := by decide +kernel
theorem dX6_textOf_42 : decode cX6_textOf 42 = .ok (.ldc 70, 2) := by decide +kernel
theorem dX6_textOf_44 : decode cX6_textOf 44 = .ok (.areturn, 1) := by decide +kernel
theorem dX6_textOf_45 : decode cX6_textOf 45 = .ok (.ldc 72, 2) := by decide +kernel
theorem dX6_textOf_47 : decode cX6_textOf 47 = .ok (.areturn, 1) := by decide +kernel
theorem dX6_textOf_48 : decode cX6_textOf 48 = .ok (.ldc 74, 2) := by decide +kernel
theorem dX6_textOf_50 : decode cX6_textOf 50 = .ok (.areturn, 1) := by decide +kernel
theorem dX6_textOf_51 : decode cX6_textOf 51 = .ok (.ldc 76, 2) := by decide +kernel
theorem dX6_textOf_53 : decode cX6_textOf 53 = .ok (.areturn, 1) := by decide +kernel
theorem dX6_numbersOf_0 : decode cX6_numbersOf 0 = .ok (.iload_n 0, 1) := by decide +kernel
theorem dX6_numbersOf_1 : decode cX6_numbersOf 1 = .ok (.iconst 4, 1) := by decide +kernel
theorem dX6_numbersOf_2 : decode cX6_numbersOf 2 = .ok (.if_icmp .ne 5, 3) := by decide +kernel
theorem dX6_numbersOf_5 : decode cX6_numbersOf 5 = .ok (.iconst 4, 1) := by decide +kernel
theorem dX6_numbersOf_6 : decode cX6_numbersOf 6 = .ok (.ireturn, 1) := by decide +kernel
theorem dX6_numbersOf_7 : decode cX6_numbersOf 7 = .ok (.iload_n 0, 1) := by decide +kernel
theorem dX6_numbersOf_8 : decode cX6_numbersOf 8 = .ok (.iconst 5, 1) := by decide +kernel
theorem dX6_numbersOf_9 : decode cX6_numbersOf 9 = .ok (.if_icmp .ne 7, 3) := by decide +kernel
theorem dX6_numbersOf_12 : decode cX6_numbersOf 12 = .ok (.iconst 0, 1) := by decide +kernel
theorem dX6_numbersOf_13 : decode cX6_numbersOf 13 = .ok (.goto 4, 3) := by decide +kernel
theorem dX6_numbersOf_16 : decode cX6_numbersOf 16 = .ok (.iconst 1, 1) := by decide +kernel
theorem dX6_numbersOf_17 : decode cX6_numbersOf 17 = .ok (.ireturn, 1) := by decide +kernel
theorem dX7_init_0 : decode cX7_init 0 = .ok (.aload_n 0, 1) := by decide +kernel
theorem dX7_init_1 : decode cX7_init 1 = .ok (.invokespecial 3, 3) := by decide +kernel
theorem dX7_init_4 : decode cX7_init 4 = .ok (.aload_n 0, 1) := by decide +kernel
theorem dX7_init_5 : decode cX7_init 5 = .ok (.bipush 40, 2) := by decide +kernel
theorem dX7_init_7 : decode cX7_init 7 = .ok (.newarray .long, 2) := by decide +kernel
theorem dX7_init_9 : decode cX7_init 9 = .ok (.putfield 9, 3) := by decide +kernel
theorem dX7_init_12 : decode cX7_init 12 = .ok (.aload_n 0, 1) := by decide +kernel
theorem dX7_init_13 : decode cX7_init 13 = .ok (.bipush 40, 2) := by decide +kernel
theorem dX7_init_15 : decode cX7_init 15 = .ok (.newarray .int, 2) := by decide +kernel
theorem dX7_init_17 : decode cX7_init 17 = .ok (.putfield 15, 3) := by decide +kernel
theorem dX7_init_20 : decode cX7_init 20 = .ok (.return_, 1) := by decide +kernel
theorem dX7_empty_0 : decode cX7_empty 0 = .ok (.aload_n 0, 1) := by decide +kernel
theorem dX7_empty_1 : decode cX7_empty 1 = .ok (.iconst 0, 1) := by decide +kernel
theorem dX7_empty_2 : decode cX7_empty 2 = .ok (.putfield 19, 3) := by decide +kernel
theorem dX7_empty_5 : decode cX7_empty 5 = .ok (.return_, 1) := by decide +kernel
theorem dX7_find_0 : decode cX7_find 0 = .ok (.iconst 0, 1) := by decide +kernel
theorem dX7_find_1 : decode cX7_find 1 = .ok (.istore_n 3, 1) := by decide +kernel
theorem dX7_find_2 : decode cX7_find 2 = .ok (.iload_n 3, 1) := by decide +kernel
theorem dX7_find_3 : decode cX7_find 3 = .ok (.aload_n 0, 1) := by decide +kernel
theorem dX7_find_4 : decode cX7_find 4 = .ok (.getfield 19, 3) := by decide +kernel
theorem dX7_find_7 : decode cX7_find 7 = .ok (.if_icmp .ge 22, 3) := by decide +kernel
theorem dX7_find_10 : decode cX7_find 10 = .ok (.aload_n 0, 1) := by decide +kernel
theorem dX7_find_11 : decode cX7_find 11 = .ok (.getfield 9, 3) := by decide +kernel
theorem dX7_find_14 : decode cX7_find 14 = .ok (.iload_n 3, 1) := by decide +kernel
theorem dX7_find_15 : decode cX7_find 15 = .ok (.laload, 1) := by decide +kernel
theorem dX7_find_16 : decode cX7_find 16 = .ok (.lload_n 1, 1) := by decide +kernel
theorem dX7_find_17 : decode cX7_find 17 = .ok (.lcmp, 1) := by decide +kernel
theorem dX7_find_18 : decode cX7_find 18 = .ok (.ifCond .ne 5, 3) := by decide +kernel
theorem dX7_find_21 : decode cX7_find 21 = .ok (.iload_n 3, 1) := by decide +kernel
theorem dX7_find_22 : decode cX7_find 22 = .ok (.ireturn, 1) := by decide +kernel
theorem dX7_find_23 : decode cX7_find 23 = .ok (.iinc 3 1, 3) := by decide +kernel
theorem dX7_find_26 : decode cX7_find 26 = .ok (.goto (-24), 3) := by decide +kernel
theorem dX7_find_29 : decode cX7_find 29 = .ok (.iconst (-1), 1) := by decide +kernel
theorem dX7_find_30 : decode cX7_find 30 = .ok (.ireturn, 1) := by decide +kernel
theorem dX7_put_0 : decode cX7_put 0 = .ok (.aload_n 0, 1) := by decide +kernel
theorem dX7_put_1 : decode cX7_put 1 = .ok (.getfield 19, 3) := by decide +kernel
theorem dX7_put_4 : decode cX7_put 4 = .ok (.bipush 40, 2) := by decide +kernel
theorem dX7_put_6 : decode cX7_put 6 = .ok (.if_icmp .lt 7, 3) := by decide +kernel
theorem dX7_put_9 : decode cX7_put 9 = .ok (.aload_n 0, 1) := by decide +kernel
theorem dX7_put_10 : decode cX7_put 10 = .ok (.invokevirtual 23, 3) := by decide +kernel
theorem dX7_put_13 : decode cX7_put 13 = .ok (.aload_n 0, 1) := by decide +kernel
theorem dX7_put_14 : decode cX7_put 14 = .ok (.getfield 9, 3) := by decide +kernel
theorem dX7_put_17 : decode cX7_put 17 = .ok (.aload_n 0, 1) := by decide +kernel
theorem dX7_put_18 : decode cX7_put 18 = .ok (.getfield 19, 3) := by decide +kernel
theorem dX7_put_21 : decode cX7_put 21 = .ok (.lload_n 1, 1) := by decide +kernel
theorem dX7_put_22 : decode cX7_put 22 = .ok (.lastore, 1) := by decide +kernel
theorem dX7_put_23 : decode cX7_put 23 = .ok (.aload_n 0, 1) := by decide +kernel
theorem dX7_put_24 : decode cX7_put 24 = .ok (.getfield 15, 3) := by decide +kernel
theorem dX7_put_27 : decode cX7_put 27 = .ok (.aload_n 0, 1) := by decide +kernel
theorem dX7_put_28 : decode cX7_put 28 = .ok (.getfield 19, 3) := by decide +kernel
theorem dX7_put_31 : decode cX7_put 31 = .ok (.iload_n 3, 1) := by decide +kernel
theorem dX7_put_32 : decode cX7_put 32 = .ok (.iastore, 1) := by decide +kernel
theorem dX7_put_33 : decode cX7_put 33 = .ok (.aload_n 0, 1) := by decide +kernel
theorem dX7_put_34 : decode cX7_put 34 = .ok (.dup, 1) := by decide +kernel
theorem dX7_put_35 : decode cX7_put 35 = .ok (.getfield 19, 3) := by decide +kernel
theorem dX7_put_38 : decode cX7_put 38 = .ok (.iconst 1, 1) := by decide +kernel
theorem dX7_put_39 : decode cX7_put 39 = .ok (.iadd, 1) := by decide +kernel
theorem dX7_put_40 : decode cX7_put 40 = .ok (.putfield 19, 3) := by decide +kernel
theorem dX7_put_43 : decode cX7_put 43 = .ok (.return_, 1) := by decide +kernel
theorem dX8_init_0 : decode cX8_init 0 = .ok (.aload_n 0, 1) := by decide +kernel
theorem dX8_init_1 : decode cX8_init 1 = .ok (.invokespecial 3, 3) := by decide +kernel
theorem dX8_init_4 : decode cX8_init 4 = .ok (.aload_n 0, 1) := by decide +kernel
theorem dX8_init_5 : decode cX8_init 5 = .ok (.new 9, 3) := by decide +kernel
theorem dX8_init_8 : decode cX8_init 8 = .ok (.dup, 1) := by decide +kernel
theorem dX8_init_9 : decode cX8_init 9 = .ok (.invokespecial 11, 3) := by decide +kernel
theorem dX8_init_12 : decode cX8_init 12 = .ok (.putfield 12, 3) := by decide +kernel
theorem dX8_init_15 : decode cX8_init 15 = .ok (.aload_n 0, 1) := by decide +kernel
theorem dX8_init_16 : decode cX8_init 16 = .ok (.new 16, 3) := by decide +kernel
theorem dX8_init_19 : decode cX8_init 19 = .ok (.dup, 1) := by decide +kernel
theorem dX8_init_20 : decode cX8_init 20 = .ok (.aload_n 0, 1) := by decide +kernel
theorem dX8_init_21 : decode cX8_init 21 = .ok (.getfield 12, 3) := by decide +kernel
theorem dX8_init_24 : decode cX8_init 24 = .ok (.invokespecial 18, 3) := by decide +kernel
theorem dX8_init_27 : decode cX8_init 27 = .ok (.putfield 21, 3) := by decide +kernel
theorem dX8_init_30 : decode cX8_init 30 = .ok (.aload_n 0, 1) := by decide +kernel
theorem dX8_init_31 : decode cX8_init 31 = .ok (.new 25, 3) := by decide +kernel
theorem dX8_init_34 : decode cX8_init 34 = .ok (.dup, 1) := by decide +kernel
theorem dX8_init_35 : decode cX8_init 35 = .ok (.aload_n 0, 1) := by decide +kernel
theorem dX8_init_36 : decode cX8_init 36 = .ok (.getfield 21, 3) := by decide +kernel
theorem dX8_init_39 : decode cX8_init 39 = .ok (.invokespecial 27, 3) := by decide +kernel
theorem dX8_init_42 : decode cX8_init 42 = .ok (.putfield 30, 3) := by decide +kernel
theorem dX8_init_45 : decode cX8_init 45 = .ok (.aload_n 0, 1) := by decide +kernel
theorem dX8_init_46 : decode cX8_init 46 = .ok (.new 25, 3) := by decide +kernel
theorem dX8_init_49 : decode cX8_init 49 = .ok (.dup, 1) := by decide +kernel
theorem dX8_init_50 : decode cX8_init 50 = .ok (.aload_n 0, 1) := by decide +kernel
theorem dX8_init_51 : decode cX8_init 51 = .ok (.getfield 21, 3) := by decide +kernel
theorem dX8_init_54 : decode cX8_init 54 = .ok (.invokespecial 27, 3) := by decide +kernel
theorem dX8_init_57 : decode cX8_init 57 = .ok (.putfield 34, 3) := by decide +kernel
theorem dX8_init_60 : decode cX8_init 60 = .ok (.aload_n 0, 1) := by decide +kernel
theorem dX8_init_61 : decode cX8_init 61 = .ok (.new 37, 3) := by decide +kernel
theorem dX8_init_64 : decode cX8_init 64 = .ok (.dup, 1) := by decide +kernel
theorem dX8_init_65 : decode cX8_init 65 = .ok (.invokespecial 39, 3) := by decide +kernel
theorem dX8_init_68 : decode cX8_init 68 = .ok (.putfield 40, 3) := by decide +kernel
theorem dX8_init_71 : decode cX8_init 71 = .ok (.aload_n 0, 1) := by decide +kernel
theorem dX8_init_72 : decode cX8_init 72 = .ok (.new 44, 3) := by decide +kernel
theorem dX8_init_75 : decode cX8_init 75 = .ok (.dup, 1) := by decide +kernel
theorem dX8_init_76 : decode cX8_init 76 = .ok (.invokespecial 46, 3) := by decide +kernel
theorem dX8_init_79 : decode cX8_init 79 = .ok (.putfield 47, 3) := by decide +kernel
theorem dX8_init_82 : decode cX8_init 82 = .ok (.aload_n 0, 1) := by decide +kernel
theorem dX8_init_83 : decode cX8_init 83 = .ok (.new 51, 3) := by decide +kernel
theorem dX8_init_86 : decode cX8_init 86 = .ok (.dup, 1) := by decide +kernel
theorem dX8_init_87 : decode cX8_init 87 = .ok (.invokespecial 53, 3) := by decide +kernel
theorem dX8_init_90 : decode cX8_init 90 = .ok (.putfield 54, 3) := by decide +kernel
theorem dX8_init_93 : decode cX8_init 93 = .ok (.aload_n 0, 1) := by decide +kernel
theorem dX8_init_94 : decode cX8_init 94 = .ok (.new 58, 3) := by decide +kernel
theorem dX8_init_97 : decode cX8_init 97 = .ok (.dup, 1) := by decide +kernel
theorem dX8_init_98 : decode cX8_init 98 = .ok (.invokespecial 60, 3) := by decide +kernel
theorem dX8_init_101 : decode cX8_init 101 = .ok (.putfield 61, 3) := by decide +kernel
theorem dX8_init_104 : decode cX8_init 104 = .ok (.aload_n 0, 1) := by decide +kernel
theorem dX8_init_105 : decode cX8_init 105 = .ok (.getfield 12, 3) := by decide +kernel
theorem dX8_init_108 : decode cX8_init 108 = .ok (.iconst 3, 1) := by decide +kernel
theorem dX8_init_109 : decode cX8_init 109 = .ok (.iconst 3, 1) := by decide +kernel
theorem dX8_init_110 : decode cX8_init 110 = .ok (.invokevirtual 65, 3) := by decide +kernel
theorem dX8_init_113 : decode cX8_init 113 = .ok (.aload_n 0, 1) := by decide +kernel
theorem dX8_init_114 : decode cX8_init 114 = .ok (.lconst 0, 1) := by decide +kernel
theorem dX8_init_115 : decode cX8_init 115 = .ok (.putfield 69, 3) := by decide +kernel
theorem dX8_init_118 : decode cX8_init 118 = .ok (.return_, 1) := by decide +kernel
theorem dX8_reset_0 : decode cX8_reset 0 = .ok (.iload_n 1, 1) := by decide +kernel
theorem dX8_reset_1 : decode cX8_reset 1 = .ok (.iload_n 2, 1) := by decide +kernel
theorem dX8_reset_2 : decode cX8_reset 2 = .ok (.invokestatic 73, 3) := by decide +kernel
theorem dX8_reset_5 : decode cX8_reset 5 = .ok (.ifCond .ne 7, 3) := by decide +kernel
theorem dX8_reset_8 : decode cX8_reset 8 = .ok (.sipush (-1001), 3) := by decide +kernel
theorem dX8_reset_11 : decode cX8_reset 11 = .ok (.ireturn, 1) := by decide +kernel
theorem dX8_reset_12 : decode cX8_reset 12 = .ok (.bipush 10, 2) := by decide +kernel
theorem dX8_reset_14 : decode cX8_reset 14 = .ok (.aload_n 0, 1) := by decide +kernel
theorem dX8_reset_15 : decode cX8_reset 15 = .ok (.getfield 12, 3) := by decide +kernel
theorem dX8_reset_18 : decode cX8_reset 18 = .ok (.getfield 77, 3) := by decide +kernel
theorem dX8_reset_21 : decode cX8_reset 21 = .ok (.imul, 1) := by decide +kernel
theorem dX8_reset_22 : decode cX8_reset 22 = .ok (.aload_n 0, 1) := by decide +kernel
theorem dX8_reset_23 : decode cX8_reset 23 = .ok (.getfield 12, 3) := by decide +kernel
theorem dX8_reset_26 : decode cX8_reset 26 = .ok (.getfield 81, 3) := by decide +kernel
theorem dX8_reset_29 : decode cX8_reset 29 = .ok (.iadd, 1) := by decide +kernel
theorem dX8_reset_30 : decode cX8_reset 30 = .ok (.istore_n 3, 1) := by decide +kernel
theorem dX8_reset_31 : decode cX8_reset 31 = .ok (.aload_n 0, 1) := by decide +kernel
theorem dX8_reset_32 : decode cX8_reset 32 = .ok (.getfield 54, 3) := by decide +kernel
theorem dX8_reset_35 : decode cX8_reset 35 = .ok (.aload_n 0, 1) := by decide +kernel
theorem dX8_reset_36 : decode cX8_reset 36 = .ok (.getfield 12, 3) := by decide +kernel
theorem dX8_reset_39 : decode cX8_reset 39 = .ok (.aload_n 0, 1) := by decide +kernel
theorem dX8_reset_40 : decode cX8_reset 40 = .ok (.getfield 69, 3) := by decide +kernel
theorem dX8_reset_43 : decode cX8_reset 43 = .ok (.invokevirtual 84, 3) := by decide +kernel
theorem dX8_reset_46 : decode cX8_reset 46 = .ok (.aload_n 0, 1) := by decide +kernel
theorem dX8_reset_47 : decode cX8_reset 47 = .ok (.getfield 12, 3) := by decide +kernel
theorem dX8_reset_50 : decode cX8_reset 50 = .ok (.iload_n 1, 1) := by decide +kernel
theorem dX8_reset_51 : decode cX8_reset 51 = .ok (.iload_n 2, 1) := by decide +kernel
theorem dX8_reset_52 : decode cX8_reset 52 = .ok (.invokevirtual 65, 3) := by decide +kernel
theorem dX8_reset_55 : decode cX8_reset 55 = .ok (.aload_n 0, 1) := by decide +kernel
theorem dX8_reset_56 : decode cX8_reset 56 = .ok (.lconst 0, 1) := by decide +kernel
theorem dX8_reset_57 : decode cX8_reset 57 = .ok (.putfield 69, 3) := by decide +kernel
theorem dX8_reset_60 : decode cX8_reset 60 = .ok (.aload_n 0, 1) := by decide +kernel
theorem dX8_reset_61 : decode cX8_reset 61 = .ok (.getfield 47, 3) := by decide +kernel
theorem dX8_reset_64 : decode cX8_reset 64 = .ok (.invokevirtual 88, 3) := by decide +kernel
theorem dX8_reset_67 : decode cX8_reset 67 = .ok (.iload_n 3, 1) := by decide +kernel
theorem dX8_reset_68 : decode cX8_reset 68 = .ok (.ireturn, 1) := by decide +kernel
theorem dX8_setField_0 : decode cX8_setField 0 = .ok (.aload_n 0, 1) := by decide +kernel
theorem dX8_setField_1 : decode cX8_setField 1 = .ok (.getfield 69, 3) := by decide +kernel
theorem dX8_setField_4 : decode cX8_setField 4 = .ok (.lstore_n 3, 1) := by decide +kernel
theorem dX8_setField_5 : decode cX8_setField 5 = .ok (.aload_n 0, 1) := by decide +kernel
theorem dX8_setField_6 : decode cX8_setField 6 = .ok (.iload_n 1, 1) := by decide +kernel
theorem dX8_setField_7 : decode cX8_setField 7 = .ok (.iload_n 2, 1) := by decide +kernel
theorem dX8_setField_8 : decode cX8_setField 8 = .ok (.invokevirtual 91, 3) := by decide +kernel
theorem dX8_setField_11 : decode cX8_setField 11 = .ok (.istore 5, 2) := by decide +kernel
theorem dX8_setField_13 : decode cX8_setField 13 = .ok (.iload 5, 2) := by decide +kernel
theorem dX8_setField_15 : decode cX8_setField 15 = .ok (.ifCond .lt 15, 3) := by decide +kernel
theorem dX8_setField_18 : decode cX8_setField 18 = .ok (.aload_n 0, 1) := by decide +kernel
theorem dX8_setField_19 : decode cX8_setField 19 = .ok (.getfield 54, 3) := by decide +kernel
theorem dX8_setField_22 : decode cX8_setField 22 = .ok (.aload_n 0, 1) := by decide +kernel
theorem dX8_setField_23 : decode cX8_setField 23 = .ok (.getfield 12, 3) := by decide +kernel
theorem dX8_setField_26 : decode cX8_setField 26 = .ok (.lload_n 3, 1) := by decide +kernel
theorem dX8_setField_27 : decode cX8_setField 27 = .ok (.invokevirtual 84, 3) := by decide +kernel
theorem dX8_setField_30 : decode cX8_setField 30 = .ok (.iload 5, 2) := by decide +kernel
theorem dX8_setField_32 : decode cX8_setField 32 = .ok (.ireturn, 1) := by decide +kernel
theorem dX8_field_0 : decode cX8_field 0 = .ok (.aload_n 0, 1) := by decide +kernel
theorem dX8_field_1 : decode cX8_field 1 = .ok (.getfield 12, 3) := by decide +kernel
theorem dX8_field_4 : decode cX8_field 4 = .ok (.iload_n 1, 1) := by decide +kernel
theorem dX8_field_5 : decode cX8_field 5 = .ok (.invokevirtual 95, 3) := by decide +kernel
theorem dX8_field_8 : decode cX8_field 8 = .ok (.ifCond .ne 7, 3) := by decide +kernel
theorem dX8_field_11 : decode cX8_field 11 = .ok (.sipush (-1001), 3) := by decide +kernel
theorem dX8_field_14 : decode cX8_field 14 = .ok (.ireturn, 1) := by decide +kernel
theorem dX8_field_15 : decode cX8_field 15 = .ok (.aload_n 0, 1) := by decide +kernel
theorem dX8_field_16 : decode cX8_field 16 = .ok (.getfield 69, 3) := by decide +kernel
theorem dX8_field_19 : decode cX8_field 19 = .ok (.iload_n 1, 1) := by decide +kernel
theorem dX8_field_20 : decode cX8_field 20 = .ok (.invokestatic 99, 3) := by decide +kernel
theorem dX8_field_23 : decode cX8_field 23 = .ok (.ireturn, 1) := by decide +kernel
theorem dX8_count_0 : decode cX8_count 0 = .ok (.iload_n 1, 1) := by decide +kernel
theorem dX8_count_1 : decode cX8_count 1 = .ok (.invokestatic 105, 3) := by decide +kernel
theorem dX8_count_4 : decode cX8_count 4 = .ok (.ifCond .ne 7, 3) := by decide +kernel
theorem dX8_count_7 : decode cX8_count 7 = .ok (.sipush (-1001), 3) := by decide +kernel
theorem dX8_count_10 : decode cX8_count 10 = .ok (.ireturn, 1) := by decide +kernel
theorem dX8_count_11 : decode cX8_count 11 = .ok (.aload_n 0, 1) := by decide +kernel
theorem dX8_count_12 : decode cX8_count 12 = .ok (.iload_n 1, 1) := by decide +kernel
theorem dX8_count_13 : decode cX8_count 13 = .ok (.invokevirtual 108, 3) := by decide +kernel
theorem dX8_count_16 : decode cX8_count 16 = .ok (.invokestatic 112, 3) := by decide +kernel
theorem dX8_count_19 : decode cX8_count 19 = .ok (.ireturn, 1) := by decide +kernel
theorem dX8_isSeen_0 : decode cX8_isSeen 0 = .ok (.aload_n 0, 1) := by decide +kernel
theorem dX8_isSeen_1 : decode cX8_isSeen 1 = .ok (.getfield 12, 3) := by decide +kernel
theorem dX8_isSeen_4 : decode cX8_isSeen 4 = .ok (.iload_n 1, 1) := by decide +kernel
theorem dX8_isSeen_5 : decode cX8_isSeen 5 = .ok (.invokevirtual 95, 3) := by decide +kernel
theorem dX8_isSeen_8 : decode cX8_isSeen 8 = .ok (.ifCond .eq 14, 3) := by decide +kernel
theorem dX8_isSeen_11 : decode cX8_isSeen 11 = .ok (.aload_n 0, 1) := by decide +kernel
theorem dX8_isSeen_12 : decode cX8_isSeen 12 = .ok (.getfield 12, 3) := by decide +kernel
theorem dX8_isSeen_15 : decode cX8_isSeen 15 = .ok (.iload_n 2, 1) := by decide +kernel
theorem dX8_isSeen_16 : decode cX8_isSeen 16 = .ok (.invokevirtual 95, 3) := by decide +kernel
theorem dX8_isSeen_19 : decode cX8_isSeen 19 = .ok (.ifCond .ne 7, 3) := by decide +kernel
theorem dX8_isSeen_22 : decode cX8_isSeen 22 = .ok (.sipush (-1001), 3) := by decide +kernel
theorem dX8_isSeen_25 : decode cX8_isSeen 25 = .ok (.ireturn, 1) := by decide +kernel
theorem dX8_isSeen_26 : decode cX8_isSeen 26 = .ok (.aload_n 0, 1) := by decide +kernel
theorem dX8_isSeen_27 : decode cX8_isSeen 27 = .ok (.getfield 12, 3) := by decide +kernel
theorem dX8_isSeen_30 : decode cX8_isSeen 30 = .ok (.iload_n 1, 1) := by decide +kernel
theorem dX8_isSeen_31 : decode cX8_isSeen 31 = .ok (.aload_n 0, 1) := by decide +kernel
theorem dX8_isSeen_32 : decode cX8_isSeen 32 = .ok (.iconst 0, 1) := by decide +kernel
theorem dX8_isSeen_33 : decode cX8_isSeen 33 = .ok (.invokevirtual 108, 3) := by decide +kernel
theorem dX8_isSeen_36 : decode cX8_isSeen 36 = .ok (.invokevirtual 117, 3) := by decide +kernel
theorem dX8_isSeen_39 : decode cX8_isSeen 39 = .ok (.iload_n 2, 1) := by decide +kernel
theorem dX8_isSeen_40 : decode cX8_isSeen 40 = .ok (.ishr, 1) := by decide +kernel
theorem dX8_isSeen_41 : decode cX8_isSeen 41 = .ok (.iconst 1, 1) := by decide +kernel
theorem dX8_isSeen_42 : decode cX8_isSeen 42 = .ok (.iand, 1) := by decide +kernel
theorem dX8_isSeen_43 : decode cX8_isSeen 43 = .ok (.ireturn, 1) := by decide +kernel
theorem dX8_undo_0 : decode cX8_undo 0 = .ok (.aload_n 0, 1) := by decide +kernel
theorem dX8_undo_1 : decode cX8_undo 1 = .ok (.getfield 54, 3) := by decide +kernel
theorem dX8_undo_4 : decode cX8_undo 4 = .ok (.getfield 120, 3) := by decide +kernel
theorem dX8_undo_7 : decode cX8_undo 7 = .ok (.iconst 1, 1) := by decide +kernel
theorem dX8_undo_8 : decode cX8_undo 8 = .ok (.isub, 1) := by decide +kernel
theorem dX8_undo_9 : decode cX8_undo 9 = .ok (.istore_n 1, 1) := by decide +kernel
theorem dX8_undo_10 : decode cX8_undo 10 = .ok (.iload_n 1, 1) := by decide +kernel
theorem dX8_undo_11 : decode cX8_undo 11 = .ok (.ifCond .ge 7, 3) := by decide +kernel
theorem dX8_undo_14 : decode cX8_undo 14 = .ok (.sipush (-1002), 3) := by decide +kernel
theorem dX8_undo_17 : decode cX8_undo 17 = .ok (.ireturn, 1) := by decide +kernel
theorem dX8_undo_18 : decode cX8_undo 18 = .ok (.aload_n 0, 1) := by decide +kernel
theorem dX8_undo_19 : decode cX8_undo 19 = .ok (.getfield 54, 3) := by decide +kernel
theorem dX8_undo_22 : decode cX8_undo 22 = .ok (.getfield 123, 3) := by decide +kernel
theorem dX8_undo_25 : decode cX8_undo 25 = .ok (.iload_n 1, 1) := by decide +kernel
theorem dX8_undo_26 : decode cX8_undo 26 = .ok (.iaload, 1) := by decide +kernel
theorem dX8_undo_27 : decode cX8_undo 27 = .ok (.istore_n 2, 1) := by decide +kernel
theorem dX8_undo_28 : decode cX8_undo 28 = .ok (.aload_n 0, 1) := by decide +kernel
theorem dX8_undo_29 : decode cX8_undo 29 = .ok (.getfield 54, 3) := by decide +kernel
theorem dX8_undo_32 : decode cX8_undo 32 = .ok (.getfield 127, 3) := by decide +kernel
theorem dX8_undo_35 : decode cX8_undo 35 = .ok (.iload_n 1, 1) := by decide +kernel
theorem dX8_undo_36 : decode cX8_undo 36 = .ok (.iaload, 1) := by decide +kernel
theorem dX8_undo_37 : decode cX8_undo 37 = .ok (.istore_n 3, 1) := by decide +kernel
theorem dX8_undo_38 : decode cX8_undo 38 = .ok (.iload_n 2, 1) := by decide +kernel
theorem dX8_undo_39 : decode cX8_undo 39 = .ok (.aload_n 0, 1) := by decide +kernel
theorem dX8_undo_40 : decode cX8_undo 40 = .ok (.getfield 12, 3) := by decide +kernel
theorem dX8_undo_43 : decode cX8_undo 43 = .ok (.getfield 77, 3) := by decide +kernel
theorem dX8_undo_46 : decode cX8_undo 46 = .ok (.if_icmp .ne 14, 3) := by decide +kernel
theorem dX8_undo_49 : decode cX8_undo 49 = .ok (.iload_n 3, 1) := by decide +kernel
theorem dX8_undo_50 : decode cX8_undo 50 = .ok (.aload_n 0, 1) := by decide +kernel
theorem dX8_undo_51 : decode cX8_undo 51 = .ok (.getfield 12, 3) := by decide +kernel
theorem dX8_undo_54 : decode cX8_undo 54 = .ok (.getfield 81, 3) := by decide +kernel
theorem dX8_undo_57 : decode cX8_undo 57 = .ok (.if_icmp .eq 19, 3) := by decide +kernel
theorem dX8_undo_60 : decode cX8_undo 60 = .ok (.aload_n 0, 1) := by decide +kernel
theorem dX8_undo_61 : decode cX8_undo 61 = .ok (.getfield 47, 3) := by decide +kernel
theorem dX8_undo_64 : decode cX8_undo 64 = .ok (.invokevirtual 88, 3) := by decide +kernel
theorem dX8_undo_67 : decode cX8_undo 67 = .ok (.aload_n 0, 1) := by decide +kernel
theorem dX8_undo_68 : decode cX8_undo 68 = .ok (.getfield 12, 3) := by decide +kernel
theorem dX8_undo_71 : decode cX8_undo 71 = .ok (.iload_n 2, 1) := by decide +kernel
theorem dX8_undo_72 : decode cX8_undo 72 = .ok (.iload_n 3, 1) := by decide +kernel
theorem dX8_undo_73 : decode cX8_undo 73 = .ok (.invokevirtual 65, 3) := by decide +kernel
theorem dX8_undo_76 : decode cX8_undo 76 = .ok (.aload_n 0, 1) := by decide +kernel
theorem dX8_undo_77 : decode cX8_undo 77 = .ok (.aload_n 0, 1) := by decide +kernel
theorem dX8_undo_78 : decode cX8_undo 78 = .ok (.getfield 54, 3) := by decide +kernel
theorem dX8_undo_81 : decode cX8_undo 81 = .ok (.getfield 130, 3) := by decide +kernel
theorem dX8_undo_84 : decode cX8_undo 84 = .ok (.iload_n 1, 1) := by decide +kernel
theorem dX8_undo_85 : decode cX8_undo 85 = .ok (.laload, 1) := by decide +kernel
theorem dX8_undo_86 : decode cX8_undo 86 = .ok (.putfield 69, 3) := by decide +kernel
theorem dX8_undo_89 : decode cX8_undo 89 = .ok (.aload_n 0, 1) := by decide +kernel
theorem dX8_undo_90 : decode cX8_undo 90 = .ok (.getfield 54, 3) := by decide +kernel
theorem dX8_undo_93 : decode cX8_undo 93 = .ok (.iload_n 1, 1) := by decide +kernel
theorem dX8_undo_94 : decode cX8_undo 94 = .ok (.putfield 120, 3) := by decide +kernel
theorem dX8_undo_97 : decode cX8_undo 97 = .ok (.iload_n 1, 1) := by decide +kernel
theorem dX8_undo_98 : decode cX8_undo 98 = .ok (.ireturn, 1) := by decide +kernel
theorem dX8_move_0 : decode cX8_move 0 = .ok (.aload_n 0, 1) := by decide +kernel
theorem dX8_move_1 : decode cX8_move 1 = .ok (.getfield 69, 3) := by decide +kernel
theorem dX8_move_4 : decode cX8_move 4 = .ok (.lstore 5, 2) := by decide +kernel
theorem dX8_move_6 : decode cX8_move 6 = .ok (.aload_n 0, 1) := by decide +kernel
theorem dX8_move_7 : decode cX8_move 7 = .ok (.iload_n 1, 1) := by decide +kernel
theorem dX8_move_8 : decode cX8_move 8 = .ok (.iload_n 2, 1) := by decide +kernel
theorem dX8_move_9 : decode cX8_move 9 = .ok (.iload_n 3, 1) := by decide +kernel
theorem dX8_move_10 : decode cX8_move 10 = .ok (.iload 4, 2) := by decide +kernel
theorem dX8_move_12 : decode cX8_move 12 = .ok (.invokevirtual 134, 3) := by decide +kernel
theorem dX8_move_15 : decode cX8_move 15 = .ok (.istore 7, 2) := by decide +kernel
theorem dX8_move_17 : decode cX8_move 17 = .ok (.iload 7, 2) := by decide +kernel
theorem dX8_move_19 : decode cX8_move 19 = .ok (.ifCond .lt 16, 3) := by decide +kernel
theorem dX8_move_22 : decode cX8_move 22 = .ok (.aload_n 0, 1) := by decide +kernel
theorem dX8_move_23 : decode cX8_move 23 = .ok (.getfield 54, 3) := by decide +kernel
theorem dX8_move_26 : decode cX8_move 26 = .ok (.aload_n 0, 1) := by decide +kernel
theorem dX8_move_27 : decode cX8_move 27 = .ok (.getfield 12, 3) := by decide +kernel
theorem dX8_move_30 : decode cX8_move 30 = .ok (.lload 5, 2) := by decide +kernel
theorem dX8_move_32 : decode cX8_move 32 = .ok (.invokevirtual 84, 3) := by decide +kernel
theorem dX8_move_35 : decode cX8_move 35 = .ok (.iload 7, 2) := by decide +kernel
theorem dX8_move_37 : decode cX8_move 37 = .ok (.ireturn, 1) := by decide +kernel
theorem dX8_moves_0 : decode cX8_moves 0 = .ok (.iload_n 1, 1) := by decide +kernel
theorem dX8_moves_1 : decode cX8_moves 1 = .ok (.invokestatic 138, 3) := by decide +kernel
theorem dX8_moves_4 : decode cX8_moves 4 = .ok (.ifCond .ne 7, 3) := by decide +kernel
theorem dX8_moves_7 : decode cX8_moves 7 = .ok (.sipush (-1001), 3) := by decide +kernel
theorem dX8_moves_10 : decode cX8_moves 10 = .ok (.ireturn, 1) := by decide +kernel
theorem dX8_moves_11 : decode cX8_moves 11 = .ok (.aload_n 0, 1) := by decide +kernel
theorem dX8_moves_12 : decode cX8_moves 12 = .ok (.getfield 21, 3) := by decide +kernel
theorem dX8_moves_15 : decode cX8_moves 15 = .ok (.aload_n 0, 1) := by decide +kernel
theorem dX8_moves_16 : decode cX8_moves 16 = .ok (.getfield 69, 3) := by decide +kernel
theorem dX8_moves_19 : decode cX8_moves 19 = .ok (.iload_n 1, 1) := by decide +kernel
theorem dX8_moves_20 : decode cX8_moves 20 = .ok (.invokevirtual 141, 3) := by decide +kernel
theorem dX8_moves_23 : decode cX8_moves 23 = .ok (.aload_n 0, 1) := by decide +kernel
theorem dX8_moves_24 : decode cX8_moves 24 = .ok (.getfield 21, 3) := by decide +kernel
theorem dX8_moves_27 : decode cX8_moves 27 = .ok (.getfield 145, 3) := by decide +kernel
theorem dX8_moves_30 : decode cX8_moves 30 = .ok (.ireturn, 1) := by decide +kernel
theorem dX8_moveAt_0 : decode cX8_moveAt 0 = .ok (.iload_n 1, 1) := by decide +kernel
theorem dX8_moveAt_1 : decode cX8_moveAt 1 = .ok (.invokestatic 138, 3) := by decide +kernel
theorem dX8_moveAt_4 : decode cX8_moveAt 4 = .ok (.ifCond .eq 16, 3) := by decide +kernel
theorem dX8_moveAt_7 : decode cX8_moveAt 7 = .ok (.iload_n 2, 1) := by decide +kernel
theorem dX8_moveAt_8 : decode cX8_moveAt 8 = .ok (.ifCond .lt 12, 3) := by decide +kernel
theorem dX8_moveAt_11 : decode cX8_moveAt 11 = .ok (.iload_n 3, 1) := by decide +kernel
theorem dX8_moveAt_12 : decode cX8_moveAt 12 = .ok (.ifCond .lt 8, 3) := by decide +kernel
theorem dX8_moveAt_15 : decode cX8_moveAt 15 = .ok (.iload_n 3, 1) := by decide +kernel
theorem dX8_moveAt_16 : decode cX8_moveAt 16 = .ok (.iconst 2, 1) := by decide +kernel
theorem dX8_moveAt_17 : decode cX8_moveAt 17 = .ok (.if_icmp .le 7, 3) := by decide +kernel
theorem dX8_moveAt_20 : decode cX8_moveAt 20 = .ok (.sipush (-1001), 3) := by decide +kernel
theorem dX8_moveAt_23 : decode cX8_moveAt 23 = .ok (.ireturn, 1) := by decide +kernel
theorem dX8_moveAt_24 : decode cX8_moveAt 24 = .ok (.aload_n 0, 1) := by decide +kernel
theorem dX8_moveAt_25 : decode cX8_moveAt 25 = .ok (.getfield 21, 3) := by decide +kernel
theorem dX8_moveAt_28 : decode cX8_moveAt 28 = .ok (.aload_n 0, 1) := by decide +kernel
theorem dX8_moveAt_29 : decode cX8_moveAt 29 = .ok (.getfield 69, 3) := by decide +kernel
theorem dX8_moveAt_32 : decode cX8_moveAt 32 = .ok (.iload_n 1, 1) := by decide +kernel
theorem dX8_moveAt_33 : decode cX8_moveAt 33 = .ok (.invokevirtual 141, 3) := by decide +kernel
theorem dX8_moveAt_36 : decode cX8_moveAt 36 = .ok (.iload_n 2, 1) := by decide +kernel
theorem dX8_moveAt_37 : decode cX8_moveAt 37 = .ok (.aload_n 0, 1) := by decide +kernel
theorem dX8_moveAt_38 : decode cX8_moveAt 38 = .ok (.getfield 21, 3) := by decide +kernel
theorem dX8_moveAt_41 : decode cX8_moveAt 41 = .ok (.getfield 145, 3) := by decide +kernel
theorem dX8_moveAt_44 : decode cX8_moveAt 44 = .ok (.if_icmp .lt 7, 3) := by decide +kernel
theorem dX8_moveAt_47 : decode cX8_moveAt 47 = .ok (.sipush (-1005), 3) := by decide +kernel
theorem dX8_moveAt_50 : decode cX8_moveAt 50 = .ok (.ireturn, 1) := by decide +kernel
theorem dX8_moveAt_51 : decode cX8_moveAt 51 = .ok (.iload_n 3, 1) := by decide +kernel
theorem dX8_moveAt_52 : decode cX8_moveAt 52 = .ok (.ifCond .ne 12, 3) := by decide +kernel
theorem dX8_moveAt_55 : decode cX8_moveAt 55 = .ok (.aload_n 0, 1) := by decide +kernel
theorem dX8_moveAt_56 : decode cX8_moveAt 56 = .ok (.getfield 21, 3) := by decide +kernel
theorem dX8_moveAt_59 : decode cX8_moveAt 59 = .ok (.iload_n 2, 1) := by decide +kernel
theorem dX8_moveAt_60 : decode cX8_moveAt 60 = .ok (.invokevirtual 146, 3) := by decide +kernel
theorem dX8_moveAt_63 : decode cX8_moveAt 63 = .ok (.ireturn, 1) := by decide +kernel
theorem dX8_moveAt_64 : decode cX8_moveAt 64 = .ok (.iload_n 3, 1) := by decide +kernel
theorem dX8_moveAt_65 : decode cX8_moveAt 65 = .ok (.iconst 1, 1) := by decide +kernel
theorem dX8_moveAt_66 : decode cX8_moveAt 66 = .ok (.if_icmp .ne 14, 3) := by decide +kernel
theorem dX8_moveAt_69 : decode cX8_moveAt 69 = .ok (.aload_n 0, 1) := by decide +kernel
theorem dX8_moveAt_70 : decode cX8_moveAt 70 = .ok (.getfield 21, 3) := by decide +kernel
theorem dX8_moveAt_73 : decode cX8_moveAt 73 = .ok (.iload_n 2, 1) := by decide +kernel
theorem dX8_moveAt_74 : decode cX8_moveAt 74 = .ok (.invokevirtual 149, 3) := by decide +kernel
theorem dX8_moveAt_77 : decode cX8_moveAt 77 = .ok (.goto 11, 3) := by decide +kernel
theorem dX8_moveAt_80 : decode cX8_moveAt 80 = .ok (.aload_n 0, 1) := by decide +kernel
theorem dX8_moveAt_81 : decode cX8_moveAt 81 = .ok (.getfield 21, 3) := by decide +kernel
theorem dX8_moveAt_84 : decode cX8_moveAt 84 = .ok (.iload_n 2, 1) := by decide +kernel
theorem dX8_moveAt_85 : decode cX8_moveAt 85 = .ok (.invokevirtual 152, 3) := by decide +kernel
theorem dX8_moveAt_88 : decode cX8_moveAt 88 = .ok (.ireturn, 1) := by decide +kernel
theorem dX8_regions_0 : decode cX8_regions 0 = .ok (.aload_n 0, 1) := by decide +kernel
theorem dX8_regions_1 : decode cX8_regions 1 = .ok (.invokevirtual 155, 3) := by decide +kernel
theorem dX8_regions_4 : decode cX8_regions 4 = .ok (.aload_n 0, 1) := by decide +kernel
theorem dX8_regions_5 : decode cX8_regions 5 = .ok (.getfield 40, 3) := by decide +kernel
theorem dX8_regions_8 : decode cX8_regions 8 = .ok (.getfield 158, 3) := by decide +kernel
theorem dX8_regions_11 : decode cX8_regions 11 = .ok (.ireturn, 1) := by decide +kernel
theorem dX8_value_0 : decode cX8_value 0 = .ok (.aload_n 0, 1) := by decide +kernel
theorem dX8_value_1 : decode cX8_value 1 = .ok (.invokevirtual 155, 3) := by decide +kernel
theorem dX8_value_4 : decode cX8_value 4 = .ok (.aload_n 0, 1) := by decide +kernel
theorem dX8_value_5 : decode cX8_value 5 = .ok (.getfield 40, 3) := by decide +kernel
theorem dX8_value_8 : decode cX8_value 8 = .ok (.iload_n 1, 1) := by decide +kernel
theorem dX8_value_9 : decode cX8_value 9 = .ok (.invokevirtual 162, 3) := by decide +kernel
theorem dX8_value_12 : decode cX8_value 12 = .ok (.ifCond .ne 7, 3) := by decide +kernel
theorem dX8_value_15 : decode cX8_value 15 = .ok (.sipush (-1001), 3) := by decide +kernel
theorem dX8_value_18 : decode cX8_value 18 = .ok (.ireturn, 1) := by decide +kernel
theorem dX8_value_19 : decode cX8_value 19 = .ok (.aload_n 0, 1) := by decide +kernel
theorem dX8_value_20 : decode cX8_value 20 = .ok (.getfield 40, 3) := by decide +kernel
theorem dX8_value_23 : decode cX8_value 23 = .ok (.getfield 159, 3) := by decide +kernel
theorem dX8_value_26 : decode cX8_value 26 = .ok (.iload_n 1, 1) := by decide +kernel
theorem dX8_value_27 : decode cX8_value 27 = .ok (.iaload, 1) := by decide +kernel
theorem dX8_value_28 : decode cX8_value 28 = .ok (.istore_n 2, 1) := by decide +kernel
theorem dX8_value_29 : decode cX8_value 29 = .ok (.aload_n 0, 1) := by decide +kernel
theorem dX8_value_30 : decode cX8_value 30 = .ok (.iload_n 2, 1) := by decide +kernel
theorem dX8_value_31 : decode cX8_value 31 = .ok (.invokevirtual 166, 3) := by decide +kernel
theorem dX8_value_34 : decode cX8_value 34 = .ok (.ifCond .eq 7, 3) := by decide +kernel
theorem dX8_value_37 : decode cX8_value 37 = .ok (.sipush (-1002), 3) := by decide +kernel
theorem dX8_value_40 : decode cX8_value 40 = .ok (.ireturn, 1) := by decide +kernel
theorem dX8_value_41 : decode cX8_value 41 = .ok (.aload_n 0, 1) := by decide +kernel
theorem dX8_value_42 : decode cX8_value 42 = .ok (.iload_n 2, 1) := by decide +kernel
theorem dX8_value_43 : decode cX8_value 43 = .ok (.invokevirtual 169, 3) := by decide +kernel
theorem dX8_value_46 : decode cX8_value 46 = .ok (.ireturn, 1) := by decide +kernel
theorem dX8_lead_0 : decode cX8_lead 0 = .ok (.aload_n 0, 1) := by decide +kernel
theorem dX8_lead_1 : decode cX8_lead 1 = .ok (.invokevirtual 155, 3) := by decide +kernel
theorem dX8_lead_4 : decode cX8_lead 4 = .ok (.iconst 0, 1) := by decide +kernel
theorem dX8_lead_5 : decode cX8_lead 5 = .ok (.istore_n 1, 1) := by decide +kernel
theorem dX8_lead_6 : decode cX8_lead 6 = .ok (.iload_n 1, 1) := by decide +kernel
theorem dX8_lead_7 : decode cX8_lead 7 = .ok (.aload_n 0, 1) := by decide +kernel
theorem dX8_lead_8 : decode cX8_lead 8 = .ok (.getfield 40, 3) := by decide +kernel
theorem dX8_lead_11 : decode cX8_lead 11 = .ok (.getfield 158, 3) := by decide +kernel
theorem dX8_lead_14 : decode cX8_lead 14 = .ok (.if_icmp .ge 29, 3) := by decide +kernel
theorem dX8_lead_17 : decode cX8_lead 17 = .ok (.aload_n 0, 1) := by decide +kernel
theorem dX8_lead_18 : decode cX8_lead 18 = .ok (.aload_n 0, 1) := by decide +kernel
theorem dX8_lead_19 : decode cX8_lead 19 = .ok (.getfield 40, 3) := by decide +kernel
theorem dX8_lead_22 : decode cX8_lead 22 = .ok (.getfield 159, 3) := by decide +kernel
theorem dX8_lead_25 : decode cX8_lead 25 = .ok (.iload_n 1, 1) := by decide +kernel
theorem dX8_lead_26 : decode cX8_lead 26 = .ok (.iaload, 1) := by decide +kernel
theorem dX8_lead_27 : decode cX8_lead 27 = .ok (.invokevirtual 166, 3) := by decide +kernel
theorem dX8_lead_30 : decode cX8_lead 30 = .ok (.ifCond .eq 7, 3) := by decide +kernel
theorem dX8_lead_33 : decode cX8_lead 33 = .ok (.sipush (-1002), 3) := by decide +kernel
theorem dX8_lead_36 : decode cX8_lead 36 = .ok (.ireturn, 1) := by decide +kernel
theorem dX8_lead_37 : decode cX8_lead 37 = .ok (.iinc 1 1, 3) := by decide +kernel
theorem dX8_lead_40 : decode cX8_lead 40 = .ok (.goto (-34), 3) := by decide +kernel
theorem dX8_lead_43 : decode cX8_lead 43 = .ok (.iconst 0, 1) := by decide +kernel
theorem dX8_lead_44 : decode cX8_lead 44 = .ok (.istore_n 1, 1) := by decide +kernel
theorem dX8_lead_45 : decode cX8_lead 45 = .ok (.iconst 0, 1) := by decide +kernel
theorem dX8_lead_46 : decode cX8_lead 46 = .ok (.istore_n 2, 1) := by decide +kernel
theorem dX8_lead_47 : decode cX8_lead 47 = .ok (.iload_n 2, 1) := by decide +kernel
theorem dX8_lead_48 : decode cX8_lead 48 = .ok (.aload_n 0, 1) := by decide +kernel
theorem dX8_lead_49 : decode cX8_lead 49 = .ok (.getfield 40, 3) := by decide +kernel
theorem dX8_lead_52 : decode cX8_lead 52 = .ok (.getfield 158, 3) := by decide +kernel
theorem dX8_lead_55 : decode cX8_lead 55 = .ok (.if_icmp .ge 54, 3) := by decide +kernel
theorem dX8_lead_58 : decode cX8_lead 58 = .ok (.aload_n 0, 1) := by decide +kernel
theorem dX8_lead_59 : decode cX8_lead 59 = .ok (.getfield 40, 3) := by decide +kernel
theorem dX8_lead_62 : decode cX8_lead 62 = .ok (.getfield 159, 3) := by decide +kernel
theorem dX8_lead_65 : decode cX8_lead 65 = .ok (.iload_n 2, 1) := by decide +kernel
theorem dX8_lead_66 : decode cX8_lead 66 = .ok (.iaload, 1) := by decide +kernel
theorem dX8_lead_67 : decode cX8_lead 67 = .ok (.istore_n 3, 1) := by decide +kernel
theorem dX8_lead_68 : decode cX8_lead 68 = .ok (.aload_n 0, 1) := by decide +kernel
theorem dX8_lead_69 : decode cX8_lead 69 = .ok (.iload_n 3, 1) := by decide +kernel
theorem dX8_lead_70 : decode cX8_lead 70 = .ok (.invokevirtual 169, 3) := by decide +kernel
theorem dX8_lead_73 : decode cX8_lead 73 = .ok (.istore 4, 2) := by decide +kernel
theorem dX8_lead_75 : decode cX8_lead 75 = .ok (.iload 4, 2) := by decide +kernel
theorem dX8_lead_77 : decode cX8_lead 77 = .ok (.ifCond .ge 6, 3) := by decide +kernel
theorem dX8_lead_80 : decode cX8_lead 80 = .ok (.iload 4, 2) := by decide +kernel
theorem dX8_lead_82 : decode cX8_lead 82 = .ok (.ireturn, 1) := by decide +kernel
theorem dX8_lead_83 : decode cX8_lead 83 = .ok (.iload_n 1, 1) := by decide +kernel
theorem dX8_lead_84 : decode cX8_lead 84 = .ok (.aload_n 0, 1) := by decide +kernel
theorem dX8_lead_85 : decode cX8_lead 85 = .ok (.iload_n 3, 1) := by decide +kernel
theorem dX8_lead_86 : decode cX8_lead 86 = .ok (.invokevirtual 163, 3) := by decide +kernel
theorem dX8_lead_89 : decode cX8_lead 89 = .ok (.iconst 1, 1) := by decide +kernel
theorem dX8_lead_90 : decode cX8_lead 90 = .ok (.if_icmp .ne 8, 3) := by decide +kernel
theorem dX8_lead_93 : decode cX8_lead 93 = .ok (.iload 4, 2) := by decide +kernel
theorem dX8_lead_95 : decode cX8_lead 95 = .ok (.goto 6, 3) := by decide +kernel
theorem dX8_lead_98 : decode cX8_lead 98 = .ok (.iload 4, 2) := by decide +kernel
theorem dX8_lead_100 : decode cX8_lead 100 = .ok (.ineg, 1) := by decide +kernel
theorem dX8_lead_101 : decode cX8_lead 101 = .ok (.iadd, 1) := by decide +kernel
theorem dX8_lead_102 : decode cX8_lead 102 = .ok (.istore_n 1, 1) := by decide +kernel
theorem dX8_lead_103 : decode cX8_lead 103 = .ok (.iinc 2 1, 3) := by decide +kernel
theorem dX8_lead_106 : decode cX8_lead 106 = .ok (.goto (-59), 3) := by decide +kernel
theorem dX8_lead_109 : decode cX8_lead 109 = .ok (.iload_n 1, 1) := by decide +kernel
theorem dX8_lead_110 : decode cX8_lead 110 = .ok (.ireturn, 1) := by decide +kernel
theorem dX8_wins_0 : decode cX8_wins 0 = .ok (.iload_n 1, 1) := by decide +kernel
theorem dX8_wins_1 : decode cX8_wins 1 = .ok (.invokestatic 138, 3) := by decide +kernel
theorem dX8_wins_4 : decode cX8_wins 4 = .ok (.ifCond .ne 7, 3) := by decide +kernel
theorem dX8_wins_7 : decode cX8_wins 7 = .ok (.sipush (-1001), 3) := by decide +kernel
theorem dX8_wins_10 : decode cX8_wins 10 = .ok (.ireturn, 1) := by decide +kernel
theorem dX8_wins_11 : decode cX8_wins 11 = .ok (.aload_n 0, 1) := by decide +kernel
theorem dX8_wins_12 : decode cX8_wins 12 = .ok (.getfield 30, 3) := by decide +kernel
theorem dX8_wins_15 : decode cX8_wins 15 = .ok (.aload_n 0, 1) := by decide +kernel
theorem dX8_wins_16 : decode cX8_wins 16 = .ok (.getfield 69, 3) := by decide +kernel
theorem dX8_wins_19 : decode cX8_wins 19 = .ok (.iload_n 1, 1) := by decide +kernel
theorem dX8_wins_20 : decode cX8_wins 20 = .ok (.invokestatic 184, 3) := by decide +kernel
theorem dX8_wins_23 : decode cX8_wins 23 = .ok (.ifCond .ne 7, 3) := by decide +kernel
theorem dX8_wins_26 : decode cX8_wins 26 = .ok (.sipush (-1004), 3) := by decide +kernel
theorem dX8_wins_29 : decode cX8_wins 29 = .ok (.ireturn, 1) := by decide +kernel
theorem dX8_wins_30 : decode cX8_wins 30 = .ok (.aload_n 0, 1) := by decide +kernel
theorem dX8_wins_31 : decode cX8_wins 31 = .ok (.getfield 30, 3) := by decide +kernel
theorem dX8_wins_34 : decode cX8_wins 34 = .ok (.iconst 0, 1) := by decide +kernel
theorem dX8_wins_35 : decode cX8_wins 35 = .ok (.invokevirtual 188, 3) := by decide +kernel
theorem dX8_wins_38 : decode cX8_wins 38 = .ok (.ifCond .eq 7, 3) := by decide +kernel
theorem dX8_wins_41 : decode cX8_wins 41 = .ok (.iconst 1, 1) := by decide +kernel
theorem dX8_wins_42 : decode cX8_wins 42 = .ok (.goto 4, 3) := by decide +kernel
theorem dX8_wins_45 : decode cX8_wins 45 = .ok (.iconst 0, 1) := by decide +kernel
theorem dX8_wins_46 : decode cX8_wins 46 = .ok (.ireturn, 1) := by decide +kernel
theorem dX8_outcome_0 : decode cX8_outcome 0 = .ok (.aload_n 0, 1) := by decide +kernel
theorem dX8_outcome_1 : decode cX8_outcome 1 = .ok (.aload_n 0, 1) := by decide +kernel
theorem dX8_outcome_2 : decode cX8_outcome 2 = .ok (.getfield 69, 3) := by decide +kernel
theorem dX8_outcome_5 : decode cX8_outcome 5 = .ok (.invokevirtual 191, 3) := by decide +kernel
theorem dX8_outcome_8 : decode cX8_outcome 8 = .ok (.ireturn, 1) := by decide +kernel
theorem dX8_outcomeOf_0 : decode cX8_outcomeOf 0 = .ok (.aload_n 0, 1) := by decide +kernel
theorem dX8_outcomeOf_1 : decode cX8_outcomeOf 1 = .ok (.invokevirtual 155, 3) := by decide +kernel
theorem dX8_outcomeOf_4 : decode cX8_outcomeOf 4 = .ok (.aload_n 0, 1) := by decide +kernel
theorem dX8_outcomeOf_5 : decode cX8_outcomeOf 5 = .ok (.getfield 40, 3) := by decide +kernel
theorem dX8_outcomeOf_8 : decode cX8_outcomeOf 8 = .ok (.iload_n 1, 1) := by decide +kernel
theorem dX8_outcomeOf_9 : decode cX8_outcomeOf 9 = .ok (.invokevirtual 162, 3) := by decide +kernel
theorem dX8_outcomeOf_12 : decode cX8_outcomeOf 12 = .ok (.ifCond .ne 7, 3) := by decide +kernel
theorem dX8_outcomeOf_15 : decode cX8_outcomeOf 15 = .ok (.sipush (-1001), 3) := by decide +kernel
theorem dX8_outcomeOf_18 : decode cX8_outcomeOf 18 = .ok (.ireturn, 1) := by decide +kernel
theorem dX8_outcomeOf_19 : decode cX8_outcomeOf 19 = .ok (.aload_n 0, 1) := by decide +kernel
theorem dX8_outcomeOf_20 : decode cX8_outcomeOf 20 = .ok (.aload_n 0, 1) := by decide +kernel
theorem dX8_outcomeOf_21 : decode cX8_outcomeOf 21 = .ok (.aload_n 0, 1) := by decide +kernel
theorem dX8_outcomeOf_22 : decode cX8_outcomeOf 22 = .ok (.getfield 40, 3) := by decide +kernel
theorem dX8_outcomeOf_25 : decode cX8_outcomeOf 25 = .ok (.getfield 159, 3) := by decide +kernel
theorem dX8_outcomeOf_28 : decode cX8_outcomeOf 28 = .ok (.iload_n 1, 1) := by decide +kernel
theorem dX8_outcomeOf_29 : decode cX8_outcomeOf 29 = .ok (.iaload, 1) := by decide +kernel
theorem dX8_outcomeOf_30 : decode cX8_outcomeOf 30 = .ok (.invokevirtual 195, 3) := by decide +kernel
theorem dX8_outcomeOf_33 : decode cX8_outcomeOf 33 = .ok (.invokevirtual 191, 3) := by decide +kernel
theorem dX8_outcomeOf_36 : decode cX8_outcomeOf 36 = .ok (.ireturn, 1) := by decide +kernel
theorem dX8_bestMove_0 : decode cX8_bestMove 0 = .ok (.iload_n 1, 1) := by decide +kernel
theorem dX8_bestMove_1 : decode cX8_bestMove 1 = .ok (.invokestatic 138, 3) := by decide +kernel
theorem dX8_bestMove_4 : decode cX8_bestMove 4 = .ok (.ifCond .ne 7, 3) := by decide +kernel
theorem dX8_bestMove_7 : decode cX8_bestMove 7 = .ok (.sipush (-1001), 3) := by decide +kernel
theorem dX8_bestMove_10 : decode cX8_bestMove 10 = .ok (.ireturn, 1) := by decide +kernel
theorem dX8_bestMove_11 : decode cX8_bestMove 11 = .ok (.aload_n 0, 1) := by decide +kernel
theorem dX8_bestMove_12 : decode cX8_bestMove 12 = .ok (.getfield 30, 3) := by decide +kernel
theorem dX8_bestMove_15 : decode cX8_bestMove 15 = .ok (.aload_n 0, 1) := by decide +kernel
theorem dX8_bestMove_16 : decode cX8_bestMove 16 = .ok (.getfield 69, 3) := by decide +kernel
theorem dX8_bestMove_19 : decode cX8_bestMove 19 = .ok (.iload_n 1, 1) := by decide +kernel
theorem dX8_bestMove_20 : decode cX8_bestMove 20 = .ok (.invokestatic 184, 3) := by decide +kernel
theorem dX8_bestMove_23 : decode cX8_bestMove 23 = .ok (.ifCond .ne 7, 3) := by decide +kernel
theorem dX8_bestMove_26 : decode cX8_bestMove 26 = .ok (.sipush (-1004), 3) := by decide +kernel
theorem dX8_bestMove_29 : decode cX8_bestMove 29 = .ok (.ireturn, 1) := by decide +kernel
theorem dX8_bestMove_30 : decode cX8_bestMove 30 = .ok (.aload_n 0, 1) := by decide +kernel
theorem dX8_bestMove_31 : decode cX8_bestMove 31 = .ok (.getfield 21, 3) := by decide +kernel
theorem dX8_bestMove_34 : decode cX8_bestMove 34 = .ok (.aload_n 0, 1) := by decide +kernel
theorem dX8_bestMove_35 : decode cX8_bestMove 35 = .ok (.getfield 69, 3) := by decide +kernel
theorem dX8_bestMove_38 : decode cX8_bestMove 38 = .ok (.iload_n 1, 1) := by decide +kernel
theorem dX8_bestMove_39 : decode cX8_bestMove 39 = .ok (.invokevirtual 141, 3) := by decide +kernel
theorem dX8_bestMove_42 : decode cX8_bestMove 42 = .ok (.iconst 0, 1) := by decide +kernel
theorem dX8_bestMove_43 : decode cX8_bestMove 43 = .ok (.istore_n 2, 1) := by decide +kernel
theorem dX8_bestMove_44 : decode cX8_bestMove 44 = .ok (.iload_n 2, 1) := by decide +kernel
theorem dX8_bestMove_45 : decode cX8_bestMove 45 = .ok (.aload_n 0, 1) := by decide +kernel
theorem dX8_bestMove_46 : decode cX8_bestMove 46 = .ok (.getfield 21, 3) := by decide +kernel
theorem dX8_bestMove_49 : decode cX8_bestMove 49 = .ok (.getfield 145, 3) := by decide +kernel
theorem dX8_bestMove_52 : decode cX8_bestMove 52 = .ok (.if_icmp .ge 48, 3) := by decide +kernel
theorem dX8_bestMove_55 : decode cX8_bestMove 55 = .ok (.aload_n 0, 1) := by decide +kernel
theorem dX8_bestMove_56 : decode cX8_bestMove 56 = .ok (.getfield 30, 3) := by decide +kernel
theorem dX8_bestMove_59 : decode cX8_bestMove 59 = .ok (.aload_n 0, 1) := by decide +kernel
theorem dX8_bestMove_60 : decode cX8_bestMove 60 = .ok (.getfield 21, 3) := by decide +kernel
theorem dX8_bestMove_63 : decode cX8_bestMove 63 = .ok (.aload_n 0, 1) := by decide +kernel
theorem dX8_bestMove_64 : decode cX8_bestMove 64 = .ok (.getfield 69, 3) := by decide +kernel
theorem dX8_bestMove_67 : decode cX8_bestMove 67 = .ok (.iload_n 1, 1) := by decide +kernel
theorem dX8_bestMove_68 : decode cX8_bestMove 68 = .ok (.iload_n 2, 1) := by decide +kernel
theorem dX8_bestMove_69 : decode cX8_bestMove 69 = .ok (.invokevirtual 199, 3) := by decide +kernel
theorem dX8_bestMove_72 : decode cX8_bestMove 72 = .ok (.invokevirtual 203, 3) := by decide +kernel
theorem dX8_bestMove_75 : decode cX8_bestMove 75 = .ok (.istore_n 3, 1) := by decide +kernel
theorem dX8_bestMove_76 : decode cX8_bestMove 76 = .ok (.iload_n 3, 1) := by decide +kernel
theorem dX8_bestMove_77 : decode cX8_bestMove 77 = .ok (.iconst (-1), 1) := by decide +kernel
theorem dX8_bestMove_78 : decode cX8_bestMove 78 = .ok (.if_icmp .eq 16, 3) := by decide +kernel
theorem dX8_bestMove_81 : decode cX8_bestMove 81 = .ok (.aload_n 0, 1) := by decide +kernel
theorem dX8_bestMove_82 : decode cX8_bestMove 82 = .ok (.getfield 30, 3) := by decide +kernel
theorem dX8_bestMove_85 : decode cX8_bestMove 85 = .ok (.iload_n 3, 1) := by decide +kernel
theorem dX8_bestMove_86 : decode cX8_bestMove 86 = .ok (.invokevirtual 188, 3) := by decide +kernel
theorem dX8_bestMove_89 : decode cX8_bestMove 89 = .ok (.ifCond .ne 5, 3) := by decide +kernel
theorem dX8_bestMove_92 : decode cX8_bestMove 92 = .ok (.iload_n 2, 1) := by decide +kernel
theorem dX8_bestMove_93 : decode cX8_bestMove 93 = .ok (.ireturn, 1) := by decide +kernel
theorem dX8_bestMove_94 : decode cX8_bestMove 94 = .ok (.iinc 2 1, 3) := by decide +kernel
theorem dX8_bestMove_97 : decode cX8_bestMove 97 = .ok (.goto (-53), 3) := by decide +kernel
theorem dX8_bestMove_100 : decode cX8_bestMove 100 = .ok (.sipush (-1005), 3) := by decide +kernel
theorem dX8_bestMove_103 : decode cX8_bestMove 103 = .ok (.ireturn, 1) := by decide +kernel
theorem dX8_length_0 : decode cX8_length 0 = .ok (.iload_n 1, 1) := by decide +kernel
theorem dX8_length_1 : decode cX8_length 1 = .ok (.invokestatic 138, 3) := by decide +kernel
theorem dX8_length_4 : decode cX8_length 4 = .ok (.ifCond .ne 7, 3) := by decide +kernel
theorem dX8_length_7 : decode cX8_length 7 = .ok (.sipush (-1001), 3) := by decide +kernel
theorem dX8_length_10 : decode cX8_length 10 = .ok (.ireturn, 1) := by decide +kernel
theorem dX8_length_11 : decode cX8_length 11 = .ok (.aload_n 0, 1) := by decide +kernel
theorem dX8_length_12 : decode cX8_length 12 = .ok (.getfield 30, 3) := by decide +kernel
theorem dX8_length_15 : decode cX8_length 15 = .ok (.aload_n 0, 1) := by decide +kernel
theorem dX8_length_16 : decode cX8_length 16 = .ok (.getfield 69, 3) := by decide +kernel
theorem dX8_length_19 : decode cX8_length 19 = .ok (.iload_n 1, 1) := by decide +kernel
theorem dX8_length_20 : decode cX8_length 20 = .ok (.invokestatic 184, 3) := by decide +kernel
theorem dX8_length_23 : decode cX8_length 23 = .ok (.ifCond .ne 7, 3) := by decide +kernel
theorem dX8_length_26 : decode cX8_length 26 = .ok (.sipush (-1004), 3) := by decide +kernel
theorem dX8_length_29 : decode cX8_length 29 = .ok (.ireturn, 1) := by decide +kernel
theorem dX8_length_30 : decode cX8_length 30 = .ok (.aload_n 0, 1) := by decide +kernel
theorem dX8_length_31 : decode cX8_length 31 = .ok (.getfield 30, 3) := by decide +kernel
theorem dX8_length_34 : decode cX8_length 34 = .ok (.iconst 0, 1) := by decide +kernel
theorem dX8_length_35 : decode cX8_length 35 = .ok (.invokevirtual 206, 3) := by decide +kernel
theorem dX8_length_38 : decode cX8_length 38 = .ok (.ireturn, 1) := by decide +kernel
theorem dX8_zugzwangs_0 : decode cX8_zugzwangs 0 = .ok (.aload_n 0, 1) := by decide +kernel
theorem dX8_zugzwangs_1 : decode cX8_zugzwangs 1 = .ok (.getfield 30, 3) := by decide +kernel
theorem dX8_zugzwangs_4 : decode cX8_zugzwangs 4 = .ok (.aload_n 0, 1) := by decide +kernel
theorem dX8_zugzwangs_5 : decode cX8_zugzwangs 5 = .ok (.getfield 69, 3) := by decide +kernel
theorem dX8_zugzwangs_8 : decode cX8_zugzwangs 8 = .ok (.iconst 1, 1) := by decide +kernel
theorem dX8_zugzwangs_9 : decode cX8_zugzwangs 9 = .ok (.invokestatic 184, 3) := by decide +kernel
theorem dX8_zugzwangs_12 : decode cX8_zugzwangs 12 = .ok (.ifCond .eq 18, 3) := by decide +kernel
theorem dX8_zugzwangs_15 : decode cX8_zugzwangs 15 = .ok (.aload_n 0, 1) := by decide +kernel
theorem dX8_zugzwangs_16 : decode cX8_zugzwangs 16 = .ok (.getfield 34, 3) := by decide +kernel
theorem dX8_zugzwangs_19 : decode cX8_zugzwangs 19 = .ok (.aload_n 0, 1) := by decide +kernel
theorem dX8_zugzwangs_20 : decode cX8_zugzwangs 20 = .ok (.getfield 69, 3) := by decide +kernel
theorem dX8_zugzwangs_23 : decode cX8_zugzwangs 23 = .ok (.iconst 2, 1) := by decide +kernel
theorem dX8_zugzwangs_24 : decode cX8_zugzwangs 24 = .ok (.invokestatic 184, 3) := by decide +kernel
theorem dX8_zugzwangs_27 : decode cX8_zugzwangs 27 = .ok (.ifCond .ne 7, 3) := by decide +kernel
theorem dX8_zugzwangs_30 : decode cX8_zugzwangs 30 = .ok (.sipush (-1004), 3) := by decide +kernel
theorem dX8_zugzwangs_33 : decode cX8_zugzwangs 33 = .ok (.ireturn, 1) := by decide +kernel
theorem dX8_zugzwangs_34 : decode cX8_zugzwangs 34 = .ok (.iconst 0, 1) := by decide +kernel
theorem dX8_zugzwangs_35 : decode cX8_zugzwangs 35 = .ok (.istore_n 1, 1) := by decide +kernel
theorem dX8_zugzwangs_36 : decode cX8_zugzwangs 36 = .ok (.iconst 0, 1) := by decide +kernel
theorem dX8_zugzwangs_37 : decode cX8_zugzwangs 37 = .ok (.istore_n 2, 1) := by decide +kernel
theorem dX8_zugzwangs_38 : decode cX8_zugzwangs 38 = .ok (.iload_n 2, 1) := by decide +kernel
theorem dX8_zugzwangs_39 : decode cX8_zugzwangs 39 = .ok (.aload_n 0, 1) := by decide +kernel
theorem dX8_zugzwangs_40 : decode cX8_zugzwangs 40 = .ok (.getfield 30, 3) := by decide +kernel
theorem dX8_zugzwangs_43 : decode cX8_zugzwangs 43 = .ok (.getfield 183, 3) := by decide +kernel
theorem dX8_zugzwangs_46 : decode cX8_zugzwangs 46 = .ok (.if_icmp .ge 55, 3) := by decide +kernel
theorem dX8_zugzwangs_49 : decode cX8_zugzwangs 49 = .ok (.aload_n 0, 1) := by decide +kernel
theorem dX8_zugzwangs_50 : decode cX8_zugzwangs 50 = .ok (.getfield 34, 3) := by decide +kernel
theorem dX8_zugzwangs_53 : decode cX8_zugzwangs 53 = .ok (.aload_n 0, 1) := by decide +kernel
theorem dX8_zugzwangs_54 : decode cX8_zugzwangs 54 = .ok (.getfield 30, 3) := by decide +kernel
theorem dX8_zugzwangs_57 : decode cX8_zugzwangs 57 = .ok (.iload_n 2, 1) := by decide +kernel
theorem dX8_zugzwangs_58 : decode cX8_zugzwangs 58 = .ok (.invokevirtual 209, 3) := by decide +kernel
theorem dX8_zugzwangs_61 : decode cX8_zugzwangs 61 = .ok (.invokevirtual 203, 3) := by decide +kernel
theorem dX8_zugzwangs_64 : decode cX8_zugzwangs 64 = .ok (.istore_n 3, 1) := by decide +kernel
theorem dX8_zugzwangs_65 : decode cX8_zugzwangs 65 = .ok (.iload_n 3, 1) := by decide +kernel
theorem dX8_zugzwangs_66 : decode cX8_zugzwangs 66 = .ok (.iconst (-1), 1) := by decide +kernel
theorem dX8_zugzwangs_67 : decode cX8_zugzwangs 67 = .ok (.if_icmp .eq 28, 3) := by decide +kernel
theorem dX8_zugzwangs_70 : decode cX8_zugzwangs 70 = .ok (.aload_n 0, 1) := by decide +kernel
theorem dX8_zugzwangs_71 : decode cX8_zugzwangs 71 = .ok (.getfield 30, 3) := by decide +kernel
theorem dX8_zugzwangs_74 : decode cX8_zugzwangs 74 = .ok (.iload_n 2, 1) := by decide +kernel
theorem dX8_zugzwangs_75 : decode cX8_zugzwangs 75 = .ok (.invokevirtual 188, 3) := by decide +kernel
theorem dX8_zugzwangs_78 : decode cX8_zugzwangs 78 = .ok (.ifCond .ne 17, 3) := by decide +kernel
theorem dX8_zugzwangs_81 : decode cX8_zugzwangs 81 = .ok (.aload_n 0, 1) := by decide +kernel
theorem dX8_zugzwangs_82 : decode cX8_zugzwangs 82 = .ok (.getfield 34, 3) := by decide +kernel
theorem dX8_zugzwangs_85 : decode cX8_zugzwangs 85 = .ok (.iload_n 3, 1) := by decide +kernel
theorem dX8_zugzwangs_86 : decode cX8_zugzwangs 86 = .ok (.invokevirtual 188, 3) := by decide +kernel
theorem dX8_zugzwangs_89 : decode cX8_zugzwangs 89 = .ok (.ifCond .ne 6, 3) := by decide +kernel
theorem dX8_zugzwangs_92 : decode cX8_zugzwangs 92 = .ok (.iinc 1 1, 3) := by decide +kernel
theorem dX8_zugzwangs_95 : decode cX8_zugzwangs 95 = .ok (.iinc 2 1, 3) := by decide +kernel
theorem dX8_zugzwangs_98 : decode cX8_zugzwangs 98 = .ok (.goto (-60), 3) := by decide +kernel
theorem dX8_zugzwangs_101 : decode cX8_zugzwangs 101 = .ok (.iload_n 1, 1) := by decide +kernel
theorem dX8_zugzwangs_102 : decode cX8_zugzwangs 102 = .ok (.ireturn, 1) := by decide +kernel
theorem dX8_type_0 : decode cX8_type 0 = .ok (.iload_n 1, 1) := by decide +kernel
theorem dX8_type_1 : decode cX8_type 1 = .ok (.bipush 32, 2) := by decide +kernel
theorem dX8_type_3 : decode cX8_type 3 = .ok (.if_icmp .lt 9, 3) := by decide +kernel
theorem dX8_type_6 : decode cX8_type 6 = .ok (.iload_n 1, 1) := by decide +kernel
theorem dX8_type_7 : decode cX8_type 7 = .ok (.bipush 126, 2) := by decide +kernel
theorem dX8_type_9 : decode cX8_type 9 = .ok (.if_icmp .le 7, 3) := by decide +kernel
theorem dX8_type_12 : decode cX8_type 12 = .ok (.sipush (-1001), 3) := by decide +kernel
theorem dX8_type_15 : decode cX8_type 15 = .ok (.ireturn, 1) := by decide +kernel
theorem dX8_type_16 : decode cX8_type 16 = .ok (.aload_n 0, 1) := by decide +kernel
theorem dX8_type_17 : decode cX8_type 17 = .ok (.getfield 61, 3) := by decide +kernel
theorem dX8_type_20 : decode cX8_type 20 = .ok (.iload_n 1, 1) := by decide +kernel
theorem dX8_type_21 : decode cX8_type 21 = .ok (.i2c, 1) := by decide +kernel
theorem dX8_type_22 : decode cX8_type 22 = .ok (.invokevirtual 212, 3) := by decide +kernel
theorem dX8_type_25 : decode cX8_type 25 = .ok (.ifCond .eq 13, 3) := by decide +kernel
theorem dX8_type_28 : decode cX8_type 28 = .ok (.aload_n 0, 1) := by decide +kernel
theorem dX8_type_29 : decode cX8_type 29 = .ok (.getfield 61, 3) := by decide +kernel
theorem dX8_type_32 : decode cX8_type 32 = .ok (.getfield 216, 3) := by decide +kernel
theorem dX8_type_35 : decode cX8_type 35 = .ok (.goto 6, 3) := by decide +kernel
theorem dX8_type_38 : decode cX8_type 38 = .ok (.sipush (-1003), 3) := by decide +kernel
theorem dX8_type_41 : decode cX8_type 41 = .ok (.ireturn, 1) := by decide +kernel
theorem dX8_clearText_0 : decode cX8_clearText 0 = .ok (.aload_n 0, 1) := by decide +kernel
theorem dX8_clearText_1 : decode cX8_clearText 1 = .ok (.getfield 61, 3) := by decide +kernel
theorem dX8_clearText_4 : decode cX8_clearText 4 = .ok (.getfield 216, 3) := by decide +kernel
theorem dX8_clearText_7 : decode cX8_clearText 7 = .ok (.istore_n 1, 1) := by decide +kernel
theorem dX8_clearText_8 : decode cX8_clearText 8 = .ok (.aload_n 0, 1) := by decide +kernel
theorem dX8_clearText_9 : decode cX8_clearText 9 = .ok (.getfield 61, 3) := by decide +kernel
theorem dX8_clearText_12 : decode cX8_clearText 12 = .ok (.iconst 0, 1) := by decide +kernel
theorem dX8_clearText_13 : decode cX8_clearText 13 = .ok (.putfield 216, 3) := by decide +kernel
theorem dX8_clearText_16 : decode cX8_clearText 16 = .ok (.iload_n 1, 1) := by decide +kernel
theorem dX8_clearText_17 : decode cX8_clearText 17 = .ok (.ireturn, 1) := by decide +kernel
theorem dX8_fault_0 : decode cX8_fault 0 = .ok (.aload_n 0, 1) := by decide +kernel
theorem dX8_fault_1 : decode cX8_fault 1 = .ok (.getfield 61, 3) := by decide +kernel
theorem dX8_fault_4 : decode cX8_fault 4 = .ok (.invokevirtual 217, 3) := by decide +kernel
theorem dX8_fault_7 : decode cX8_fault 7 = .ok (.istore_n 1, 1) := by decide +kernel
theorem dX8_fault_8 : decode cX8_fault 8 = .ok (.iload_n 1, 1) := by decide +kernel
theorem dX8_fault_9 : decode cX8_fault 9 = .ok (.iconst (-1), 1) := by decide +kernel
theorem dX8_fault_10 : decode cX8_fault 10 = .ok (.if_icmp .ne 9, 3) := by decide +kernel
theorem dX8_fault_13 : decode cX8_fault 13 = .ok (.sipush (-1005), 3) := by decide +kernel
theorem dX8_fault_16 : decode cX8_fault 16 = .ok (.goto 4, 3) := by decide +kernel
theorem dX8_fault_19 : decode cX8_fault 19 = .ok (.iload_n 1, 1) := by decide +kernel
theorem dX8_fault_20 : decode cX8_fault 20 = .ok (.ireturn, 1) := by decide +kernel
theorem dX8_run_0 : decode cX8_run 0 = .ok (.aload_n 0, 1) := by decide +kernel
theorem dX8_run_1 : decode cX8_run 1 = .ok (.getfield 61, 3) := by decide +kernel
theorem dX8_run_4 : decode cX8_run 4 = .ok (.invokevirtual 217, 3) := by decide +kernel
theorem dX8_run_7 : decode cX8_run 7 = .ok (.iconst (-1), 1) := by decide +kernel
theorem dX8_run_8 : decode cX8_run 8 = .ok (.if_icmp .eq 7, 3) := by decide +kernel
theorem dX8_run_11 : decode cX8_run 11 = .ok (.sipush (-1002), 3) := by decide +kernel
theorem dX8_run_14 : decode cX8_run 14 = .ok (.ireturn, 1) := by decide +kernel
theorem dX8_run_15 : decode cX8_run 15 = .ok (.aload_n 0, 1) := by decide +kernel
theorem dX8_run_16 : decode cX8_run 16 = .ok (.getfield 54, 3) := by decide +kernel
theorem dX8_run_19 : decode cX8_run 19 = .ok (.aload_n 0, 1) := by decide +kernel
theorem dX8_run_20 : decode cX8_run 20 = .ok (.getfield 12, 3) := by decide +kernel
theorem dX8_run_23 : decode cX8_run 23 = .ok (.aload_n 0, 1) := by decide +kernel
theorem dX8_run_24 : decode cX8_run 24 = .ok (.getfield 69, 3) := by decide +kernel
theorem dX8_run_27 : decode cX8_run 27 = .ok (.invokevirtual 84, 3) := by decide +kernel
theorem dX8_run_30 : decode cX8_run 30 = .ok (.iconst 0, 1) := by decide +kernel
theorem dX8_run_31 : decode cX8_run 31 = .ok (.istore_n 1, 1) := by decide +kernel
theorem dX8_run_32 : decode cX8_run 32 = .ok (.iconst 0, 1) := by decide +kernel
theorem dX8_run_33 : decode cX8_run 33 = .ok (.istore_n 2, 1) := by decide +kernel
theorem dX8_run_34 : decode cX8_run 34 = .ok (.iconst 0, 1) := by decide +kernel
theorem dX8_run_35 : decode cX8_run 35 = .ok (.istore_n 3, 1) := by decide +kernel
theorem dX8_run_36 : decode cX8_run 36 = .ok (.iload_n 3, 1) := by decide +kernel
theorem dX8_run_37 : decode cX8_run 37 = .ok (.bipush 60, 2) := by decide +kernel
theorem dX8_run_39 : decode cX8_run 39 = .ok (.if_icmp .ge 46, 3) := by decide +kernel
theorem dX8_run_42 : decode cX8_run 42 = .ok (.iload_n 2, 1) := by decide +kernel
theorem dX8_run_43 : decode cX8_run 43 = .ok (.aload_n 0, 1) := by decide +kernel
theorem dX8_run_44 : decode cX8_run 44 = .ok (.getfield 61, 3) := by decide +kernel
theorem dX8_run_47 : decode cX8_run 47 = .ok (.getfield 216, 3) := by decide +kernel
theorem dX8_run_50 : decode cX8_run 50 = .ok (.if_icmp .ge 35, 3) := by decide +kernel
theorem dX8_run_53 : decode cX8_run 53 = .ok (.aload_n 0, 1) := by decide +kernel
theorem dX8_run_54 : decode cX8_run 54 = .ok (.getfield 61, 3) := by decide +kernel
theorem dX8_run_57 : decode cX8_run 57 = .ok (.iload_n 2, 1) := by decide +kernel
theorem dX8_run_58 : decode cX8_run 58 = .ok (.invokevirtual 221, 3) := by decide +kernel
theorem dX8_run_61 : decode cX8_run 61 = .ok (.istore_n 2, 1) := by decide +kernel
theorem dX8_run_62 : decode cX8_run 62 = .ok (.iload_n 2, 1) := by decide +kernel
theorem dX8_run_63 : decode cX8_run 63 = .ok (.iconst (-1), 1) := by decide +kernel
theorem dX8_run_64 : decode cX8_run 64 = .ok (.if_icmp .eq 10, 3) := by decide +kernel
theorem dX8_run_67 : decode cX8_run 67 = .ok (.aload_n 0, 1) := by decide +kernel
theorem dX8_run_68 : decode cX8_run 68 = .ok (.invokevirtual 224, 3) := by decide +kernel
theorem dX8_run_71 : decode cX8_run 71 = .ok (.ifCond .ge 5, 3) := by decide +kernel
theorem dX8_run_74 : decode cX8_run 74 = .ok (.iload_n 1, 1) := by decide +kernel
theorem dX8_run_75 : decode cX8_run 75 = .ok (.ireturn, 1) := by decide +kernel
theorem dX8_run_76 : decode cX8_run 76 = .ok (.iinc 1 1, 3) := by decide +kernel
theorem dX8_run_79 : decode cX8_run 79 = .ok (.iinc 3 1, 3) := by decide +kernel
theorem dX8_run_82 : decode cX8_run 82 = .ok (.goto (-46), 3) := by decide +kernel
theorem dX8_run_85 : decode cX8_run 85 = .ok (.iload_n 1, 1) := by decide +kernel
theorem dX8_run_86 : decode cX8_run 86 = .ok (.ireturn, 1) := by decide +kernel
theorem dX8_isBoardSize_0 : decode cX8_isBoardSize 0 = .ok (.iload_n 0, 1) := by decide +kernel
theorem dX8_isBoardSize_1 : decode cX8_isBoardSize 1 = .ok (.iconst 1, 1) := by decide +kernel
theorem dX8_isBoardSize_2 : decode cX8_isBoardSize 2 = .ok (.if_icmp .lt 30, 3) := by decide +kernel
theorem dX8_isBoardSize_5 : decode cX8_isBoardSize 5 = .ok (.iload_n 0, 1) := by decide +kernel
theorem dX8_isBoardSize_6 : decode cX8_isBoardSize 6 = .ok (.iconst 5, 1) := by decide +kernel
theorem dX8_isBoardSize_7 : decode cX8_isBoardSize 7 = .ok (.if_icmp .gt 25, 3) := by decide +kernel
theorem dX8_isBoardSize_10 : decode cX8_isBoardSize 10 = .ok (.iload_n 1, 1) := by decide +kernel
theorem dX8_isBoardSize_11 : decode cX8_isBoardSize 11 = .ok (.iconst 1, 1) := by decide +kernel
theorem dX8_isBoardSize_12 : decode cX8_isBoardSize 12 = .ok (.if_icmp .lt 20, 3) := by decide +kernel
theorem dX8_isBoardSize_15 : decode cX8_isBoardSize 15 = .ok (.iload_n 1, 1) := by decide +kernel
theorem dX8_isBoardSize_16 : decode cX8_isBoardSize 16 = .ok (.iconst 5, 1) := by decide +kernel
theorem dX8_isBoardSize_17 : decode cX8_isBoardSize 17 = .ok (.if_icmp .gt 15, 3) := by decide +kernel
theorem dX8_isBoardSize_20 : decode cX8_isBoardSize 20 = .ok (.iload_n 0, 1) := by decide +kernel
theorem dX8_isBoardSize_21 : decode cX8_isBoardSize 21 = .ok (.iload_n 1, 1) := by decide +kernel
theorem dX8_isBoardSize_22 : decode cX8_isBoardSize 22 = .ok (.imul, 1) := by decide +kernel
theorem dX8_isBoardSize_23 : decode cX8_isBoardSize 23 = .ok (.bipush 15, 2) := by decide +kernel
theorem dX8_isBoardSize_25 : decode cX8_isBoardSize 25 = .ok (.if_icmp .gt 7, 3) := by decide +kernel
theorem dX8_isBoardSize_28 : decode cX8_isBoardSize 28 = .ok (.iconst 1, 1) := by decide +kernel
theorem dX8_isBoardSize_29 : decode cX8_isBoardSize 29 = .ok (.goto 4, 3) := by decide +kernel
theorem dX8_isBoardSize_32 : decode cX8_isBoardSize 32 = .ok (.iconst 0, 1) := by decide +kernel
theorem dX8_isBoardSize_33 : decode cX8_isBoardSize 33 = .ok (.ireturn, 1) := by decide +kernel
theorem dX8_isContents_0 : decode cX8_isContents 0 = .ok (.iload_n 0, 1) := by decide +kernel
theorem dX8_isContents_1 : decode cX8_isContents 1 = .ok (.ifCond .lt 12, 3) := by decide +kernel
theorem dX8_isContents_4 : decode cX8_isContents 4 = .ok (.iload_n 0, 1) := by decide +kernel
theorem dX8_isContents_5 : decode cX8_isContents 5 = .ok (.iconst 3, 1) := by decide +kernel
theorem dX8_isContents_6 : decode cX8_isContents 6 = .ok (.if_icmp .gt 7, 3) := by decide +kernel
theorem dX8_isContents_9 : decode cX8_isContents 9 = .ok (.iconst 1, 1) := by decide +kernel
theorem dX8_isContents_10 : decode cX8_isContents 10 = .ok (.goto 4, 3) := by decide +kernel
theorem dX8_isContents_13 : decode cX8_isContents 13 = .ok (.iconst 0, 1) := by decide +kernel
theorem dX8_isContents_14 : decode cX8_isContents 14 = .ok (.ireturn, 1) := by decide +kernel
theorem dX8_isSide_0 : decode cX8_isSide 0 = .ok (.iload_n 0, 1) := by decide +kernel
theorem dX8_isSide_1 : decode cX8_isSide 1 = .ok (.iconst 1, 1) := by decide +kernel
theorem dX8_isSide_2 : decode cX8_isSide 2 = .ok (.if_icmp .eq 8, 3) := by decide +kernel
theorem dX8_isSide_5 : decode cX8_isSide 5 = .ok (.iload_n 0, 1) := by decide +kernel
theorem dX8_isSide_6 : decode cX8_isSide 6 = .ok (.iconst 2, 1) := by decide +kernel
theorem dX8_isSide_7 : decode cX8_isSide 7 = .ok (.if_icmp .ne 7, 3) := by decide +kernel
theorem dX8_isSide_10 : decode cX8_isSide 10 = .ok (.iconst 1, 1) := by decide +kernel
theorem dX8_isSide_11 : decode cX8_isSide 11 = .ok (.goto 4, 3) := by decide +kernel
theorem dX8_isSide_14 : decode cX8_isSide 14 = .ok (.iconst 0, 1) := by decide +kernel
theorem dX8_isSide_15 : decode cX8_isSide 15 = .ok (.ireturn, 1) := by decide +kernel
theorem dX8_otherSide_0 : decode cX8_otherSide 0 = .ok (.iconst 3, 1) := by decide +kernel
theorem dX8_otherSide_1 : decode cX8_otherSide 1 = .ok (.iload_n 0, 1) := by decide +kernel
theorem dX8_otherSide_2 : decode cX8_otherSide 2 = .ok (.isub, 1) := by decide +kernel
theorem dX8_otherSide_3 : decode cX8_otherSide 3 = .ok (.ireturn, 1) := by decide +kernel
theorem dX8_maskOf_0 : decode cX8_maskOf 0 = .ok (.iload_n 1, 1) := by decide +kernel
theorem dX8_maskOf_1 : decode cX8_maskOf 1 = .ok (.ifCond .ne 20, 3) := by decide +kernel
theorem dX8_maskOf_4 : decode cX8_maskOf 4 = .ok (.aload_n 0, 1) := by decide +kernel
theorem dX8_maskOf_5 : decode cX8_maskOf 5 = .ok (.getfield 69, 3) := by decide +kernel
theorem dX8_maskOf_8 : decode cX8_maskOf 8 = .ok (.aload_n 0, 1) := by decide +kernel
theorem dX8_maskOf_9 : decode cX8_maskOf 9 = .ok (.getfield 12, 3) := by decide +kernel
theorem dX8_maskOf_12 : decode cX8_maskOf 12 = .ok (.getfield 227, 3) := by decide +kernel
theorem dX8_maskOf_15 : decode cX8_maskOf 15 = .ok (.invokestatic 230, 3) := by decide +kernel
theorem dX8_maskOf_18 : decode cX8_maskOf 18 = .ok (.goto 11, 3) := by decide +kernel
theorem dX8_maskOf_21 : decode cX8_maskOf 21 = .ok (.aload_n 0, 1) := by decide +kernel
theorem dX8_maskOf_22 : decode cX8_maskOf 22 = .ok (.getfield 69, 3) := by decide +kernel
theorem dX8_maskOf_25 : decode cX8_maskOf 25 = .ok (.iload_n 1, 1) := by decide +kernel
theorem dX8_maskOf_26 : decode cX8_maskOf 26 = .ok (.invokestatic 233, 3) := by decide +kernel
theorem dX8_maskOf_29 : decode cX8_maskOf 29 = .ok (.ireturn, 1) := by decide +kernel
theorem dX8_putContents_0 : decode cX8_putContents 0 = .ok (.aload_n 0, 1) := by decide +kernel
theorem dX8_putContents_1 : decode cX8_putContents 1 = .ok (.getfield 12, 3) := by decide +kernel
theorem dX8_putContents_4 : decode cX8_putContents 4 = .ok (.iload_n 1, 1) := by decide +kernel
theorem dX8_putContents_5 : decode cX8_putContents 5 = .ok (.invokevirtual 95, 3) := by decide +kernel
theorem dX8_putContents_8 : decode cX8_putContents 8 = .ok (.ifCond .eq 10, 3) := by decide +kernel
theorem dX8_putContents_11 : decode cX8_putContents 11 = .ok (.iload_n 2, 1) := by decide +kernel
theorem dX8_putContents_12 : decode cX8_putContents 12 = .ok (.invokestatic 105, 3) := by decide +kernel
theorem dX8_putContents_15 : decode cX8_putContents 15 = .ok (.ifCond .ne 7, 3) := by decide +kernel
theorem dX8_putContents_18 : decode cX8_putContents 18 = .ok (.sipush (-1001), 3) := by decide +kernel
theorem dX8_putContents_21 : decode cX8_putContents 21 = .ok (.ireturn, 1) := by decide +kernel
theorem dX8_putContents_22 : decode cX8_putContents 22 = .ok (.aload_n 0, 1) := by decide +kernel
theorem dX8_putContents_23 : decode cX8_putContents 23 = .ok (.getfield 69, 3) := by decide +kernel
theorem dX8_putContents_26 : decode cX8_putContents 26 = .ok (.iload_n 1, 1) := by decide +kernel
theorem dX8_putContents_27 : decode cX8_putContents 27 = .ok (.invokestatic 99, 3) := by decide +kernel
theorem dX8_putContents_30 : decode cX8_putContents 30 = .ok (.istore_n 3, 1) := by decide +kernel
theorem dX8_putContents_31 : decode cX8_putContents 31 = .ok (.iload_n 2, 1) := by decide +kernel
theorem dX8_putContents_32 : decode cX8_putContents 32 = .ok (.invokestatic 138, 3) := by decide +kernel
theorem dX8_putContents_35 : decode cX8_putContents 35 = .ok (.ifCond .eq 12, 3) := by decide +kernel
theorem dX8_putContents_38 : decode cX8_putContents 38 = .ok (.iload_n 2, 1) := by decide +kernel
theorem dX8_putContents_39 : decode cX8_putContents 39 = .ok (.iload_n 3, 1) := by decide +kernel
theorem dX8_putContents_40 : decode cX8_putContents 40 = .ok (.if_icmp .eq 7, 3) := by decide +kernel
theorem dX8_putContents_43 : decode cX8_putContents 43 = .ok (.iconst 1, 1) := by decide +kernel
theorem dX8_putContents_44 : decode cX8_putContents 44 = .ok (.goto 4, 3) := by decide +kernel
theorem dX8_putContents_47 : decode cX8_putContents 47 = .ok (.iconst 0, 1) := by decide +kernel
theorem dX8_putContents_48 : decode cX8_putContents 48 = .ok (.istore 4, 2) := by decide +kernel
theorem dX8_putContents_50 : decode cX8_putContents 50 = .ok (.iload 4, 2) := by decide +kernel
theorem dX8_putContents_52 : decode cX8_putContents 52 = .ok (.ifCond .eq 19, 3) := by decide +kernel
theorem dX8_putContents_55 : decode cX8_putContents 55 = .ok (.aload_n 0, 1) := by decide +kernel
theorem dX8_putContents_56 : decode cX8_putContents 56 = .ok (.iload_n 2, 1) := by decide +kernel
theorem dX8_putContents_57 : decode cX8_putContents 57 = .ok (.invokevirtual 108, 3) := by decide +kernel
theorem dX8_putContents_60 : decode cX8_putContents 60 = .ok (.invokestatic 112, 3) := by decide +kernel
theorem dX8_putContents_63 : decode cX8_putContents 63 = .ok (.iconst 3, 1) := by decide +kernel
theorem dX8_putContents_64 : decode cX8_putContents 64 = .ok (.if_icmp .lt 7, 3) := by decide +kernel
theorem dX8_putContents_67 : decode cX8_putContents 67 = .ok (.sipush (-1003), 3) := by decide +kernel
theorem dX8_putContents_70 : decode cX8_putContents 70 = .ok (.ireturn, 1) := by decide +kernel
theorem dX8_putContents_71 : decode cX8_putContents 71 = .ok (.aload_n 0, 1) := by decide +kernel
theorem dX8_putContents_72 : decode cX8_putContents 72 = .ok (.aload_n 0, 1) := by decide +kernel
theorem dX8_putContents_73 : decode cX8_putContents 73 = .ok (.getfield 69, 3) := by decide +kernel
theorem dX8_putContents_76 : decode cX8_putContents 76 = .ok (.iload_n 1, 1) := by decide +kernel
theorem dX8_putContents_77 : decode cX8_putContents 77 = .ok (.iload_n 2, 1) := by decide +kernel
theorem dX8_putContents_78 : decode cX8_putContents 78 = .ok (.invokestatic 236, 3) := by decide +kernel
theorem dX8_putContents_81 : decode cX8_putContents 81 = .ok (.putfield 69, 3) := by decide +kernel
theorem dX8_putContents_84 : decode cX8_putContents 84 = .ok (.iload_n 3, 1) := by decide +kernel
theorem dX8_putContents_85 : decode cX8_putContents 85 = .ok (.ireturn, 1) := by decide +kernel
theorem dX8_makeMove_0 : decode cX8_makeMove 0 = .ok (.iload_n 1, 1) := by decide +kernel
theorem dX8_makeMove_1 : decode cX8_makeMove 1 = .ok (.invokestatic 138, 3) := by decide +kernel
theorem dX8_makeMove_4 : decode cX8_makeMove 4 = .ok (.ifCond .eq 37, 3) := by decide +kernel
theorem dX8_makeMove_7 : decode cX8_makeMove 7 = .ok (.aload_n 0, 1) := by decide +kernel
theorem dX8_makeMove_8 : decode cX8_makeMove 8 = .ok (.getfield 12, 3) := by decide +kernel
theorem dX8_makeMove_11 : decode cX8_makeMove 11 = .ok (.iload_n 2, 1) := by decide +kernel
theorem dX8_makeMove_12 : decode cX8_makeMove 12 = .ok (.invokevirtual 95, 3) := by decide +kernel
theorem dX8_makeMove_15 : decode cX8_makeMove 15 = .ok (.ifCond .eq 26, 3) := by decide +kernel
theorem dX8_makeMove_18 : decode cX8_makeMove 18 = .ok (.aload_n 0, 1) := by decide +kernel
theorem dX8_makeMove_19 : decode cX8_makeMove 19 = .ok (.getfield 12, 3) := by decide +kernel
theorem dX8_makeMove_22 : decode cX8_makeMove 22 = .ok (.iload_n 3, 1) := by decide +kernel
theorem dX8_makeMove_23 : decode cX8_makeMove 23 = .ok (.invokevirtual 95, 3) := by decide +kernel
theorem dX8_makeMove_26 : decode cX8_makeMove 26 = .ok (.ifCond .eq 15, 3) := by decide +kernel
theorem dX8_makeMove_29 : decode cX8_makeMove 29 = .ok (.aload_n 0, 1) := by decide +kernel
theorem dX8_makeMove_30 : decode cX8_makeMove 30 = .ok (.getfield 12, 3) := by decide +kernel
theorem dX8_makeMove_33 : decode cX8_makeMove 33 = .ok (.iload 4, 2) := by decide +kernel
theorem dX8_makeMove_35 : decode cX8_makeMove 35 = .ok (.invokevirtual 95, 3) := by decide +kernel
theorem dX8_makeMove_38 : decode cX8_makeMove 38 = .ok (.ifCond .ne 7, 3) := by decide +kernel
theorem dX8_makeMove_41 : decode cX8_makeMove 41 = .ok (.sipush (-1001), 3) := by decide +kernel
theorem dX8_makeMove_44 : decode cX8_makeMove 44 = .ok (.ireturn, 1) := by decide +kernel
theorem dX8_makeMove_45 : decode cX8_makeMove 45 = .ok (.aload_n 0, 1) := by decide +kernel
theorem dX8_makeMove_46 : decode cX8_makeMove 46 = .ok (.getfield 21, 3) := by decide +kernel
theorem dX8_makeMove_49 : decode cX8_makeMove 49 = .ok (.aload_n 0, 1) := by decide +kernel
theorem dX8_makeMove_50 : decode cX8_makeMove 50 = .ok (.getfield 69, 3) := by decide +kernel
theorem dX8_makeMove_53 : decode cX8_makeMove 53 = .ok (.iload_n 1, 1) := by decide +kernel
theorem dX8_makeMove_54 : decode cX8_makeMove 54 = .ok (.invokevirtual 141, 3) := by decide +kernel
theorem dX8_makeMove_57 : decode cX8_makeMove 57 = .ok (.aload_n 0, 1) := by decide +kernel
theorem dX8_makeMove_58 : decode cX8_makeMove 58 = .ok (.getfield 21, 3) := by decide +kernel
theorem dX8_makeMove_61 : decode cX8_makeMove 61 = .ok (.iload_n 2, 1) := by decide +kernel
theorem dX8_makeMove_62 : decode cX8_makeMove 62 = .ok (.iload_n 3, 1) := by decide +kernel
theorem dX8_makeMove_63 : decode cX8_makeMove 63 = .ok (.iload 4, 2) := by decide +kernel
theorem dX8_makeMove_65 : decode cX8_makeMove 65 = .ok (.invokevirtual 239, 3) := by decide +kernel
theorem dX8_makeMove_68 : decode cX8_makeMove 68 = .ok (.istore 5, 2) := by decide +kernel
theorem dX8_makeMove_70 : decode cX8_makeMove 70 = .ok (.iload 5, 2) := by decide +kernel
theorem dX8_makeMove_72 : decode cX8_makeMove 72 = .ok (.iconst (-1), 1) := by decide +kernel
theorem dX8_makeMove_73 : decode cX8_makeMove 73 = .ok (.if_icmp .ne 7, 3) := by decide +kernel
theorem dX8_makeMove_76 : decode cX8_makeMove 76 = .ok (.sipush (-1002), 3) := by decide +kernel
theorem dX8_makeMove_79 : decode cX8_makeMove 79 = .ok (.ireturn, 1) := by decide +kernel
theorem dX8_makeMove_80 : decode cX8_makeMove 80 = .ok (.aload_n 0, 1) := by decide +kernel
theorem dX8_makeMove_81 : decode cX8_makeMove 81 = .ok (.aload_n 0, 1) := by decide +kernel
theorem dX8_makeMove_82 : decode cX8_makeMove 82 = .ok (.getfield 21, 3) := by decide +kernel
theorem dX8_makeMove_85 : decode cX8_makeMove 85 = .ok (.aload_n 0, 1) := by decide +kernel
theorem dX8_makeMove_86 : decode cX8_makeMove 86 = .ok (.getfield 69, 3) := by decide +kernel
theorem dX8_makeMove_89 : decode cX8_makeMove 89 = .ok (.iload_n 1, 1) := by decide +kernel
theorem dX8_makeMove_90 : decode cX8_makeMove 90 = .ok (.iload 5, 2) := by decide +kernel
theorem dX8_makeMove_92 : decode cX8_makeMove 92 = .ok (.invokevirtual 199, 3) := by decide +kernel
theorem dX8_makeMove_95 : decode cX8_makeMove 95 = .ok (.putfield 69, 3) := by decide +kernel
theorem dX8_makeMove_98 : decode cX8_makeMove 98 = .ok (.aload_n 0, 1) := by decide +kernel
theorem dX8_makeMove_99 : decode cX8_makeMove 99 = .ok (.getfield 21, 3) := by decide +kernel
theorem dX8_makeMove_102 : decode cX8_makeMove 102 = .ok (.aload_n 0, 1) := by decide +kernel
theorem dX8_makeMove_103 : decode cX8_makeMove 103 = .ok (.getfield 69, 3) := by decide +kernel
theorem dX8_makeMove_106 : decode cX8_makeMove 106 = .ok (.iload_n 1, 1) := by decide +kernel
theorem dX8_makeMove_107 : decode cX8_makeMove 107 = .ok (.invokestatic 176, 3) := by decide +kernel
theorem dX8_makeMove_110 : decode cX8_makeMove 110 = .ok (.invokevirtual 141, 3) := by decide +kernel
theorem dX8_makeMove_113 : decode cX8_makeMove 113 = .ok (.aload_n 0, 1) := by decide +kernel
theorem dX8_makeMove_114 : decode cX8_makeMove 114 = .ok (.getfield 21, 3) := by decide +kernel
theorem dX8_makeMove_117 : decode cX8_makeMove 117 = .ok (.getfield 145, 3) := by decide +kernel
theorem dX8_makeMove_120 : decode cX8_makeMove 120 = .ok (.ireturn, 1) := by decide +kernel
theorem dX8_executeCommand_0 : decode cX8_executeCommand 0 = .ok (.aload_n 0, 1) := by decide +kernel
theorem dX8_executeCommand_1 : decode cX8_executeCommand 1 = .ok (.getfield 61, 3) := by decide +kernel
theorem dX8_executeCommand_4 : decode cX8_executeCommand 4 = .ok (.getfield 242, 3) := by decide +kernel
theorem dX8_executeCommand_7 : decode cX8_executeCommand 7 = .ok (.astore_n 1, 1) := by decide +kernel
theorem dX8_executeCommand_8 : decode cX8_executeCommand 8 = .ok (.aload_n 0, 1) := by decide +kernel
theorem dX8_executeCommand_9 : decode cX8_executeCommand 9 = .ok (.getfield 61, 3) := by decide +kernel
theorem dX8_executeCommand_12 : decode cX8_executeCommand 12 = .ok (.getfield 245, 3) := by decide +kernel
theorem dX8_executeCommand_15 : decode cX8_executeCommand 15 = .ok (.iconst 5, 1) := by decide +kernel
theorem dX8_executeCommand_16 : decode cX8_executeCommand 16 = .ok (.if_icmp .ne 5, 3) := by decide +kernel
theorem dX8_executeCommand_19 : decode cX8_executeCommand 19 = .ok (.iconst 0, 1) := by decide +kernel
theorem dX8_executeCommand_20 : decode cX8_executeCommand 20 = .ok (.ireturn, 1) := by decide +kernel
theorem dX8_executeCommand_21 : decode cX8_executeCommand 21 = .ok (.aload_n 0, 1) := by decide +kernel
theorem dX8_executeCommand_22 : decode cX8_executeCommand 22 = .ok (.getfield 61, 3) := by decide +kernel
theorem dX8_executeCommand_25 : decode cX8_executeCommand 25 = .ok (.getfield 245, 3) := by decide +kernel
theorem dX8_executeCommand_28 : decode cX8_executeCommand 28 = .ok (.iconst 4, 1) := by decide +kernel
theorem dX8_executeCommand_29 : decode cX8_executeCommand 29 = .ok (.if_icmp .ne 20, 3) := by decide +kernel
theorem dX8_executeCommand_32 : decode cX8_executeCommand 32 = .ok (.aload_n 0, 1) := by decide +kernel
theorem dX8_executeCommand_33 : decode cX8_executeCommand 33 = .ok (.aload_n 1, 1) := by decide +kernel
theorem dX8_executeCommand_34 : decode cX8_executeCommand 34 = .ok (.iconst 0, 1) := by decide +kernel
theorem dX8_executeCommand_35 : decode cX8_executeCommand 35 = .ok (.iaload, 1) := by decide +kernel
theorem dX8_executeCommand_36 : decode cX8_executeCommand 36 = .ok (.aload_n 1, 1) := by decide +kernel
theorem dX8_executeCommand_37 : decode cX8_executeCommand 37 = .ok (.iconst 1, 1) := by decide +kernel
theorem dX8_executeCommand_38 : decode cX8_executeCommand 38 = .ok (.iaload, 1) := by decide +kernel
theorem dX8_executeCommand_39 : decode cX8_executeCommand 39 = .ok (.aload_n 1, 1) := by decide +kernel
theorem dX8_executeCommand_40 : decode cX8_executeCommand 40 = .ok (.iconst 2, 1) := by decide +kernel
theorem dX8_executeCommand_41 : decode cX8_executeCommand 41 = .ok (.iaload, 1) := by decide +kernel
theorem dX8_executeCommand_42 : decode cX8_executeCommand 42 = .ok (.aload_n 1, 1) := by decide +kernel
theorem dX8_executeCommand_43 : decode cX8_executeCommand 43 = .ok (.iconst 3, 1) := by decide +kernel
theorem dX8_executeCommand_44 : decode cX8_executeCommand 44 = .ok (.iaload, 1) := by decide +kernel
theorem dX8_executeCommand_45 : decode cX8_executeCommand 45 = .ok (.invokevirtual 134, 3) := by decide +kernel
theorem dX8_executeCommand_48 : decode cX8_executeCommand 48 = .ok (.ireturn, 1) := by decide +kernel
theorem dX8_executeCommand_49 : decode cX8_executeCommand 49 = .ok (.aload_n 0, 1) := by decide +kernel
theorem dX8_executeCommand_50 : decode cX8_executeCommand 50 = .ok (.aload_n 1, 1) := by decide +kernel
theorem dX8_executeCommand_51 : decode cX8_executeCommand 51 = .ok (.iconst 0, 1) := by decide +kernel
theorem dX8_executeCommand_52 : decode cX8_executeCommand 52 = .ok (.iaload, 1) := by decide +kernel
theorem dX8_executeCommand_53 : decode cX8_executeCommand 53 = .ok (.aload_n 0, 1) := by decide +kernel
theorem dX8_executeCommand_54 : decode cX8_executeCommand 54 = .ok (.getfield 61, 3) := by decide +kernel
theorem dX8_executeCommand_57 : decode cX8_executeCommand 57 = .ok (.getfield 245, 3) := by decide +kernel
theorem dX8_executeCommand_60 : decode cX8_executeCommand 60 = .ok (.invokevirtual 91, 3) := by decide +kernel
theorem dX8_executeCommand_63 : decode cX8_executeCommand 63 = .ok (.ireturn, 1) := by decide +kernel
theorem dX8_divideBoard_0 : decode cX8_divideBoard 0 = .ok (.aload_n 0, 1) := by decide +kernel
theorem dX8_divideBoard_1 : decode cX8_divideBoard 1 = .ok (.getfield 40, 3) := by decide +kernel
theorem dX8_divideBoard_4 : decode cX8_divideBoard 4 = .ok (.aload_n 0, 1) := by decide +kernel
theorem dX8_divideBoard_5 : decode cX8_divideBoard 5 = .ok (.getfield 12, 3) := by decide +kernel
theorem dX8_divideBoard_8 : decode cX8_divideBoard 8 = .ok (.aload_n 0, 1) := by decide +kernel
theorem dX8_divideBoard_9 : decode cX8_divideBoard 9 = .ok (.getfield 12, 3) := by decide +kernel
theorem dX8_divideBoard_12 : decode cX8_divideBoard 12 = .ok (.getfield 227, 3) := by decide +kernel
theorem dX8_divideBoard_15 : decode cX8_divideBoard 15 = .ok (.aload_n 0, 1) := by decide +kernel
theorem dX8_divideBoard_16 : decode cX8_divideBoard 16 = .ok (.iconst 3, 1) := by decide +kernel
theorem dX8_divideBoard_17 : decode cX8_divideBoard 17 = .ok (.invokevirtual 108, 3) := by decide +kernel
theorem dX8_divideBoard_20 : decode cX8_divideBoard 20 = .ok (.iconst (-1), 1) := by decide +kernel
theorem dX8_divideBoard_21 : decode cX8_divideBoard 21 = .ok (.ixor, 1) := by decide +kernel
theorem dX8_divideBoard_22 : decode cX8_divideBoard 22 = .ok (.iand, 1) := by decide +kernel
theorem dX8_divideBoard_23 : decode cX8_divideBoard 23 = .ok (.invokevirtual 248, 3) := by decide +kernel
theorem dX8_divideBoard_26 : decode cX8_divideBoard 26 = .ok (.return_, 1) := by decide +kernel
theorem dX8_kindOf_0 : decode cX8_kindOf 0 = .ok (.iconst 0, 1) := by decide +kernel
theorem dX8_kindOf_1 : decode cX8_kindOf 1 = .ok (.istore_n 2, 1) := by decide +kernel
theorem dX8_kindOf_2 : decode cX8_kindOf 2 = .ok (.iload_n 1, 1) := by decide +kernel
theorem dX8_kindOf_3 : decode cX8_kindOf 3 = .ok (.aload_n 0, 1) := by decide +kernel
theorem dX8_kindOf_4 : decode cX8_kindOf 4 = .ok (.iconst 1, 1) := by decide +kernel
theorem dX8_kindOf_5 : decode cX8_kindOf 5 = .ok (.invokevirtual 108, 3) := by decide +kernel
theorem dX8_kindOf_8 : decode cX8_kindOf 8 = .ok (.iand, 1) := by decide +kernel
theorem dX8_kindOf_9 : decode cX8_kindOf 9 = .ok (.ifCond .eq 6, 3) := by decide +kernel
theorem dX8_kindOf_12 : decode cX8_kindOf 12 = .ok (.iinc 2 1, 3) := by decide +kernel
theorem dX8_kindOf_15 : decode cX8_kindOf 15 = .ok (.iload_n 1, 1) := by decide +kernel
theorem dX8_kindOf_16 : decode cX8_kindOf 16 = .ok (.aload_n 0, 1) := by decide +kernel
theorem dX8_kindOf_17 : decode cX8_kindOf 17 = .ok (.iconst 2, 1) := by decide +kernel
theorem dX8_kindOf_18 : decode cX8_kindOf 18 = .ok (.invokevirtual 108, 3) := by decide +kernel
theorem dX8_kindOf_21 : decode cX8_kindOf 21 = .ok (.iand, 1) := by decide +kernel
theorem dX8_kindOf_22 : decode cX8_kindOf 22 = .ok (.ifCond .eq 6, 3) := by decide +kernel
theorem dX8_kindOf_25 : decode cX8_kindOf 25 = .ok (.iinc 2 2, 3) := by decide +kernel
theorem dX8_kindOf_28 : decode cX8_kindOf 28 = .ok (.iload_n 2, 1) := by decide +kernel
theorem dX8_kindOf_29 : decode cX8_kindOf 29 = .ok (.ireturn, 1) := by decide +kernel
theorem dX8_isShared_0 : decode cX8_isShared 0 = .ok (.aload_n 0, 1) := by decide +kernel
theorem dX8_isShared_1 : decode cX8_isShared 1 = .ok (.iload_n 1, 1) := by decide +kernel
theorem dX8_isShared_2 : decode cX8_isShared 2 = .ok (.invokevirtual 163, 3) := by decide +kernel
theorem dX8_isShared_5 : decode cX8_isShared 5 = .ok (.iconst 3, 1) := by decide +kernel
theorem dX8_isShared_6 : decode cX8_isShared 6 = .ok (.if_icmp .ne 7, 3) := by decide +kernel
theorem dX8_isShared_9 : decode cX8_isShared 9 = .ok (.iconst 1, 1) := by decide +kernel
theorem dX8_isShared_10 : decode cX8_isShared 10 = .ok (.goto 4, 3) := by decide +kernel
theorem dX8_isShared_13 : decode cX8_isShared 13 = .ok (.iconst 0, 1) := by decide +kernel
theorem dX8_isShared_14 : decode cX8_isShared 14 = .ok (.ireturn, 1) := by decide +kernel
theorem dX8_aloneOf_0 : decode cX8_aloneOf 0 = .ok (.iload_n 1, 1) := by decide +kernel
theorem dX8_aloneOf_1 : decode cX8_aloneOf 1 = .ok (.aload_n 0, 1) := by decide +kernel
theorem dX8_aloneOf_2 : decode cX8_aloneOf 2 = .ok (.iconst 1, 1) := by decide +kernel
theorem dX8_aloneOf_3 : decode cX8_aloneOf 3 = .ok (.invokevirtual 108, 3) := by decide +kernel
theorem dX8_aloneOf_6 : decode cX8_aloneOf 6 = .ok (.iand, 1) := by decide +kernel
theorem dX8_aloneOf_7 : decode cX8_aloneOf 7 = .ok (.iload_n 1, 1) := by decide +kernel
theorem dX8_aloneOf_8 : decode cX8_aloneOf 8 = .ok (.aload_n 0, 1) := by decide +kernel
theorem dX8_aloneOf_9 : decode cX8_aloneOf 9 = .ok (.iconst 2, 1) := by decide +kernel
theorem dX8_aloneOf_10 : decode cX8_aloneOf 10 = .ok (.invokevirtual 108, 3) := by decide +kernel
theorem dX8_aloneOf_13 : decode cX8_aloneOf 13 = .ok (.iand, 1) := by decide +kernel
theorem dX8_aloneOf_14 : decode cX8_aloneOf 14 = .ok (.aload_n 0, 1) := by decide +kernel
theorem dX8_aloneOf_15 : decode cX8_aloneOf 15 = .ok (.getfield 12, 3) := by decide +kernel
theorem dX8_aloneOf_18 : decode cX8_aloneOf 18 = .ok (.getfield 227, 3) := by decide +kernel
theorem dX8_aloneOf_21 : decode cX8_aloneOf 21 = .ok (.iload_n 1, 1) := by decide +kernel
theorem dX8_aloneOf_22 : decode cX8_aloneOf 22 = .ok (.iconst (-1), 1) := by decide +kernel
theorem dX8_aloneOf_23 : decode cX8_aloneOf 23 = .ok (.ixor, 1) := by decide +kernel
theorem dX8_aloneOf_24 : decode cX8_aloneOf 24 = .ok (.iand, 1) := by decide +kernel
theorem dX8_aloneOf_25 : decode cX8_aloneOf 25 = .ok (.invokestatic 252, 3) := by decide +kernel
theorem dX8_aloneOf_28 : decode cX8_aloneOf 28 = .ok (.lreturn, 1) := by decide +kernel
theorem dX8_askValue_0 : decode cX8_askValue 0 = .ok (.aload_n 0, 1) := by decide +kernel
theorem dX8_askValue_1 : decode cX8_askValue 1 = .ok (.iload_n 1, 1) := by decide +kernel
theorem dX8_askValue_2 : decode cX8_askValue 2 = .ok (.invokevirtual 163, 3) := by decide +kernel
theorem dX8_askValue_5 : decode cX8_askValue 5 = .ok (.istore_n 2, 1) := by decide +kernel
theorem dX8_askValue_6 : decode cX8_askValue 6 = .ok (.iload_n 2, 1) := by decide +kernel
theorem dX8_askValue_7 : decode cX8_askValue 7 = .ok (.invokestatic 138, 3) := by decide +kernel
theorem dX8_askValue_10 : decode cX8_askValue 10 = .ok (.ifCond .ne 5, 3) := by decide +kernel
theorem dX8_askValue_13 : decode cX8_askValue 13 = .ok (.iconst 0, 1) := by decide +kernel
theorem dX8_askValue_14 : decode cX8_askValue 14 = .ok (.ireturn, 1) := by decide +kernel
theorem dX8_askValue_15 : decode cX8_askValue 15 = .ok (.aload_n 0, 1) := by decide +kernel
theorem dX8_askValue_16 : decode cX8_askValue 16 = .ok (.iload_n 1, 1) := by decide +kernel
theorem dX8_askValue_17 : decode cX8_askValue 17 = .ok (.invokevirtual 195, 3) := by decide +kernel
theorem dX8_askValue_20 : decode cX8_askValue 20 = .ok (.lstore_n 3, 1) := by decide +kernel
theorem dX8_askValue_21 : decode cX8_askValue 21 = .ok (.aload_n 0, 1) := by decide +kernel
theorem dX8_askValue_22 : decode cX8_askValue 22 = .ok (.getfield 47, 3) := by decide +kernel
theorem dX8_askValue_25 : decode cX8_askValue 25 = .ok (.lload_n 3, 1) := by decide +kernel
theorem dX8_askValue_26 : decode cX8_askValue 26 = .ok (.invokevirtual 256, 3) := by decide +kernel
theorem dX8_askValue_29 : decode cX8_askValue 29 = .ok (.istore 5, 2) := by decide +kernel
theorem dX8_askValue_31 : decode cX8_askValue 31 = .ok (.iload 5, 2) := by decide +kernel
theorem dX8_askValue_33 : decode cX8_askValue 33 = .ok (.iconst (-1), 1) := by decide +kernel
theorem dX8_askValue_34 : decode cX8_askValue 34 = .ok (.if_icmp .eq 27, 3) := by decide +kernel
theorem dX8_askValue_37 : decode cX8_askValue 37 = .ok (.aload_n 0, 1) := by decide +kernel
theorem dX8_askValue_38 : decode cX8_askValue 38 = .ok (.getfield 47, 3) := by decide +kernel
theorem dX8_askValue_41 : decode cX8_askValue 41 = .ok (.dup, 1) := by decide +kernel
theorem dX8_askValue_42 : decode cX8_askValue 42 = .ok (.getfield 173, 3) := by decide +kernel
theorem dX8_askValue_45 : decode cX8_askValue 45 = .ok (.iconst 1, 1) := by decide +kernel
theorem dX8_askValue_46 : decode cX8_askValue 46 = .ok (.iadd, 1) := by decide +kernel
theorem dX8_askValue_47 : decode cX8_askValue 47 = .ok (.putfield 173, 3) := by decide +kernel
theorem dX8_askValue_50 : decode cX8_askValue 50 = .ok (.aload_n 0, 1) := by decide +kernel
theorem dX8_askValue_51 : decode cX8_askValue 51 = .ok (.getfield 47, 3) := by decide +kernel
theorem dX8_askValue_54 : decode cX8_askValue 54 = .ok (.getfield 257, 3) := by decide +kernel
theorem dX8_askValue_57 : decode cX8_askValue 57 = .ok (.iload 5, 2) := by decide +kernel
theorem dX8_askValue_59 : decode cX8_askValue 59 = .ok (.iaload, 1) := by decide +kernel
theorem dX8_askValue_60 : decode cX8_askValue 60 = .ok (.ireturn, 1) := by decide +kernel
theorem dX8_askValue_61 : decode cX8_askValue 61 = .ok (.aload_n 0, 1) := by decide +kernel
theorem dX8_askValue_62 : decode cX8_askValue 62 = .ok (.getfield 30, 3) := by decide +kernel
theorem dX8_askValue_65 : decode cX8_askValue 65 = .ok (.lload_n 3, 1) := by decide +kernel
theorem dX8_askValue_66 : decode cX8_askValue 66 = .ok (.iload_n 2, 1) := by decide +kernel
theorem dX8_askValue_67 : decode cX8_askValue 67 = .ok (.iload_n 2, 1) := by decide +kernel
theorem dX8_askValue_68 : decode cX8_askValue 68 = .ok (.invokevirtual 179, 3) := by decide +kernel
theorem dX8_askValue_71 : decode cX8_askValue 71 = .ok (.ifCond .ne 7, 3) := by decide +kernel
theorem dX8_askValue_74 : decode cX8_askValue 74 = .ok (.sipush (-1004), 3) := by decide +kernel
theorem dX8_askValue_77 : decode cX8_askValue 77 = .ok (.ireturn, 1) := by decide +kernel
theorem dX8_askValue_78 : decode cX8_askValue 78 = .ok (.aload_n 0, 1) := by decide +kernel
theorem dX8_askValue_79 : decode cX8_askValue 79 = .ok (.getfield 30, 3) := by decide +kernel
theorem dX8_askValue_82 : decode cX8_askValue 82 = .ok (.invokevirtual 258, 3) := by decide +kernel
theorem dX8_askValue_85 : decode cX8_askValue 85 = .ok (.istore 6, 2) := by decide +kernel
theorem dX8_askValue_87 : decode cX8_askValue 87 = .ok (.aload_n 0, 1) := by decide +kernel
theorem dX8_askValue_88 : decode cX8_askValue 88 = .ok (.getfield 47, 3) := by decide +kernel
theorem dX8_askValue_91 : decode cX8_askValue 91 = .ok (.lload_n 3, 1) := by decide +kernel
theorem dX8_askValue_92 : decode cX8_askValue 92 = .ok (.iload 6, 2) := by decide +kernel
theorem dX8_askValue_94 : decode cX8_askValue 94 = .ok (.invokevirtual 261, 3) := by decide +kernel
theorem dX8_askValue_97 : decode cX8_askValue 97 = .ok (.iload 6, 2) := by decide +kernel
theorem dX8_askValue_99 : decode cX8_askValue 99 = .ok (.ireturn, 1) := by decide +kernel
theorem dX8_exploreAndSolve_0 : decode cX8_exploreAndSolve 0 = .ok (.aload_n 0, 1) := by decide +kernel
theorem dX8_exploreAndSolve_1 : decode cX8_exploreAndSolve 1 = .ok (.lload_n 1, 1) := by decide +kernel
theorem dX8_exploreAndSolve_2 : decode cX8_exploreAndSolve 2 = .ok (.iload_n 3, 1) := by decide +kernel
theorem dX8_exploreAndSolve_3 : decode cX8_exploreAndSolve 3 = .ok (.iload_n 3, 1) := by decide +kernel
theorem dX8_exploreAndSolve_4 : decode cX8_exploreAndSolve 4 = .ok (.invokestatic 176, 3) := by decide +kernel
theorem dX8_exploreAndSolve_7 : decode cX8_exploreAndSolve 7 = .ok (.invokevirtual 179, 3) := by decide +kernel
theorem dX8_exploreAndSolve_10 : decode cX8_exploreAndSolve 10 = .ok (.ifCond .ne 5, 3) := by decide +kernel
theorem dX8_exploreAndSolve_13 : decode cX8_exploreAndSolve 13 = .ok (.iconst 0, 1) := by decide +kernel
theorem dX8_exploreAndSolve_14 : decode cX8_exploreAndSolve 14 = .ok (.ireturn, 1) := by decide +kernel
theorem dX8_exploreAndSolve_15 : decode cX8_exploreAndSolve 15 = .ok (.aload_n 0, 1) := by decide +kernel
theorem dX8_exploreAndSolve_16 : decode cX8_exploreAndSolve 16 = .ok (.invokevirtual 264, 3) := by decide +kernel
theorem dX8_exploreAndSolve_19 : decode cX8_exploreAndSolve 19 = .ok (.iconst 1, 1) := by decide +kernel
theorem dX8_exploreAndSolve_20 : decode cX8_exploreAndSolve 20 = .ok (.ireturn, 1) := by decide +kernel
theorem dX8_findOutcome_0 : decode cX8_findOutcome 0 = .ok (.aload_n 0, 1) := by decide +kernel
theorem dX8_findOutcome_1 : decode cX8_findOutcome 1 = .ok (.getfield 30, 3) := by decide +kernel
theorem dX8_findOutcome_4 : decode cX8_findOutcome 4 = .ok (.lload_n 1, 1) := by decide +kernel
theorem dX8_findOutcome_5 : decode cX8_findOutcome 5 = .ok (.iconst 1, 1) := by decide +kernel
theorem dX8_findOutcome_6 : decode cX8_findOutcome 6 = .ok (.invokestatic 184, 3) := by decide +kernel
theorem dX8_findOutcome_9 : decode cX8_findOutcome 9 = .ok (.ifCond .eq 15, 3) := by decide +kernel
theorem dX8_findOutcome_12 : decode cX8_findOutcome 12 = .ok (.aload_n 0, 1) := by decide +kernel
theorem dX8_findOutcome_13 : decode cX8_findOutcome 13 = .ok (.getfield 34, 3) := by decide +kernel
theorem dX8_findOutcome_16 : decode cX8_findOutcome 16 = .ok (.lload_n 1, 1) := by decide +kernel
theorem dX8_findOutcome_17 : decode cX8_findOutcome 17 = .ok (.iconst 2, 1) := by decide +kernel
theorem dX8_findOutcome_18 : decode cX8_findOutcome 18 = .ok (.invokestatic 184, 3) := by decide +kernel
theorem dX8_findOutcome_21 : decode cX8_findOutcome 21 = .ok (.ifCond .ne 7, 3) := by decide +kernel
theorem dX8_findOutcome_24 : decode cX8_findOutcome 24 = .ok (.sipush (-1004), 3) := by decide +kernel
theorem dX8_findOutcome_27 : decode cX8_findOutcome 27 = .ok (.ireturn, 1) := by decide +kernel
theorem dX8_findOutcome_28 : decode cX8_findOutcome 28 = .ok (.aload_n 0, 1) := by decide +kernel
theorem dX8_findOutcome_29 : decode cX8_findOutcome 29 = .ok (.getfield 30, 3) := by decide +kernel
theorem dX8_findOutcome_32 : decode cX8_findOutcome 32 = .ok (.iconst 0, 1) := by decide +kernel
theorem dX8_findOutcome_33 : decode cX8_findOutcome 33 = .ok (.invokevirtual 188, 3) := by decide +kernel
theorem dX8_findOutcome_36 : decode cX8_findOutcome 36 = .ok (.istore_n 3, 1) := by decide +kernel
theorem dX8_findOutcome_37 : decode cX8_findOutcome 37 = .ok (.aload_n 0, 1) := by decide +kernel
theorem dX8_findOutcome_38 : decode cX8_findOutcome 38 = .ok (.getfield 34, 3) := by decide +kernel
theorem dX8_findOutcome_41 : decode cX8_findOutcome 41 = .ok (.iconst 0, 1) := by decide +kernel
theorem dX8_findOutcome_42 : decode cX8_findOutcome 42 = .ok (.invokevirtual 188, 3) := by decide +kernel
theorem dX8_findOutcome_45 : decode cX8_findOutcome 45 = .ok (.istore 4, 2) := by decide +kernel
theorem dX8_findOutcome_47 : decode cX8_findOutcome 47 = .ok (.iload_n 3, 1) := by decide +kernel
theorem dX8_findOutcome_48 : decode cX8_findOutcome 48 = .ok (.ifCond .eq 14, 3) := by decide +kernel
theorem dX8_findOutcome_51 : decode cX8_findOutcome 51 = .ok (.iload 4, 2) := by decide +kernel
theorem dX8_findOutcome_53 : decode cX8_findOutcome 53 = .ok (.ifCond .eq 7, 3) := by decide +kernel
theorem dX8_findOutcome_56 : decode cX8_findOutcome 56 = .ok (.iconst 2, 1) := by decide +kernel
theorem dX8_findOutcome_57 : decode cX8_findOutcome 57 = .ok (.goto 4, 3) := by decide +kernel
theorem dX8_findOutcome_60 : decode cX8_findOutcome 60 = .ok (.iconst 0, 1) := by decide +kernel
theorem dX8_findOutcome_61 : decode cX8_findOutcome 61 = .ok (.ireturn, 1) := by decide +kernel
theorem dX8_findOutcome_62 : decode cX8_findOutcome 62 = .ok (.iload 4, 2) := by decide +kernel
theorem dX8_findOutcome_64 : decode cX8_findOutcome 64 = .ok (.ifCond .eq 7, 3) := by decide +kernel
theorem dX8_findOutcome_67 : decode cX8_findOutcome 67 = .ok (.iconst 1, 1) := by decide +kernel
theorem dX8_findOutcome_68 : decode cX8_findOutcome 68 = .ok (.goto 4, 3) := by decide +kernel
theorem dX8_findOutcome_71 : decode cX8_findOutcome 71 = .ok (.iconst 3, 1) := by decide +kernel
theorem dX8_findOutcome_72 : decode cX8_findOutcome 72 = .ok (.ireturn, 1) := by decide +kernel
theorem dJ6_bitCount_0f7a4_0 : decode cJ6_bitCount_0f7a4 0 = .ok (.iload_n 0, 1) := by decide +kernel
theorem dJ6_bitCount_0f7a4_1 : decode cJ6_bitCount_0f7a4 1 = .ok (.iload_n 0, 1) := by decide +kernel
theorem dJ6_bitCount_0f7a4_2 : decode cJ6_bitCount_0f7a4 2 = .ok (.iconst 1, 1) := by decide +kernel
theorem dJ6_bitCount_0f7a4_3 : decode cJ6_bitCount_0f7a4 3 = .ok (.iushr, 1) := by decide +kernel
theorem dJ6_bitCount_0f7a4_4 : decode cJ6_bitCount_0f7a4 4 = .ok (.ldc_w 265, 3) := by decide +kernel
theorem dJ6_bitCount_0f7a4_7 : decode cJ6_bitCount_0f7a4 7 = .ok (.iand, 1) := by decide +kernel
theorem dJ6_bitCount_0f7a4_8 : decode cJ6_bitCount_0f7a4 8 = .ok (.isub, 1) := by decide +kernel
theorem dJ6_bitCount_0f7a4_9 : decode cJ6_bitCount_0f7a4 9 = .ok (.istore_n 0, 1) := by decide +kernel
theorem dJ6_bitCount_0f7a4_10 : decode cJ6_bitCount_0f7a4 10 = .ok (.iload_n 0, 1) := by decide +kernel
theorem dJ6_bitCount_0f7a4_11 : decode cJ6_bitCount_0f7a4 11 = .ok (.ldc_w 266, 3) := by decide +kernel
theorem dJ6_bitCount_0f7a4_14 : decode cJ6_bitCount_0f7a4 14 = .ok (.iand, 1) := by decide +kernel
theorem dJ6_bitCount_0f7a4_15 : decode cJ6_bitCount_0f7a4 15 = .ok (.iload_n 0, 1) := by decide +kernel
theorem dJ6_bitCount_0f7a4_16 : decode cJ6_bitCount_0f7a4 16 = .ok (.iconst 2, 1) := by decide +kernel
theorem dJ6_bitCount_0f7a4_17 : decode cJ6_bitCount_0f7a4 17 = .ok (.iushr, 1) := by decide +kernel
theorem dJ6_bitCount_0f7a4_18 : decode cJ6_bitCount_0f7a4 18 = .ok (.ldc_w 266, 3) := by decide +kernel
theorem dJ6_bitCount_0f7a4_21 : decode cJ6_bitCount_0f7a4 21 = .ok (.iand, 1) := by decide +kernel
theorem dJ6_bitCount_0f7a4_22 : decode cJ6_bitCount_0f7a4 22 = .ok (.iadd, 1) := by decide +kernel
theorem dJ6_bitCount_0f7a4_23 : decode cJ6_bitCount_0f7a4 23 = .ok (.istore_n 0, 1) := by decide +kernel
theorem dJ6_bitCount_0f7a4_24 : decode cJ6_bitCount_0f7a4 24 = .ok (.iload_n 0, 1) := by decide +kernel
theorem dJ6_bitCount_0f7a4_25 : decode cJ6_bitCount_0f7a4 25 = .ok (.iload_n 0, 1) := by decide +kernel
theorem dJ6_bitCount_0f7a4_26 : decode cJ6_bitCount_0f7a4 26 = .ok (.iconst 4, 1) := by decide +kernel
theorem dJ6_bitCount_0f7a4_27 : decode cJ6_bitCount_0f7a4 27 = .ok (.iushr, 1) := by decide +kernel
theorem dJ6_bitCount_0f7a4_28 : decode cJ6_bitCount_0f7a4 28 = .ok (.iadd, 1) := by decide +kernel
theorem dJ6_bitCount_0f7a4_29 : decode cJ6_bitCount_0f7a4 29 = .ok (.ldc_w 267, 3) := by decide +kernel
theorem dJ6_bitCount_0f7a4_32 : decode cJ6_bitCount_0f7a4 32 = .ok (.iand, 1) := by decide +kernel
theorem dJ6_bitCount_0f7a4_33 : decode cJ6_bitCount_0f7a4 33 = .ok (.istore_n 0, 1) := by decide +kernel
theorem dJ6_bitCount_0f7a4_34 : decode cJ6_bitCount_0f7a4 34 = .ok (.iload_n 0, 1) := by decide +kernel
theorem dJ6_bitCount_0f7a4_35 : decode cJ6_bitCount_0f7a4 35 = .ok (.iload_n 0, 1) := by decide +kernel
theorem dJ6_bitCount_0f7a4_36 : decode cJ6_bitCount_0f7a4 36 = .ok (.bipush 8, 2) := by decide +kernel
theorem dJ6_bitCount_0f7a4_38 : decode cJ6_bitCount_0f7a4 38 = .ok (.iushr, 1) := by decide +kernel
theorem dJ6_bitCount_0f7a4_39 : decode cJ6_bitCount_0f7a4 39 = .ok (.iadd, 1) := by decide +kernel
theorem dJ6_bitCount_0f7a4_40 : decode cJ6_bitCount_0f7a4 40 = .ok (.istore_n 0, 1) := by decide +kernel
theorem dJ6_bitCount_0f7a4_41 : decode cJ6_bitCount_0f7a4 41 = .ok (.iload_n 0, 1) := by decide +kernel
theorem dJ6_bitCount_0f7a4_42 : decode cJ6_bitCount_0f7a4 42 = .ok (.iload_n 0, 1) := by decide +kernel
theorem dJ6_bitCount_0f7a4_43 : decode cJ6_bitCount_0f7a4 43 = .ok (.bipush 16, 2) := by decide +kernel
theorem dJ6_bitCount_0f7a4_45 : decode cJ6_bitCount_0f7a4 45 = .ok (.iushr, 1) := by decide +kernel
theorem dJ6_bitCount_0f7a4_46 : decode cJ6_bitCount_0f7a4 46 = .ok (.iadd, 1) := by decide +kernel
theorem dJ6_bitCount_0f7a4_47 : decode cJ6_bitCount_0f7a4 47 = .ok (.istore_n 0, 1) := by decide +kernel
theorem dJ6_bitCount_0f7a4_48 : decode cJ6_bitCount_0f7a4 48 = .ok (.iload_n 0, 1) := by decide +kernel
theorem dJ6_bitCount_0f7a4_49 : decode cJ6_bitCount_0f7a4 49 = .ok (.bipush 63, 2) := by decide +kernel
theorem dJ6_bitCount_0f7a4_51 : decode cJ6_bitCount_0f7a4 51 = .ok (.iand, 1) := by decide +kernel
theorem dJ6_bitCount_0f7a4_52 : decode cJ6_bitCount_0f7a4 52 = .ok (.ireturn, 1) := by decide +kernel
theorem dJ9_max_7cf53_0 : decode cJ9_max_7cf53 0 = .ok (.iload_n 0, 1) := by decide +kernel
theorem dJ9_max_7cf53_1 : decode cJ9_max_7cf53 1 = .ok (.iload_n 1, 1) := by decide +kernel
theorem dJ9_max_7cf53_2 : decode cJ9_max_7cf53 2 = .ok (.if_icmp .lt 7, 3) := by decide +kernel
theorem dJ9_max_7cf53_5 : decode cJ9_max_7cf53 5 = .ok (.iload_n 0, 1) := by decide +kernel
theorem dJ9_max_7cf53_6 : decode cJ9_max_7cf53 6 = .ok (.goto 4, 3) := by decide +kernel
theorem dJ9_max_7cf53_9 : decode cJ9_max_7cf53 9 = .ok (.iload_n 1, 1) := by decide +kernel
theorem dJ9_max_7cf53_10 : decode cJ9_max_7cf53 10 = .ok (.ireturn, 1) := by decide +kernel
theorem dJ9_min_7cf53_0 : decode cJ9_min_7cf53 0 = .ok (.iload_n 0, 1) := by decide +kernel
theorem dJ9_min_7cf53_1 : decode cJ9_min_7cf53 1 = .ok (.iload_n 1, 1) := by decide +kernel
theorem dJ9_min_7cf53_2 : decode cJ9_min_7cf53 2 = .ok (.if_icmp .gt 7, 3) := by decide +kernel
theorem dJ9_min_7cf53_5 : decode cJ9_min_7cf53 5 = .ok (.iload_n 0, 1) := by decide +kernel
theorem dJ9_min_7cf53_6 : decode cJ9_min_7cf53 6 = .ok (.goto 4, 3) := by decide +kernel
theorem dJ9_min_7cf53_9 : decode cJ9_min_7cf53 9 = .ok (.iload_n 1, 1) := by decide +kernel
theorem dJ9_min_7cf53_10 : decode cJ9_min_7cf53 10 = .ok (.ireturn, 1) := by decide +kernel
theorem dJ0_length_8abf5_0 : decode cJ0_length_8abf5 0 = .ok (.aload_n 0, 1) := by decide +kernel
theorem dJ0_length_8abf5_1 : decode cJ0_length_8abf5 1 = .ok (.getfield 9, 3) := by decide +kernel
theorem dJ0_length_8abf5_4 : decode cJ0_length_8abf5 4 = .ok (.arraylength, 1) := by decide +kernel
theorem dJ0_length_8abf5_5 : decode cJ0_length_8abf5 5 = .ok (.aload_n 0, 1) := by decide +kernel
theorem dJ0_length_8abf5_6 : decode cJ0_length_8abf5 6 = .ok (.invokevirtual 335, 3) := by decide +kernel
theorem dJ0_length_8abf5_9 : decode cJ0_length_8abf5 9 = .ok (.ishr, 1) := by decide +kernel
theorem dJ0_length_8abf5_10 : decode cJ0_length_8abf5 10 = .ok (.ireturn, 1) := by decide +kernel
theorem dJ0_charAt_5068e_0 : decode cJ0_charAt_5068e 0 = .ok (.aload_n 0, 1) := by decide +kernel
theorem dJ0_charAt_5068e_1 : decode cJ0_charAt_5068e 1 = .ok (.invokevirtual 492, 3) := by decide +kernel
theorem dJ0_charAt_5068e_4 : decode cJ0_charAt_5068e 4 = .ok (.ifCond .eq 12, 3) := by decide +kernel
theorem dJ0_charAt_5068e_7 : decode cJ0_charAt_5068e 7 = .ok (.aload_n 0, 1) := by decide +kernel
theorem dJ0_charAt_5068e_8 : decode cJ0_charAt_5068e 8 = .ok (.getfield 9, 3) := by decide +kernel
theorem dJ0_charAt_5068e_11 : decode cJ0_charAt_5068e 11 = .ok (.iload_n 1, 1) := by decide +kernel
theorem dJ0_charAt_5068e_12 : decode cJ0_charAt_5068e 12 = .ok (.invokestatic 495, 3) := by decide +kernel
theorem dJ0_charAt_5068e_15 : decode cJ0_charAt_5068e 15 = .ok (.ireturn, 1) := by decide +kernel
theorem dJ0_charAt_5068e_16 : decode cJ0_charAt_5068e 16 = .ok (.aload_n 0, 1) := by decide +kernel
theorem dJ0_charAt_5068e_17 : decode cJ0_charAt_5068e 17 = .ok (.getfield 9, 3) := by decide +kernel
theorem dJ0_charAt_5068e_20 : decode cJ0_charAt_5068e 20 = .ok (.iload_n 1, 1) := by decide +kernel
theorem dJ0_charAt_5068e_21 : decode cJ0_charAt_5068e 21 = .ok (.invokestatic 498, 3) := by decide +kernel
theorem dJ0_charAt_5068e_24 : decode cJ0_charAt_5068e 24 = .ok (.ireturn, 1) := by decide +kernel
theorem dJ0_coder_7d493_0 : decode cJ0_coder_7d493 0 = .ok (.getstatic 38, 3) := by decide +kernel
theorem dJ0_coder_7d493_3 : decode cJ0_coder_7d493 3 = .ok (.ifCond .eq 10, 3) := by decide +kernel
theorem dJ0_coder_7d493_6 : decode cJ0_coder_7d493 6 = .ok (.aload_n 0, 1) := by decide +kernel
theorem dJ0_coder_7d493_7 : decode cJ0_coder_7d493 7 = .ok (.getfield 15, 3) := by decide +kernel
theorem dJ0_coder_7d493_10 : decode cJ0_coder_7d493 10 = .ok (.goto 4, 3) := by decide +kernel
theorem dJ0_coder_7d493_13 : decode cJ0_coder_7d493 13 = .ok (.iconst 1, 1) := by decide +kernel
theorem dJ0_coder_7d493_14 : decode cJ0_coder_7d493 14 = .ok (.ireturn, 1) := by decide +kernel
theorem dJ0_isLatin1_aae02_0 : decode cJ0_isLatin1_aae02 0 = .ok (.getstatic 38, 3) := by decide +kernel
theorem dJ0_isLatin1_aae02_3 : decode cJ0_isLatin1_aae02 3 = .ok (.ifCond .eq 14, 3) := by decide +kernel
theorem dJ0_isLatin1_aae02_6 : decode cJ0_isLatin1_aae02 6 = .ok (.aload_n 0, 1) := by decide +kernel
theorem dJ0_isLatin1_aae02_7 : decode cJ0_isLatin1_aae02 7 = .ok (.getfield 15, 3) := by decide +kernel
theorem dJ0_isLatin1_aae02_10 : decode cJ0_isLatin1_aae02 10 = .ok (.ifCond .ne 7, 3) := by decide +kernel
theorem dJ0_isLatin1_aae02_13 : decode cJ0_isLatin1_aae02 13 = .ok (.iconst 1, 1) := by decide +kernel
theorem dJ0_isLatin1_aae02_14 : decode cJ0_isLatin1_aae02 14 = .ok (.goto 4, 3) := by decide +kernel
theorem dJ0_isLatin1_aae02_17 : decode cJ0_isLatin1_aae02 17 = .ok (.iconst 0, 1) := by decide +kernel
theorem dJ0_isLatin1_aae02_18 : decode cJ0_isLatin1_aae02 18 = .ok (.ireturn, 1) := by decide +kernel
theorem dJ0_checkIndex_df160_0 : decode cJ0_checkIndex_df160 0 = .ok (.iload_n 0, 1) := by decide +kernel
theorem dJ0_checkIndex_df160_1 : decode cJ0_checkIndex_df160 1 = .ok (.iload_n 1, 1) := by decide +kernel
theorem dJ0_checkIndex_df160_2 : decode cJ0_checkIndex_df160 2 = .ok (.getstatic 1053, 3) := by decide +kernel
theorem dJ0_checkIndex_df160_5 : decode cJ0_checkIndex_df160 5 = .ok (.invokestatic 1059, 3) := by decide +kernel
theorem dJ0_checkIndex_df160_8 : decode cJ0_checkIndex_df160 8 = .ok (.pop, 1) := by decide +kernel
theorem dJ0_checkIndex_df160_9 : decode cJ0_checkIndex_df160 9 = .ok (.return_, 1) := by decide +kernel
theorem dJ1_charAt_3b067_0 : decode cJ1_charAt_3b067 0 = .ok (.iload_n 1, 1) := by decide +kernel
theorem dJ1_charAt_3b067_1 : decode cJ1_charAt_3b067 1 = .ok (.aload_n 0, 1) := by decide +kernel
theorem dJ1_charAt_3b067_2 : decode cJ1_charAt_3b067 2 = .ok (.arraylength, 1) := by decide +kernel
theorem dJ1_charAt_3b067_3 : decode cJ1_charAt_3b067 3 = .ok (.invokestatic 9, 3) := by decide +kernel
theorem dJ1_charAt_3b067_6 : decode cJ1_charAt_3b067 6 = .ok (.aload_n 0, 1) := by decide +kernel
theorem dJ1_charAt_3b067_7 : decode cJ1_charAt_3b067 7 = .ok (.iload_n 1, 1) := by decide +kernel
theorem dJ1_charAt_3b067_8 : decode cJ1_charAt_3b067 8 = .ok (.baload, 1) := by decide +kernel
theorem dJ1_charAt_3b067_9 : decode cJ1_charAt_3b067 9 = .ok (.sipush 255, 3) := by decide +kernel
theorem dJ1_charAt_3b067_12 : decode cJ1_charAt_3b067 12 = .ok (.iand, 1) := by decide +kernel
theorem dJ1_charAt_3b067_13 : decode cJ1_charAt_3b067 13 = .ok (.i2c, 1) := by decide +kernel
theorem dJ1_charAt_3b067_14 : decode cJ1_charAt_3b067 14 = .ok (.ireturn, 1) := by decide +kernel
theorem dJ2_getChar_3b067_0 : decode cJ2_getChar_3b067 0 = .ok (.getstatic 44, 3) := by decide +kernel
theorem dJ2_getChar_3b067_3 : decode cJ2_getChar_3b067 3 = .ok (.ifCond .ne 25, 3) := by decide +kernel
theorem dJ2_getChar_3b067_6 : decode cJ2_getChar_3b067 6 = .ok (.iload_n 1, 1) := by decide +kernel
theorem dJ2_getChar_3b067_7 : decode cJ2_getChar_3b067 7 = .ok (.ifCond .lt 11, 3) := by decide +kernel
theorem dJ2_getChar_3b067_10 : decode cJ2_getChar_3b067 10 = .ok (.iload_n 1, 1) := by decide +kernel
theorem dJ2_getChar_3b067_11 : decode cJ2_getChar_3b067 11 = .ok (.aload_n 0, 1) := by decide +kernel
theorem dJ2_getChar_3b067_12 : decode cJ2_getChar_3b067 12 = .ok (.invokestatic 48, 3) := by decide +kernel
theorem dJ2_getChar_3b067_15 : decode cJ2_getChar_3b067 15 = .ok (.if_icmp .lt 13, 3) := by decide +kernel
theorem dJ2_getChar_3b067_18 : decode cJ2_getChar_3b067 18 = .ok (.new 52, 3) := by decide +kernel
theorem dJ2_getChar_3b067_21 : decode cJ2_getChar_3b067 21 = .ok (.dup, 1) := by decide +kernel
theorem dJ2_getChar_3b067_22 : decode cJ2_getChar_3b067 22 = .ok (.ldc 54, 2) := by decide +kernel
theorem dJ2_getChar_3b067_24 : decode cJ2_getChar_3b067 24 = .ok (.invokespecial 56, 3) := by decide +kernel
theorem dJ2_getChar_3b067_27 : decode cJ2_getChar_3b067 27 = .ok (.athrow, 1) := by decide +kernel
theorem dJ2_getChar_3b067_28 : decode cJ2_getChar_3b067 28 = .ok (.iload_n 1, 1) := by decide +kernel
theorem dJ2_getChar_3b067_29 : decode cJ2_getChar_3b067 29 = .ok (.iconst 1, 1) := by decide +kernel
theorem dJ2_getChar_3b067_30 : decode cJ2_getChar_3b067 30 = .ok (.ishl, 1) := by decide +kernel
theorem dJ2_getChar_3b067_31 : decode cJ2_getChar_3b067 31 = .ok (.istore_n 1, 1) := by decide +kernel
theorem dJ2_getChar_3b067_32 : decode cJ2_getChar_3b067 32 = .ok (.aload_n 0, 1) := by decide +kernel
theorem dJ2_getChar_3b067_33 : decode cJ2_getChar_3b067 33 = .ok (.iload_n 1, 1) := by decide +kernel
theorem dJ2_getChar_3b067_34 : decode cJ2_getChar_3b067 34 = .ok (.iinc 1 1, 3) := by decide +kernel
theorem dJ2_getChar_3b067_37 : decode cJ2_getChar_3b067 37 = .ok (.baload, 1) := by decide +kernel
theorem dJ2_getChar_3b067_38 : decode cJ2_getChar_3b067 38 = .ok (.sipush 255, 3) := by decide +kernel
theorem dJ2_getChar_3b067_41 : decode cJ2_getChar_3b067 41 = .ok (.iand, 1) := by decide +kernel
theorem dJ2_getChar_3b067_42 : decode cJ2_getChar_3b067 42 = .ok (.getstatic 59, 3) := by decide +kernel
theorem dJ2_getChar_3b067_45 : decode cJ2_getChar_3b067 45 = .ok (.ishl, 1) := by decide +kernel
theorem dJ2_getChar_3b067_46 : decode cJ2_getChar_3b067 46 = .ok (.aload_n 0, 1) := by decide +kernel
theorem dJ2_getChar_3b067_47 : decode cJ2_getChar_3b067 47 = .ok (.iload_n 1, 1) := by decide +kernel
theorem dJ2_getChar_3b067_48 : decode cJ2_getChar_3b067 48 = .ok (.baload, 1) := by decide +kernel
theorem dJ2_getChar_3b067_49 : decode cJ2_getChar_3b067 49 = .ok (.sipush 255, 3) := by decide +kernel
theorem dJ2_getChar_3b067_52 : decode cJ2_getChar_3b067 52 = .ok (.iand, 1) := by decide +kernel
theorem dJ2_getChar_3b067_53 : decode cJ2_getChar_3b067 53 = .ok (.getstatic 63, 3) := by decide +kernel
theorem dJ2_getChar_3b067_56 : decode cJ2_getChar_3b067 56 = .ok (.ishl, 1) := by decide +kernel
theorem dJ2_getChar_3b067_57 : decode cJ2_getChar_3b067 57 = .ok (.ior, 1) := by decide +kernel
theorem dJ2_getChar_3b067_58 : decode cJ2_getChar_3b067 58 = .ok (.i2c, 1) := by decide +kernel
theorem dJ2_getChar_3b067_59 : decode cJ2_getChar_3b067 59 = .ok (.ireturn, 1) := by decide +kernel
theorem dJ2_length_9d52b_0 : decode cJ2_length_9d52b 0 = .ok (.aload_n 0, 1) := by decide +kernel
theorem dJ2_length_9d52b_1 : decode cJ2_length_9d52b 1 = .ok (.arraylength, 1) := by decide +kernel
theorem dJ2_length_9d52b_2 : decode cJ2_length_9d52b 2 = .ok (.iconst 1, 1) := by decide +kernel
theorem dJ2_length_9d52b_3 : decode cJ2_length_9d52b 3 = .ok (.ishr, 1) := by decide +kernel
theorem dJ2_length_9d52b_4 : decode cJ2_length_9d52b 4 = .ok (.ireturn, 1) := by decide +kernel
theorem dJ2_charAt_3b067_0 : decode cJ2_charAt_3b067 0 = .ok (.iload_n 1, 1) := by decide +kernel
theorem dJ2_charAt_3b067_1 : decode cJ2_charAt_3b067 1 = .ok (.aload_n 0, 1) := by decide +kernel
theorem dJ2_charAt_3b067_2 : decode cJ2_charAt_3b067 2 = .ok (.invokestatic 67, 3) := by decide +kernel
theorem dJ2_charAt_3b067_5 : decode cJ2_charAt_3b067 5 = .ok (.aload_n 0, 1) := by decide +kernel
theorem dJ2_charAt_3b067_6 : decode cJ2_charAt_3b067 6 = .ok (.iload_n 1, 1) := by decide +kernel
theorem dJ2_charAt_3b067_7 : decode cJ2_charAt_3b067 7 = .ok (.invokestatic 71, 3) := by decide +kernel
theorem dJ2_charAt_3b067_10 : decode cJ2_charAt_3b067 10 = .ok (.ireturn, 1) := by decide +kernel
theorem dJ2_checkIndex_2214a_0 : decode cJ2_checkIndex_2214a 0 = .ok (.iload_n 0, 1) := by decide +kernel
theorem dJ2_checkIndex_2214a_1 : decode cJ2_checkIndex_2214a 1 = .ok (.aload_n 1, 1) := by decide +kernel
theorem dJ2_checkIndex_2214a_2 : decode cJ2_checkIndex_2214a 2 = .ok (.invokestatic 48, 3) := by decide +kernel
theorem dJ2_checkIndex_2214a_5 : decode cJ2_checkIndex_2214a 5 = .ok (.invokestatic 414, 3) := by decide +kernel
theorem dJ2_checkIndex_2214a_8 : decode cJ2_checkIndex_2214a 8 = .ok (.return_, 1) := by decide +kernel
theorem dJ3_checkIndex_8e157_0 : decode cJ3_checkIndex_8e157 0 = .ok (.iload_n 0, 1) := by decide +kernel
theorem dJ3_checkIndex_8e157_1 : decode cJ3_checkIndex_8e157 1 = .ok (.ifCond .lt 8, 3) := by decide +kernel
theorem dJ3_checkIndex_8e157_4 : decode cJ3_checkIndex_8e157 4 = .ok (.iload_n 0, 1) := by decide +kernel
theorem dJ3_checkIndex_8e157_5 : decode cJ3_checkIndex_8e157 5 = .ok (.iload_n 1, 1) := by decide +kernel
theorem dJ3_checkIndex_8e157_6 : decode cJ3_checkIndex_8e157 6 = .ok (.if_icmp .lt 10, 3) := by decide +kernel
theorem dJ3_checkIndex_8e157_9 : decode cJ3_checkIndex_8e157 9 = .ok (.aload_n 2, 1) := by decide +kernel
theorem dJ3_checkIndex_8e157_10 : decode cJ3_checkIndex_8e157 10 = .ok (.iload_n 0, 1) := by decide +kernel
theorem dJ3_checkIndex_8e157_11 : decode cJ3_checkIndex_8e157 11 = .ok (.iload_n 1, 1) := by decide +kernel
theorem dJ3_checkIndex_8e157_12 : decode cJ3_checkIndex_8e157 12 = .ok (.invokestatic 95, 3) := by decide +kernel
theorem dJ3_checkIndex_8e157_15 : decode cJ3_checkIndex_8e157 15 = .ok (.athrow, 1) := by decide +kernel
theorem dJ3_checkIndex_8e157_16 : decode cJ3_checkIndex_8e157 16 = .ok (.iload_n 0, 1) := by decide +kernel
theorem dJ3_checkIndex_8e157_17 : decode cJ3_checkIndex_8e157 17 = .ok (.ireturn, 1) := by decide +kernel
theorem dL_cell_0 : decode cL_cell 0 = .ok (.iload_n 1, 1) := by decide +kernel
theorem dL_cell_1 : decode cL_cell 1 = .ok (.aload_n 0, 1) := by decide +kernel
theorem dL_cell_2 : decode cL_cell 2 = .ok (.arraylength, 1) := by decide +kernel
theorem dL_cell_3 : decode cL_cell 3 = .ok (.if_icmp .ge 9, 3) := by decide +kernel
theorem dL_cell_6 : decode cL_cell 6 = .ok (.aload_n 0, 1) := by decide +kernel
theorem dL_cell_7 : decode cL_cell 7 = .ok (.iload_n 1, 1) := by decide +kernel
theorem dL_cell_8 : decode cL_cell 8 = .ok (.iaload, 1) := by decide +kernel
theorem dL_cell_9 : decode cL_cell 9 = .ok (.goto 11, 3) := by decide +kernel
theorem dL_cell_12 : decode cL_cell 12 = .ok (.ldc 7, 2) := by decide +kernel
theorem dL_cell_14 : decode cL_cell 14 = .ok (.iload_n 1, 1) := by decide +kernel
theorem dL_cell_15 : decode cL_cell 15 = .ok (.imul, 1) := by decide +kernel
theorem dL_cell_16 : decode cL_cell 16 = .ok (.sipush 269, 3) := by decide +kernel
theorem dL_cell_19 : decode cL_cell 19 = .ok (.iadd, 1) := by decide +kernel
theorem dL_cell_20 : decode cL_cell 20 = .ok (.ldc 8, 2) := by decide +kernel
theorem dL_cell_22 : decode cL_cell 22 = .ok (.iand, 1) := by decide +kernel
theorem dL_cell_23 : decode cL_cell 23 = .ok (.ireturn, 1) := by decide +kernel
theorem dL_draws_0 : decode cL_draws 0 = .ok (.aload_n 0, 1) := by decide +kernel
theorem dL_draws_1 : decode cL_draws 1 = .ok (.iload_n 1, 1) := by decide +kernel
theorem dL_draws_2 : decode cL_draws 2 = .ok (.iload_n 2, 1) := by decide +kernel
theorem dL_draws_3 : decode cL_draws 3 = .ok (.invokevirtual 9, 3) := by decide +kernel
theorem dL_draws_6 : decode cL_draws 6 = .ok (.ifCond .le 7, 3) := by decide +kernel
theorem dL_draws_9 : decode cL_draws 9 = .ok (.iconst 1, 1) := by decide +kernel
theorem dL_draws_10 : decode cL_draws 10 = .ok (.goto 4, 3) := by decide +kernel
theorem dL_draws_13 : decode cL_draws 13 = .ok (.iconst 0, 1) := by decide +kernel
theorem dL_draws_14 : decode cL_draws 14 = .ok (.istore 4, 2) := by decide +kernel
theorem dL_draws_16 : decode cL_draws 16 = .ok (.iconst 0, 1) := by decide +kernel
theorem dL_draws_17 : decode cL_draws 17 = .ok (.istore 5, 2) := by decide +kernel
theorem dL_draws_19 : decode cL_draws 19 = .ok (.iload 5, 2) := by decide +kernel
theorem dL_draws_21 : decode cL_draws 21 = .ok (.iload_n 1, 1) := by decide +kernel
theorem dL_draws_22 : decode cL_draws 22 = .ok (.iload_n 2, 1) := by decide +kernel
theorem dL_draws_23 : decode cL_draws 23 = .ok (.imul, 1) := by decide +kernel
theorem dL_draws_24 : decode cL_draws 24 = .ok (.if_icmp .ge 78, 3) := by decide +kernel
theorem dL_draws_27 : decode cL_draws 27 = .ok (.iload 4, 2) := by decide +kernel
theorem dL_draws_29 : decode cL_draws 29 = .ok (.ifCond .eq 73, 3) := by decide +kernel
theorem dL_draws_32 : decode cL_draws 32 = .ok (.iload_n 3, 1) := by decide +kernel
theorem dL_draws_33 : decode cL_draws 33 = .ok (.iload 5, 2) := by decide +kernel
theorem dL_draws_35 : decode cL_draws 35 = .ok (.ishr, 1) := by decide +kernel
theorem dL_draws_36 : decode cL_draws 36 = .ok (.iconst 3, 1) := by decide +kernel
theorem dL_draws_37 : decode cL_draws 37 = .ok (.irem, 1) := by decide +kernel
theorem dL_draws_38 : decode cL_draws 38 = .ok (.ifCond .le 7, 3) := by decide +kernel
theorem dL_draws_41 : decode cL_draws 41 = .ok (.iconst 0, 1) := by decide +kernel
theorem dL_draws_42 : decode cL_draws 42 = .ok (.goto 13, 3) := by decide +kernel
theorem dL_draws_45 : decode cL_draws 45 = .ok (.iconst 1, 1) := by decide +kernel
theorem dL_draws_46 : decode cL_draws 46 = .ok (.iload_n 3, 1) := by decide +kernel
theorem dL_draws_47 : decode cL_draws 47 = .ok (.iload 5, 2) := by decide +kernel
theorem dL_draws_49 : decode cL_draws 49 = .ok (.iconst 2, 1) := by decide +kernel
theorem dL_draws_50 : decode cL_draws 50 = .ok (.iadd, 1) := by decide +kernel
theorem dL_draws_51 : decode cL_draws 51 = .ok (.ishr, 1) := by decide +kernel
theorem dL_draws_52 : decode cL_draws 52 = .ok (.iconst 3, 1) := by decide +kernel
theorem dL_draws_53 : decode cL_draws 53 = .ok (.irem, 1) := by decide +kernel
theorem dL_draws_54 : decode cL_draws 54 = .ok (.iadd, 1) := by decide +kernel
theorem dL_draws_55 : decode cL_draws 55 = .ok (.istore 6, 2) := by decide +kernel
theorem dL_draws_57 : decode cL_draws 57 = .ok (.iload 6, 2) := by decide +kernel
theorem dL_draws_59 : decode cL_draws 59 = .ok (.ifCond .eq 30, 3) := by decide +kernel
theorem dL_draws_62 : decode cL_draws 62 = .ok (.iload 6, 2) := by decide +kernel
theorem dL_draws_64 : decode cL_draws 64 = .ok (.iconst 3, 1) := by decide +kernel
theorem dL_draws_65 : decode cL_draws 65 = .ok (.if_icmp .ge 13, 3) := by decide +kernel
theorem dL_draws_68 : decode cL_draws 68 = .ok (.aload_n 0, 1) := by decide +kernel
theorem dL_draws_69 : decode cL_draws 69 = .ok (.iload 6, 2) := by decide +kernel
theorem dL_draws_71 : decode cL_draws 71 = .ok (.invokevirtual 15, 3) := by decide +kernel
theorem dL_draws_74 : decode cL_draws 74 = .ok (.iconst 3, 1) := by decide +kernel
theorem dL_draws_75 : decode cL_draws 75 = .ok (.if_icmp .eq 14, 3) := by decide +kernel
theorem dL_draws_78 : decode cL_draws 78 = .ok (.aload_n 0, 1) := by decide +kernel
theorem dL_draws_79 : decode cL_draws 79 = .ok (.iload 5, 2) := by decide +kernel
theorem dL_draws_81 : decode cL_draws 81 = .ok (.iload 6, 2) := by decide +kernel
theorem dL_draws_83 : decode cL_draws 83 = .ok (.invokevirtual 19, 3) := by decide +kernel
theorem dL_draws_86 : decode cL_draws 86 = .ok (.ifCond .ne 7, 3) := by decide +kernel
theorem dL_draws_89 : decode cL_draws 89 = .ok (.iconst 1, 1) := by decide +kernel
theorem dL_draws_90 : decode cL_draws 90 = .ok (.goto 4, 3) := by decide +kernel
theorem dL_draws_93 : decode cL_draws 93 = .ok (.iconst 0, 1) := by decide +kernel
theorem dL_draws_94 : decode cL_draws 94 = .ok (.istore 4, 2) := by decide +kernel
theorem dL_draws_96 : decode cL_draws 96 = .ok (.iinc 5 1, 3) := by decide +kernel
theorem dL_draws_99 : decode cL_draws 99 = .ok (.goto (-80), 3) := by decide +kernel
theorem dL_draws_102 : decode cL_draws 102 = .ok (.iload 4, 2) := by decide +kernel
theorem dL_draws_104 : decode cL_draws 104 = .ok (.ireturn, 1) := by decide +kernel
theorem dL_isParted_0 : decode cL_isParted 0 = .ok (.aload_n 0, 1) := by decide +kernel
theorem dL_isParted_1 : decode cL_isParted 1 = .ok (.iconst 5, 1) := by decide +kernel
theorem dL_isParted_2 : decode cL_isParted 2 = .ok (.iconst 1, 1) := by decide +kernel
theorem dL_isParted_3 : decode cL_isParted 3 = .ok (.invokevirtual 9, 3) := by decide +kernel
theorem dL_isParted_6 : decode cL_isParted 6 = .ok (.ifCond .le 83, 3) := by decide +kernel
theorem dL_isParted_9 : decode cL_isParted 9 = .ok (.aload_n 0, 1) := by decide +kernel
theorem dL_isParted_10 : decode cL_isParted 10 = .ok (.iconst 2, 1) := by decide +kernel
theorem dL_isParted_11 : decode cL_isParted 11 = .ok (.iconst 3, 1) := by decide +kernel
theorem dL_isParted_12 : decode cL_isParted 12 = .ok (.invokevirtual 19, 3) := by decide +kernel
theorem dL_isParted_15 : decode cL_isParted 15 = .ok (.ifCond .ne 74, 3) := by decide +kernel
theorem dL_isParted_18 : decode cL_isParted 18 = .ok (.aload_n 0, 1) := by decide +kernel
theorem dL_isParted_19 : decode cL_isParted 19 = .ok (.iload_n 1, 1) := by decide +kernel
theorem dL_isParted_20 : decode cL_isParted 20 = .ok (.iconst 2, 1) := by decide +kernel
theorem dL_isParted_21 : decode cL_isParted 21 = .ok (.irem, 1) := by decide +kernel
theorem dL_isParted_22 : decode cL_isParted 22 = .ok (.iconst 1, 1) := by decide +kernel
theorem dL_isParted_23 : decode cL_isParted 23 = .ok (.invokevirtual 19, 3) := by decide +kernel
theorem dL_isParted_26 : decode cL_isParted 26 = .ok (.ifCond .ne 63, 3) := by decide +kernel
theorem dL_isParted_29 : decode cL_isParted 29 = .ok (.aload_n 0, 1) := by decide +kernel
theorem dL_isParted_30 : decode cL_isParted 30 = .ok (.iconst 3, 1) := by decide +kernel
theorem dL_isParted_31 : decode cL_isParted 31 = .ok (.iload_n 1, 1) := by decide +kernel
theorem dL_isParted_32 : decode cL_isParted 32 = .ok (.iconst 1, 1) := by decide +kernel
theorem dL_isParted_33 : decode cL_isParted 33 = .ok (.ishr, 1) := by decide +kernel
theorem dL_isParted_34 : decode cL_isParted 34 = .ok (.iconst 2, 1) := by decide +kernel
theorem dL_isParted_35 : decode cL_isParted 35 = .ok (.irem, 1) := by decide +kernel
theorem dL_isParted_36 : decode cL_isParted 36 = .ok (.iadd, 1) := by decide +kernel
theorem dL_isParted_37 : decode cL_isParted 37 = .ok (.iconst 2, 1) := by decide +kernel
theorem dL_isParted_38 : decode cL_isParted 38 = .ok (.invokevirtual 19, 3) := by decide +kernel
theorem dL_isParted_41 : decode cL_isParted 41 = .ok (.ifCond .ne 48, 3) := by decide +kernel
theorem dL_isParted_44 : decode cL_isParted 44 = .ok (.aload_n 0, 1) := by decide +kernel
theorem dL_isParted_45 : decode cL_isParted 45 = .ok (.invokevirtual 22, 3) := by decide +kernel
theorem dL_isParted_48 : decode cL_isParted 48 = .ok (.iconst 2, 1) := by decide +kernel
theorem dL_isParted_49 : decode cL_isParted 49 = .ok (.if_icmp .ne 40, 3) := by decide +kernel
theorem dL_isParted_52 : decode cL_isParted 52 = .ok (.aload_n 0, 1) := by decide +kernel
theorem dL_isParted_53 : decode cL_isParted 53 = .ok (.iconst 0, 1) := by decide +kernel
theorem dL_isParted_54 : decode cL_isParted 54 = .ok (.invokevirtual 26, 3) := by decide +kernel
theorem dL_isParted_57 : decode cL_isParted 57 = .ok (.iconst 1, 1) := by decide +kernel
theorem dL_isParted_58 : decode cL_isParted 58 = .ok (.if_icmp .ne 31, 3) := by decide +kernel
theorem dL_isParted_61 : decode cL_isParted 61 = .ok (.aload_n 0, 1) := by decide +kernel
theorem dL_isParted_62 : decode cL_isParted 62 = .ok (.iconst 1, 1) := by decide +kernel
theorem dL_isParted_63 : decode cL_isParted 63 = .ok (.invokevirtual 26, 3) := by decide +kernel
theorem dL_isParted_66 : decode cL_isParted 66 = .ok (.iconst 1, 1) := by decide +kernel
theorem dL_isParted_67 : decode cL_isParted 67 = .ok (.if_icmp .ne 22, 3) := by decide +kernel
theorem dL_isParted_70 : decode cL_isParted 70 = .ok (.aload_n 0, 1) := by decide +kernel
theorem dL_isParted_71 : decode cL_isParted 71 = .ok (.invokevirtual 29, 3) := by decide +kernel
theorem dL_isParted_74 : decode cL_isParted 74 = .ok (.ifCond .ne 15, 3) := by decide +kernel
theorem dL_isParted_77 : decode cL_isParted 77 = .ok (.aload_n 0, 1) := by decide +kernel
theorem dL_isParted_78 : decode cL_isParted 78 = .ok (.invokevirtual 32, 3) := by decide +kernel
theorem dL_isParted_81 : decode cL_isParted 81 = .ok (.iconst 3, 1) := by decide +kernel
theorem dL_isParted_82 : decode cL_isParted 82 = .ok (.if_icmp .ne 7, 3) := by decide +kernel
theorem dL_isParted_85 : decode cL_isParted 85 = .ok (.iconst 1, 1) := by decide +kernel
theorem dL_isParted_86 : decode cL_isParted 86 = .ok (.goto 4, 3) := by decide +kernel
theorem dL_isParted_89 : decode cL_isParted 89 = .ok (.iconst 0, 1) := by decide +kernel
theorem dL_isParted_90 : decode cL_isParted 90 = .ok (.istore_n 2, 1) := by decide +kernel
theorem dL_isParted_91 : decode cL_isParted 91 = .ok (.iload_n 2, 1) := by decide +kernel
theorem dL_isParted_92 : decode cL_isParted 92 = .ok (.ifCond .eq 69, 3) := by decide +kernel
theorem dL_isParted_95 : decode cL_isParted 95 = .ok (.aload_n 0, 1) := by decide +kernel
theorem dL_isParted_96 : decode cL_isParted 96 = .ok (.iconst 1, 1) := by decide +kernel
theorem dL_isParted_97 : decode cL_isParted 97 = .ok (.iload_n 1, 1) := by decide +kernel
theorem dL_isParted_98 : decode cL_isParted 98 = .ok (.iconst 2, 1) := by decide +kernel
theorem dL_isParted_99 : decode cL_isParted 99 = .ok (.irem, 1) := by decide +kernel
theorem dL_isParted_100 : decode cL_isParted 100 = .ok (.isub, 1) := by decide +kernel
theorem dL_isParted_101 : decode cL_isParted 101 = .ok (.iconst 3, 1) := by decide +kernel
theorem dL_isParted_102 : decode cL_isParted 102 = .ok (.invokevirtual 19, 3) := by decide +kernel
theorem dL_isParted_105 : decode cL_isParted 105 = .ok (.ifCond .ne 56, 3) := by decide +kernel
theorem dL_isParted_108 : decode cL_isParted 108 = .ok (.aload_n 0, 1) := by decide +kernel
theorem dL_isParted_109 : decode cL_isParted 109 = .ok (.iconst 0, 1) := by decide +kernel
theorem dL_isParted_110 : decode cL_isParted 110 = .ok (.invokevirtual 26, 3) := by decide +kernel
theorem dL_isParted_113 : decode cL_isParted 113 = .ok (.ifCond .ne 48, 3) := by decide +kernel
theorem dL_isParted_116 : decode cL_isParted 116 = .ok (.aload_n 0, 1) := by decide +kernel
theorem dL_isParted_117 : decode cL_isParted 117 = .ok (.invokevirtual 29, 3) := by decide +kernel
theorem dL_isParted_120 : decode cL_isParted 120 = .ok (.iconst (-1), 1) := by decide +kernel
theorem dL_isParted_121 : decode cL_isParted 121 = .ok (.if_icmp .ne 40, 3) := by decide +kernel
theorem dL_isParted_124 : decode cL_isParted 124 = .ok (.aload_n 0, 1) := by decide +kernel
theorem dL_isParted_125 : decode cL_isParted 125 = .ok (.invokevirtual 32, 3) := by decide +kernel
theorem dL_isParted_128 : decode cL_isParted 128 = .ok (.iconst 1, 1) := by decide +kernel
theorem dL_isParted_129 : decode cL_isParted 129 = .ok (.if_icmp .ne 32, 3) := by decide +kernel
theorem dL_isParted_132 : decode cL_isParted 132 = .ok (.aload_n 0, 1) := by decide +kernel
theorem dL_isParted_133 : decode cL_isParted 133 = .ok (.iconst 0, 1) := by decide +kernel
theorem dL_isParted_134 : decode cL_isParted 134 = .ok (.invokevirtual 35, 3) := by decide +kernel
theorem dL_isParted_137 : decode cL_isParted 137 = .ok (.iconst 3, 1) := by decide +kernel
theorem dL_isParted_138 : decode cL_isParted 138 = .ok (.if_icmp .ne 23, 3) := by decide +kernel
theorem dL_isParted_141 : decode cL_isParted 141 = .ok (.aload_n 0, 1) := by decide +kernel
theorem dL_isParted_142 : decode cL_isParted 142 = .ok (.iconst 1, 1) := by decide +kernel
theorem dL_isParted_143 : decode cL_isParted 143 = .ok (.invokevirtual 35, 3) := by decide +kernel
theorem dL_isParted_146 : decode cL_isParted 146 = .ok (.iconst 1, 1) := by decide +kernel
theorem dL_isParted_147 : decode cL_isParted 147 = .ok (.if_icmp .ne 14, 3) := by decide +kernel
theorem dL_isParted_150 : decode cL_isParted 150 = .ok (.aload_n 0, 1) := by decide +kernel
theorem dL_isParted_151 : decode cL_isParted 151 = .ok (.invokevirtual 38, 3) := by decide +kernel
theorem dL_isParted_154 : decode cL_isParted 154 = .ok (.ifCond .lt 7, 3) := by decide +kernel
theorem dL_isParted_157 : decode cL_isParted 157 = .ok (.iconst 1, 1) := by decide +kernel
theorem dL_isParted_158 : decode cL_isParted 158 = .ok (.goto 4, 3) := by decide +kernel
theorem dL_isParted_161 : decode cL_isParted 161 = .ok (.iconst 0, 1) := by decide +kernel
theorem dL_isParted_162 : decode cL_isParted 162 = .ok (.istore_n 2, 1) := by decide +kernel
theorem dL_isParted_163 : decode cL_isParted 163 = .ok (.iload_n 2, 1) := by decide +kernel
theorem dL_isParted_164 : decode cL_isParted 164 = .ok (.ifCond .eq 57, 3) := by decide +kernel
theorem dL_isParted_167 : decode cL_isParted 167 = .ok (.aload_n 0, 1) := by decide +kernel
theorem dL_isParted_168 : decode cL_isParted 168 = .ok (.invokevirtual 41, 3) := by decide +kernel
theorem dL_isParted_171 : decode cL_isParted 171 = .ok (.ifCond .lt 50, 3) := by decide +kernel
theorem dL_isParted_174 : decode cL_isParted 174 = .ok (.aload_n 0, 1) := by decide +kernel
theorem dL_isParted_175 : decode cL_isParted 175 = .ok (.invokevirtual 29, 3) := by decide +kernel
theorem dL_isParted_178 : decode cL_isParted 178 = .ok (.ifCond .ne 43, 3) := by decide +kernel
theorem dL_isParted_181 : decode cL_isParted 181 = .ok (.aload_n 0, 1) := by decide +kernel
theorem dL_isParted_182 : decode cL_isParted 182 = .ok (.iconst 0, 1) := by decide +kernel
theorem dL_isParted_183 : decode cL_isParted 183 = .ok (.invokevirtual 35, 3) := by decide +kernel
theorem dL_isParted_186 : decode cL_isParted 186 = .ok (.ifCond .ne 35, 3) := by decide +kernel
theorem dL_isParted_189 : decode cL_isParted 189 = .ok (.aload_n 0, 1) := by decide +kernel
theorem dL_isParted_190 : decode cL_isParted 190 = .ok (.iconst 1, 1) := by decide +kernel
theorem dL_isParted_191 : decode cL_isParted 191 = .ok (.invokevirtual 44, 3) := by decide +kernel
theorem dL_isParted_194 : decode cL_isParted 194 = .ok (.iconst 2, 1) := by decide +kernel
theorem dL_isParted_195 : decode cL_isParted 195 = .ok (.if_icmp .ne 26, 3) := by decide +kernel
theorem dL_isParted_198 : decode cL_isParted 198 = .ok (.aload_n 0, 1) := by decide +kernel
theorem dL_isParted_199 : decode cL_isParted 199 = .ok (.iconst 1, 1) := by decide +kernel
theorem dL_isParted_200 : decode cL_isParted 200 = .ok (.invokevirtual 47, 3) := by decide +kernel
theorem dL_isParted_203 : decode cL_isParted 203 = .ok (.sipush (-1005), 3) := by decide +kernel
theorem dL_isParted_206 : decode cL_isParted 206 = .ok (.if_icmp .ne 15, 3) := by decide +kernel
theorem dL_isParted_209 : decode cL_isParted 209 = .ok (.aload_n 0, 1) := by decide +kernel
theorem dL_isParted_210 : decode cL_isParted 210 = .ok (.iconst 2, 1) := by decide +kernel
theorem dL_isParted_211 : decode cL_isParted 211 = .ok (.invokevirtual 50, 3) := by decide +kernel
theorem dL_isParted_214 : decode cL_isParted 214 = .ok (.ifCond .ne 7, 3) := by decide +kernel
theorem dL_isParted_217 : decode cL_isParted 217 = .ok (.iconst 1, 1) := by decide +kernel
theorem dL_isParted_218 : decode cL_isParted 218 = .ok (.goto 4, 3) := by decide +kernel
theorem dL_isParted_221 : decode cL_isParted 221 = .ok (.iconst 0, 1) := by decide +kernel
theorem dL_isParted_222 : decode cL_isParted 222 = .ok (.ireturn, 1) := by decide +kernel
theorem dL_number_0 : decode cL_number 0 = .ok (.aload_n 0, 1) := by decide +kernel
theorem dL_number_1 : decode cL_number 1 = .ok (.bipush 32, 2) := by decide +kernel
theorem dL_number_3 : decode cL_number 3 = .ok (.invokevirtual 53, 3) := by decide +kernel
theorem dL_number_6 : decode cL_number 6 = .ok (.ifCond .le 41, 3) := by decide +kernel
theorem dL_number_9 : decode cL_number 9 = .ok (.iload_n 1, 1) := by decide +kernel
theorem dL_number_10 : decode cL_number 10 = .ok (.bipush 10, 2) := by decide +kernel
theorem dL_number_12 : decode cL_number 12 = .ok (.if_icmp .lt 17, 3) := by decide +kernel
theorem dL_number_15 : decode cL_number 15 = .ok (.aload_n 0, 1) := by decide +kernel
theorem dL_number_16 : decode cL_number 16 = .ok (.bipush 48, 2) := by decide +kernel
theorem dL_number_18 : decode cL_number 18 = .ok (.iload_n 1, 1) := by decide +kernel
theorem dL_number_19 : decode cL_number 19 = .ok (.bipush 10, 2) := by decide +kernel
theorem dL_number_21 : decode cL_number 21 = .ok (.idiv, 1) := by decide +kernel
theorem dL_number_22 : decode cL_number 22 = .ok (.iadd, 1) := by decide +kernel
theorem dL_number_23 : decode cL_number 23 = .ok (.invokevirtual 53, 3) := by decide +kernel
theorem dL_number_26 : decode cL_number 26 = .ok (.ifCond .le 21, 3) := by decide +kernel
theorem dL_number_29 : decode cL_number 29 = .ok (.aload_n 0, 1) := by decide +kernel
theorem dL_number_30 : decode cL_number 30 = .ok (.bipush 48, 2) := by decide +kernel
theorem dL_number_32 : decode cL_number 32 = .ok (.iload_n 1, 1) := by decide +kernel
theorem dL_number_33 : decode cL_number 33 = .ok (.bipush 10, 2) := by decide +kernel
theorem dL_number_35 : decode cL_number 35 = .ok (.irem, 1) := by decide +kernel
theorem dL_number_36 : decode cL_number 36 = .ok (.iadd, 1) := by decide +kernel
theorem dL_number_37 : decode cL_number 37 = .ok (.invokevirtual 53, 3) := by decide +kernel
theorem dL_number_40 : decode cL_number 40 = .ok (.ifCond .le 7, 3) := by decide +kernel
theorem dL_number_43 : decode cL_number 43 = .ok (.iconst 1, 1) := by decide +kernel
theorem dL_number_44 : decode cL_number 44 = .ok (.goto 4, 3) := by decide +kernel
theorem dL_number_47 : decode cL_number 47 = .ok (.iconst 0, 1) := by decide +kernel
theorem dL_number_48 : decode cL_number 48 = .ok (.ireturn, 1) := by decide +kernel
theorem dL_word_0 : decode cL_word 0 = .ok (.iconst 1, 1) := by decide +kernel
theorem dL_word_1 : decode cL_word 1 = .ok (.istore 4, 2) := by decide +kernel
theorem dL_word_3 : decode cL_word 3 = .ok (.iload_n 3, 1) := by decide +kernel
theorem dL_word_4 : decode cL_word 4 = .ok (.iconst 1, 1) := by decide +kernel
theorem dL_word_5 : decode cL_word 5 = .ok (.isub, 1) := by decide +kernel
theorem dL_word_6 : decode cL_word 6 = .ok (.istore 5, 2) := by decide +kernel
theorem dL_word_8 : decode cL_word 8 = .ok (.iload 5, 2) := by decide +kernel
theorem dL_word_10 : decode cL_word 10 = .ok (.ifCond .lt 40, 3) := by decide +kernel
theorem dL_word_13 : decode cL_word 13 = .ok (.iload 4, 2) := by decide +kernel
theorem dL_word_15 : decode cL_word 15 = .ok (.ifCond .eq 35, 3) := by decide +kernel
theorem dL_word_18 : decode cL_word 18 = .ok (.aload_n 0, 1) := by decide +kernel
theorem dL_word_19 : decode cL_word 19 = .ok (.lload_n 1, 1) := by decide +kernel
theorem dL_word_20 : decode cL_word 20 = .ok (.bipush 7, 2) := by decide +kernel
theorem dL_word_22 : decode cL_word 22 = .ok (.iload 5, 2) := by decide +kernel
theorem dL_word_24 : decode cL_word 24 = .ok (.imul, 1) := by decide +kernel
theorem dL_word_25 : decode cL_word 25 = .ok (.lshr, 1) := by decide +kernel
theorem dL_word_26 : decode cL_word 26 = .ok (.ldc2_w 56, 3) := by decide +kernel
theorem dL_word_29 : decode cL_word 29 = .ok (.land, 1) := by decide +kernel
theorem dL_word_30 : decode cL_word 30 = .ok (.l2i, 1) := by decide +kernel
theorem dL_word_31 : decode cL_word 31 = .ok (.invokevirtual 53, 3) := by decide +kernel
theorem dL_word_34 : decode cL_word 34 = .ok (.ifCond .le 7, 3) := by decide +kernel
theorem dL_word_37 : decode cL_word 37 = .ok (.iconst 1, 1) := by decide +kernel
theorem dL_word_38 : decode cL_word 38 = .ok (.goto 4, 3) := by decide +kernel
theorem dL_word_41 : decode cL_word 41 = .ok (.iconst 0, 1) := by decide +kernel
theorem dL_word_42 : decode cL_word 42 = .ok (.istore 4, 2) := by decide +kernel
theorem dL_word_44 : decode cL_word 44 = .ok (.iinc 5 (-1), 3) := by decide +kernel
theorem dL_word_47 : decode cL_word 47 = .ok (.goto (-39), 3) := by decide +kernel
theorem dL_word_50 : decode cL_word 50 = .ok (.iload 4, 2) := by decide +kernel
theorem dL_word_52 : decode cL_word 52 = .ok (.ireturn, 1) := by decide +kernel
theorem dL_packed_0 : decode cL_packed 0 = .ok (.iload_n 0, 1) := by decide +kernel
theorem dL_packed_1 : decode cL_packed 1 = .ok (.i2l, 1) := by decide +kernel
theorem dL_packed_2 : decode cL_packed 2 = .ok (.bipush 7, 2) := by decide +kernel
theorem dL_packed_4 : decode cL_packed 4 = .ok (.lshl, 1) := by decide +kernel
theorem dL_packed_5 : decode cL_packed 5 = .ok (.iload_n 1, 1) := by decide +kernel
theorem dL_packed_6 : decode cL_packed 6 = .ok (.i2l, 1) := by decide +kernel
theorem dL_packed_7 : decode cL_packed 7 = .ok (.lor, 1) := by decide +kernel
theorem dL_packed_8 : decode cL_packed 8 = .ok (.bipush 7, 2) := by decide +kernel
theorem dL_packed_10 : decode cL_packed 10 = .ok (.lshl, 1) := by decide +kernel
theorem dL_packed_11 : decode cL_packed 11 = .ok (.iload_n 2, 1) := by decide +kernel
theorem dL_packed_12 : decode cL_packed 12 = .ok (.i2l, 1) := by decide +kernel
theorem dL_packed_13 : decode cL_packed 13 = .ok (.lor, 1) := by decide +kernel
theorem dL_packed_14 : decode cL_packed 14 = .ok (.bipush 7, 2) := by decide +kernel
theorem dL_packed_16 : decode cL_packed 16 = .ok (.lshl, 1) := by decide +kernel
theorem dL_packed_17 : decode cL_packed 17 = .ok (.iload_n 3, 1) := by decide +kernel
theorem dL_packed_18 : decode cL_packed 18 = .ok (.i2l, 1) := by decide +kernel
theorem dL_packed_19 : decode cL_packed 19 = .ok (.lor, 1) := by decide +kernel
theorem dL_packed_20 : decode cL_packed 20 = .ok (.lreturn, 1) := by decide +kernel
theorem dL_isText_0 : decode cL_isText 0 = .ok (.iload_n 2, 1) := by decide +kernel
theorem dL_isText_1 : decode cL_isText 1 = .ok (.iload_n 1, 1) := by decide +kernel
theorem dL_isText_2 : decode cL_isText 2 = .ok (.irem, 1) := by decide +kernel
theorem dL_isText_3 : decode cL_isText 3 = .ok (.istore_n 3, 1) := by decide +kernel
theorem dL_isText_4 : decode cL_isText 4 = .ok (.iload_n 2, 1) := by decide +kernel
theorem dL_isText_5 : decode cL_isText 5 = .ok (.iconst 4, 1) := by decide +kernel
theorem dL_isText_6 : decode cL_isText 6 = .ok (.ishr, 1) := by decide +kernel
theorem dL_isText_7 : decode cL_isText 7 = .ok (.iload_n 1, 1) := by decide +kernel
theorem dL_isText_8 : decode cL_isText 8 = .ok (.irem, 1) := by decide +kernel
theorem dL_isText_9 : decode cL_isText 9 = .ok (.istore 4, 2) := by decide +kernel
theorem dL_isText_11 : decode cL_isText 11 = .ok (.aload_n 0, 1) := by decide +kernel
theorem dL_isText_12 : decode cL_isText 12 = .ok (.invokevirtual 58, 3) := by decide +kernel
theorem dL_isText_15 : decode cL_isText 15 = .ok (.ifCond .lt 118, 3) := by decide +kernel
theorem dL_isText_18 : decode cL_isText 18 = .ok (.aload_n 0, 1) := by decide +kernel
theorem dL_isText_19 : decode cL_isText 19 = .ok (.bipush 98, 2) := by decide +kernel
theorem dL_isText_21 : decode cL_isText 21 = .ok (.bipush 117, 2) := by decide +kernel
theorem dL_isText_23 : decode cL_isText 23 = .ok (.bipush 114, 2) := by decide +kernel
theorem dL_isText_25 : decode cL_isText 25 = .ok (.bipush 110, 2) := by decide +kernel
theorem dL_isText_27 : decode cL_isText 27 = .ok (.invokestatic 61, 3) := by decide +kernel
theorem dL_isText_30 : decode cL_isText 30 = .ok (.iconst 4, 1) := by decide +kernel
theorem dL_isText_31 : decode cL_isText 31 = .ok (.invokestatic 67, 3) := by decide +kernel
theorem dL_isText_34 : decode cL_isText 34 = .ok (.ifCond .eq 99, 3) := by decide +kernel
theorem dL_isText_37 : decode cL_isText 37 = .ok (.aload_n 0, 1) := by decide +kernel
theorem dL_isText_38 : decode cL_isText 38 = .ok (.iload_n 3, 1) := by decide +kernel
theorem dL_isText_39 : decode cL_isText 39 = .ok (.invokestatic 71, 3) := by decide +kernel
theorem dL_isText_42 : decode cL_isText 42 = .ok (.ifCond .eq 91, 3) := by decide +kernel
theorem dL_isText_45 : decode cL_isText 45 = .ok (.aload_n 0, 1) := by decide +kernel
theorem dL_isText_46 : decode cL_isText 46 = .ok (.bipush 59, 2) := by decide +kernel
theorem dL_isText_48 : decode cL_isText 48 = .ok (.invokevirtual 53, 3) := by decide +kernel
theorem dL_isText_51 : decode cL_isText 51 = .ok (.ifCond .le 82, 3) := by decide +kernel
theorem dL_isText_54 : decode cL_isText 54 = .ok (.aload_n 0, 1) := by decide +kernel
theorem dL_isText_55 : decode cL_isText 55 = .ok (.bipush 112, 2) := by decide +kernel
theorem dL_isText_57 : decode cL_isText 57 = .ok (.bipush 97, 2) := by decide +kernel
theorem dL_isText_59 : decode cL_isText 59 = .ok (.bipush 115, 2) := by decide +kernel
theorem dL_isText_61 : decode cL_isText 61 = .ok (.bipush 115, 2) := by decide +kernel
theorem dL_isText_63 : decode cL_isText 63 = .ok (.invokestatic 61, 3) := by decide +kernel
theorem dL_isText_66 : decode cL_isText 66 = .ok (.iconst 4, 1) := by decide +kernel
theorem dL_isText_67 : decode cL_isText 67 = .ok (.invokestatic 67, 3) := by decide +kernel
theorem dL_isText_70 : decode cL_isText 70 = .ok (.ifCond .eq 63, 3) := by decide +kernel
theorem dL_isText_73 : decode cL_isText 73 = .ok (.aload_n 0, 1) := by decide +kernel
theorem dL_isText_74 : decode cL_isText 74 = .ok (.bipush 59, 2) := by decide +kernel
theorem dL_isText_76 : decode cL_isText 76 = .ok (.invokevirtual 53, 3) := by decide +kernel
theorem dL_isText_79 : decode cL_isText 79 = .ok (.ifCond .le 54, 3) := by decide +kernel
theorem dL_isText_82 : decode cL_isText 82 = .ok (.aload_n 0, 1) := by decide +kernel
theorem dL_isText_83 : decode cL_isText 83 = .ok (.bipush 102, 2) := by decide +kernel
theorem dL_isText_85 : decode cL_isText 85 = .ok (.bipush 114, 2) := by decide +kernel
theorem dL_isText_87 : decode cL_isText 87 = .ok (.bipush 101, 2) := by decide +kernel
theorem dL_isText_89 : decode cL_isText 89 = .ok (.bipush 101, 2) := by decide +kernel
theorem dL_isText_91 : decode cL_isText 91 = .ok (.invokestatic 61, 3) := by decide +kernel
theorem dL_isText_94 : decode cL_isText 94 = .ok (.iconst 4, 1) := by decide +kernel
theorem dL_isText_95 : decode cL_isText 95 = .ok (.invokestatic 67, 3) := by decide +kernel
theorem dL_isText_98 : decode cL_isText 98 = .ok (.ifCond .eq 35, 3) := by decide +kernel
theorem dL_isText_101 : decode cL_isText 101 = .ok (.aload_n 0, 1) := by decide +kernel
theorem dL_isText_102 : decode cL_isText 102 = .ok (.iload 4, 2) := by decide +kernel
theorem dL_isText_104 : decode cL_isText 104 = .ok (.invokestatic 71, 3) := by decide +kernel
theorem dL_isText_107 : decode cL_isText 107 = .ok (.ifCond .eq 26, 3) := by decide +kernel
theorem dL_isText_110 : decode cL_isText 110 = .ok (.aload_n 0, 1) := by decide +kernel
theorem dL_isText_111 : decode cL_isText 111 = .ok (.bipush 59, 2) := by decide +kernel
theorem dL_isText_113 : decode cL_isText 113 = .ok (.invokevirtual 53, 3) := by decide +kernel
theorem dL_isText_116 : decode cL_isText 116 = .ok (.ifCond .le 17, 3) := by decide +kernel
theorem dL_isText_119 : decode cL_isText 119 = .ok (.aload_n 0, 1) := by decide +kernel
theorem dL_isText_120 : decode cL_isText 120 = .ok (.invokevirtual 75, 3) := by decide +kernel
theorem dL_isText_123 : decode cL_isText 123 = .ok (.sipush (-1005), 3) := by decide +kernel
theorem dL_isText_126 : decode cL_isText 126 = .ok (.if_icmp .ne 7, 3) := by decide +kernel
theorem dL_isText_129 : decode cL_isText 129 = .ok (.iconst 1, 1) := by decide +kernel
theorem dL_isText_130 : decode cL_isText 130 = .ok (.goto 4, 3) := by decide +kernel
theorem dL_isText_133 : decode cL_isText 133 = .ok (.iconst 0, 1) := by decide +kernel
theorem dL_isText_134 : decode cL_isText 134 = .ok (.istore 5, 2) := by decide +kernel
theorem dL_isText_136 : decode cL_isText 136 = .ok (.iconst 0, 1) := by decide +kernel
theorem dL_isText_137 : decode cL_isText 137 = .ok (.istore 6, 2) := by decide +kernel
theorem dL_isText_139 : decode cL_isText 139 = .ok (.iconst 0, 1) := by decide +kernel
theorem dL_isText_140 : decode cL_isText 140 = .ok (.istore 7, 2) := by decide +kernel
theorem dL_isText_142 : decode cL_isText 142 = .ok (.iload 7, 2) := by decide +kernel
theorem dL_isText_144 : decode cL_isText 144 = .ok (.iload_n 1, 1) := by decide +kernel
theorem dL_isText_145 : decode cL_isText 145 = .ok (.if_icmp .ge 25, 3) := by decide +kernel
theorem dL_isText_148 : decode cL_isText 148 = .ok (.iload 6, 2) := by decide +kernel
theorem dL_isText_150 : decode cL_isText 150 = .ok (.aload_n 0, 1) := by decide +kernel
theorem dL_isText_151 : decode cL_isText 151 = .ok (.iload 7, 2) := by decide +kernel
theorem dL_isText_153 : decode cL_isText 153 = .ok (.invokevirtual 78, 3) := by decide +kernel
theorem dL_isText_156 : decode cL_isText 156 = .ok (.iconst 2, 1) := by decide +kernel
theorem dL_isText_157 : decode cL_isText 157 = .ok (.iload 7, 2) := by decide +kernel
theorem dL_isText_159 : decode cL_isText 159 = .ok (.imul, 1) := by decide +kernel
theorem dL_isText_160 : decode cL_isText 160 = .ok (.ishl, 1) := by decide +kernel
theorem dL_isText_161 : decode cL_isText 161 = .ok (.ior, 1) := by decide +kernel
theorem dL_isText_162 : decode cL_isText 162 = .ok (.istore 6, 2) := by decide +kernel
theorem dL_isText_164 : decode cL_isText 164 = .ok (.iinc 7 1, 3) := by decide +kernel
theorem dL_isText_167 : decode cL_isText 167 = .ok (.goto (-25), 3) := by decide +kernel
theorem dL_isText_170 : decode cL_isText 170 = .ok (.iload 5, 2) := by decide +kernel
theorem dL_isText_172 : decode cL_isText 172 = .ok (.ifCond .eq 46, 3) := by decide +kernel
theorem dL_isText_175 : decode cL_isText 175 = .ok (.aload_n 0, 1) := by decide +kernel
theorem dL_isText_176 : decode cL_isText 176 = .ok (.invokevirtual 81, 3) := by decide +kernel
theorem dL_isText_179 : decode cL_isText 179 = .ok (.iconst 3, 1) := by decide +kernel
theorem dL_isText_180 : decode cL_isText 180 = .ok (.if_icmp .ne 38, 3) := by decide +kernel
theorem dL_isText_183 : decode cL_isText 183 = .ok (.aload_n 0, 1) := by decide +kernel
theorem dL_isText_184 : decode cL_isText 184 = .ok (.iload 4, 2) := by decide +kernel
theorem dL_isText_186 : decode cL_isText 186 = .ok (.invokevirtual 78, 3) := by decide +kernel
theorem dL_isText_189 : decode cL_isText 189 = .ok (.ifCond .ne 29, 3) := by decide +kernel
theorem dL_isText_192 : decode cL_isText 192 = .ok (.iload_n 3, 1) := by decide +kernel
theorem dL_isText_193 : decode cL_isText 193 = .ok (.iload 4, 2) := by decide +kernel
theorem dL_isText_195 : decode cL_isText 195 = .ok (.if_icmp .eq 12, 3) := by decide +kernel
theorem dL_isText_198 : decode cL_isText 198 = .ok (.aload_n 0, 1) := by decide +kernel
theorem dL_isText_199 : decode cL_isText 199 = .ok (.iload_n 3, 1) := by decide +kernel
theorem dL_isText_200 : decode cL_isText 200 = .ok (.invokevirtual 78, 3) := by decide +kernel
theorem dL_isText_203 : decode cL_isText 203 = .ok (.iconst 3, 1) := by decide +kernel
theorem dL_isText_204 : decode cL_isText 204 = .ok (.if_icmp .ne 14, 3) := by decide +kernel
theorem dL_isText_207 : decode cL_isText 207 = .ok (.aload_n 0, 1) := by decide +kernel
theorem dL_isText_208 : decode cL_isText 208 = .ok (.invokevirtual 41, 3) := by decide +kernel
theorem dL_isText_211 : decode cL_isText 211 = .ok (.ifCond .lt 7, 3) := by decide +kernel
theorem dL_isText_214 : decode cL_isText 214 = .ok (.iconst 1, 1) := by decide +kernel
theorem dL_isText_215 : decode cL_isText 215 = .ok (.goto 4, 3) := by decide +kernel
theorem dL_isText_218 : decode cL_isText 218 = .ok (.iconst 0, 1) := by decide +kernel
theorem dL_isText_219 : decode cL_isText 219 = .ok (.istore 5, 2) := by decide +kernel
theorem dL_isText_221 : decode cL_isText 221 = .ok (.iconst 0, 1) := by decide +kernel
theorem dL_isText_222 : decode cL_isText 222 = .ok (.istore 7, 2) := by decide +kernel
theorem dL_isText_224 : decode cL_isText 224 = .ok (.iload 7, 2) := by decide +kernel
theorem dL_isText_226 : decode cL_isText 226 = .ok (.iload_n 1, 1) := by decide +kernel
theorem dL_isText_227 : decode cL_isText 227 = .ok (.if_icmp .ge 39, 3) := by decide +kernel
theorem dL_isText_230 : decode cL_isText 230 = .ok (.iload 5, 2) := by decide +kernel
theorem dL_isText_232 : decode cL_isText 232 = .ok (.ifCond .eq 34, 3) := by decide +kernel
theorem dL_isText_235 : decode cL_isText 235 = .ok (.aload_n 0, 1) := by decide +kernel
theorem dL_isText_236 : decode cL_isText 236 = .ok (.iload 7, 2) := by decide +kernel
theorem dL_isText_238 : decode cL_isText 238 = .ok (.invokevirtual 78, 3) := by decide +kernel
theorem dL_isText_241 : decode cL_isText 241 = .ok (.iload 6, 2) := by decide +kernel
theorem dL_isText_243 : decode cL_isText 243 = .ok (.iconst 2, 1) := by decide +kernel
theorem dL_isText_244 : decode cL_isText 244 = .ok (.iload 7, 2) := by decide +kernel
theorem dL_isText_246 : decode cL_isText 246 = .ok (.imul, 1) := by decide +kernel
theorem dL_isText_247 : decode cL_isText 247 = .ok (.ishr, 1) := by decide +kernel
theorem dL_isText_248 : decode cL_isText 248 = .ok (.iconst 3, 1) := by decide +kernel
theorem dL_isText_249 : decode cL_isText 249 = .ok (.iand, 1) := by decide +kernel
theorem dL_isText_250 : decode cL_isText 250 = .ok (.if_icmp .ne 7, 3) := by decide +kernel
theorem dL_isText_253 : decode cL_isText 253 = .ok (.iconst 1, 1) := by decide +kernel
theorem dL_isText_254 : decode cL_isText 254 = .ok (.goto 4, 3) := by decide +kernel
theorem dL_isText_257 : decode cL_isText 257 = .ok (.iconst 0, 1) := by decide +kernel
theorem dL_isText_258 : decode cL_isText 258 = .ok (.istore 5, 2) := by decide +kernel
theorem dL_isText_260 : decode cL_isText 260 = .ok (.iinc 7 1, 3) := by decide +kernel
theorem dL_isText_263 : decode cL_isText 263 = .ok (.goto (-39), 3) := by decide +kernel
theorem dL_isText_266 : decode cL_isText 266 = .ok (.iload 5, 2) := by decide +kernel
theorem dL_isText_268 : decode cL_isText 268 = .ok (.ifCond .eq 86, 3) := by decide +kernel
theorem dL_isText_271 : decode cL_isText 271 = .ok (.aload_n 0, 1) := by decide +kernel
theorem dL_isText_272 : decode cL_isText 272 = .ok (.bipush 98, 2) := by decide +kernel
theorem dL_isText_274 : decode cL_isText 274 = .ok (.bipush 117, 2) := by decide +kernel
theorem dL_isText_276 : decode cL_isText 276 = .ok (.bipush 114, 2) := by decide +kernel
theorem dL_isText_278 : decode cL_isText 278 = .ok (.bipush 110, 2) := by decide +kernel
theorem dL_isText_280 : decode cL_isText 280 = .ok (.invokestatic 61, 3) := by decide +kernel
theorem dL_isText_283 : decode cL_isText 283 = .ok (.iconst 4, 1) := by decide +kernel
theorem dL_isText_284 : decode cL_isText 284 = .ok (.invokestatic 67, 3) := by decide +kernel
theorem dL_isText_287 : decode cL_isText 287 = .ok (.ifCond .eq 67, 3) := by decide +kernel
theorem dL_isText_290 : decode cL_isText 290 = .ok (.aload_n 0, 1) := by decide +kernel
theorem dL_isText_291 : decode cL_isText 291 = .ok (.iload_n 1, 1) := by decide +kernel
theorem dL_isText_292 : decode cL_isText 292 = .ok (.invokestatic 71, 3) := by decide +kernel
theorem dL_isText_295 : decode cL_isText 295 = .ok (.ifCond .eq 59, 3) := by decide +kernel
theorem dL_isText_298 : decode cL_isText 298 = .ok (.aload_n 0, 1) := by decide +kernel
theorem dL_isText_299 : decode cL_isText 299 = .ok (.bipush 59, 2) := by decide +kernel
theorem dL_isText_301 : decode cL_isText 301 = .ok (.invokevirtual 53, 3) := by decide +kernel
theorem dL_isText_304 : decode cL_isText 304 = .ok (.ifCond .le 50, 3) := by decide +kernel
theorem dL_isText_307 : decode cL_isText 307 = .ok (.aload_n 0, 1) := by decide +kernel
theorem dL_isText_308 : decode cL_isText 308 = .ok (.bipush 112, 2) := by decide +kernel
theorem dL_isText_310 : decode cL_isText 310 = .ok (.bipush 97, 2) := by decide +kernel
theorem dL_isText_312 : decode cL_isText 312 = .ok (.bipush 115, 2) := by decide +kernel
theorem dL_isText_314 : decode cL_isText 314 = .ok (.bipush 115, 2) := by decide +kernel
theorem dL_isText_316 : decode cL_isText 316 = .ok (.invokestatic 61, 3) := by decide +kernel
theorem dL_isText_319 : decode cL_isText 319 = .ok (.iconst 4, 1) := by decide +kernel
theorem dL_isText_320 : decode cL_isText 320 = .ok (.invokestatic 67, 3) := by decide +kernel
theorem dL_isText_323 : decode cL_isText 323 = .ok (.ifCond .eq 31, 3) := by decide +kernel
theorem dL_isText_326 : decode cL_isText 326 = .ok (.aload_n 0, 1) := by decide +kernel
theorem dL_isText_327 : decode cL_isText 327 = .ok (.bipush 59, 2) := by decide +kernel
theorem dL_isText_329 : decode cL_isText 329 = .ok (.invokevirtual 53, 3) := by decide +kernel
theorem dL_isText_332 : decode cL_isText 332 = .ok (.ifCond .le 22, 3) := by decide +kernel
theorem dL_isText_335 : decode cL_isText 335 = .ok (.aload_n 0, 1) := by decide +kernel
theorem dL_isText_336 : decode cL_isText 336 = .ok (.invokevirtual 81, 3) := by decide +kernel
theorem dL_isText_339 : decode cL_isText 339 = .ok (.iconst 3, 1) := by decide +kernel
theorem dL_isText_340 : decode cL_isText 340 = .ok (.if_icmp .ne 14, 3) := by decide +kernel
theorem dL_isText_343 : decode cL_isText 343 = .ok (.aload_n 0, 1) := by decide +kernel
theorem dL_isText_344 : decode cL_isText 344 = .ok (.invokevirtual 41, 3) := by decide +kernel
theorem dL_isText_347 : decode cL_isText 347 = .ok (.ifCond .lt 7, 3) := by decide +kernel
theorem dL_isText_350 : decode cL_isText 350 = .ok (.iconst 1, 1) := by decide +kernel
theorem dL_isText_351 : decode cL_isText 351 = .ok (.goto 4, 3) := by decide +kernel
theorem dL_isText_354 : decode cL_isText 354 = .ok (.iconst 0, 1) := by decide +kernel
theorem dL_isText_355 : decode cL_isText 355 = .ok (.istore 5, 2) := by decide +kernel
theorem dL_isText_357 : decode cL_isText 357 = .ok (.aload_n 0, 1) := by decide +kernel
theorem dL_isText_358 : decode cL_isText 358 = .ok (.bipush 120, 2) := by decide +kernel
theorem dL_isText_360 : decode cL_isText 360 = .ok (.invokevirtual 53, 3) := by decide +kernel
theorem dL_isText_363 : decode cL_isText 363 = .ok (.iconst 1, 1) := by decide +kernel
theorem dL_isText_364 : decode cL_isText 364 = .ok (.isub, 1) := by decide +kernel
theorem dL_isText_365 : decode cL_isText 365 = .ok (.istore 7, 2) := by decide +kernel
theorem dL_isText_367 : decode cL_isText 367 = .ok (.iload 5, 2) := by decide +kernel
theorem dL_isText_369 : decode cL_isText 369 = .ok (.ifCond .eq 51, 3) := by decide +kernel
theorem dL_isText_372 : decode cL_isText 372 = .ok (.aload_n 0, 1) := by decide +kernel
theorem dL_isText_373 : decode cL_isText 373 = .ok (.invokevirtual 75, 3) := by decide +kernel
theorem dL_isText_376 : decode cL_isText 376 = .ok (.iload 7, 2) := by decide +kernel
theorem dL_isText_378 : decode cL_isText 378 = .ok (.if_icmp .ne 42, 3) := by decide +kernel
theorem dL_isText_381 : decode cL_isText 381 = .ok (.aload_n 0, 1) := by decide +kernel
theorem dL_isText_382 : decode cL_isText 382 = .ok (.invokevirtual 81, 3) := by decide +kernel
theorem dL_isText_385 : decode cL_isText 385 = .ok (.sipush (-1002), 3) := by decide +kernel
theorem dL_isText_388 : decode cL_isText 388 = .ok (.if_icmp .ne 32, 3) := by decide +kernel
theorem dL_isText_391 : decode cL_isText 391 = .ok (.aload_n 0, 1) := by decide +kernel
theorem dL_isText_392 : decode cL_isText 392 = .ok (.invokevirtual 58, 3) := by decide +kernel
theorem dL_isText_395 : decode cL_isText 395 = .ok (.iload 7, 2) := by decide +kernel
theorem dL_isText_397 : decode cL_isText 397 = .ok (.iconst 1, 1) := by decide +kernel
theorem dL_isText_398 : decode cL_isText 398 = .ok (.iadd, 1) := by decide +kernel
theorem dL_isText_399 : decode cL_isText 399 = .ok (.if_icmp .ne 21, 3) := by decide +kernel
theorem dL_isText_402 : decode cL_isText 402 = .ok (.aload_n 0, 1) := by decide +kernel
theorem dL_isText_403 : decode cL_isText 403 = .ok (.invokevirtual 81, 3) := by decide +kernel
theorem dL_isText_406 : decode cL_isText 406 = .ok (.ifCond .ne 14, 3) := by decide +kernel
theorem dL_isText_409 : decode cL_isText 409 = .ok (.aload_n 0, 1) := by decide +kernel
theorem dL_isText_410 : decode cL_isText 410 = .ok (.invokevirtual 41, 3) := by decide +kernel
theorem dL_isText_413 : decode cL_isText 413 = .ok (.ifCond .lt 7, 3) := by decide +kernel
theorem dL_isText_416 : decode cL_isText 416 = .ok (.iconst 1, 1) := by decide +kernel
theorem dL_isText_417 : decode cL_isText 417 = .ok (.goto 4, 3) := by decide +kernel
theorem dL_isText_420 : decode cL_isText 420 = .ok (.iconst 0, 1) := by decide +kernel
theorem dL_isText_421 : decode cL_isText 421 = .ok (.istore 5, 2) := by decide +kernel
theorem dL_isText_423 : decode cL_isText 423 = .ok (.aload_n 0, 1) := by decide +kernel
theorem dL_isText_424 : decode cL_isText 424 = .ok (.iconst 1, 1) := by decide +kernel
theorem dL_isText_425 : decode cL_isText 425 = .ok (.invokevirtual 84, 3) := by decide +kernel
theorem dL_isText_428 : decode cL_isText 428 = .ok (.ifCond .le 179, 3) := by decide +kernel
theorem dL_isText_431 : decode cL_isText 431 = .ok (.iload_n 2, 1) := by decide +kernel
theorem dL_isText_432 : decode cL_isText 432 = .ok (.bipush 8, 2) := by decide +kernel
theorem dL_isText_434 : decode cL_isText 434 = .ok (.ishr, 1) := by decide +kernel
theorem dL_isText_435 : decode cL_isText 435 = .ok (.aload_n 0, 1) := by decide +kernel
theorem dL_isText_436 : decode cL_isText 436 = .ok (.iconst 1, 1) := by decide +kernel
theorem dL_isText_437 : decode cL_isText 437 = .ok (.invokevirtual 84, 3) := by decide +kernel
theorem dL_isText_440 : decode cL_isText 440 = .ok (.irem, 1) := by decide +kernel
theorem dL_isText_441 : decode cL_isText 441 = .ok (.istore 8, 2) := by decide +kernel
theorem dL_isText_443 : decode cL_isText 443 = .ok (.aload_n 0, 1) := by decide +kernel
theorem dL_isText_444 : decode cL_isText 444 = .ok (.iconst 1, 1) := by decide +kernel
theorem dL_isText_445 : decode cL_isText 445 = .ok (.iload 8, 2) := by decide +kernel
theorem dL_isText_447 : decode cL_isText 447 = .ok (.iconst 0, 1) := by decide +kernel
theorem dL_isText_448 : decode cL_isText 448 = .ok (.invokevirtual 87, 3) := by decide +kernel
theorem dL_isText_451 : decode cL_isText 451 = .ok (.istore 9, 2) := by decide +kernel
theorem dL_isText_453 : decode cL_isText 453 = .ok (.aload_n 0, 1) := by decide +kernel
theorem dL_isText_454 : decode cL_isText 454 = .ok (.iconst 1, 1) := by decide +kernel
theorem dL_isText_455 : decode cL_isText 455 = .ok (.iload 8, 2) := by decide +kernel
theorem dL_isText_457 : decode cL_isText 457 = .ok (.iconst 1, 1) := by decide +kernel
theorem dL_isText_458 : decode cL_isText 458 = .ok (.invokevirtual 87, 3) := by decide +kernel
theorem dL_isText_461 : decode cL_isText 461 = .ok (.istore 10, 2) := by decide +kernel
theorem dL_isText_463 : decode cL_isText 463 = .ok (.aload_n 0, 1) := by decide +kernel
theorem dL_isText_464 : decode cL_isText 464 = .ok (.iconst 1, 1) := by decide +kernel
theorem dL_isText_465 : decode cL_isText 465 = .ok (.iload 8, 2) := by decide +kernel
theorem dL_isText_467 : decode cL_isText 467 = .ok (.iconst 2, 1) := by decide +kernel
theorem dL_isText_468 : decode cL_isText 468 = .ok (.invokevirtual 87, 3) := by decide +kernel
theorem dL_isText_471 : decode cL_isText 471 = .ok (.istore 11, 2) := by decide +kernel
theorem dL_isText_473 : decode cL_isText 473 = .ok (.iload 5, 2) := by decide +kernel
theorem dL_isText_475 : decode cL_isText 475 = .ok (.ifCond .eq 129, 3) := by decide +kernel
theorem dL_isText_478 : decode cL_isText 478 = .ok (.aload_n 0, 1) := by decide +kernel
theorem dL_isText_479 : decode cL_isText 479 = .ok (.bipush 109, 2) := by decide +kernel
theorem dL_isText_481 : decode cL_isText 481 = .ok (.bipush 111, 2) := by decide +kernel
theorem dL_isText_483 : decode cL_isText 483 = .ok (.bipush 118, 2) := by decide +kernel
theorem dL_isText_485 : decode cL_isText 485 = .ok (.bipush 101, 2) := by decide +kernel
theorem dL_isText_487 : decode cL_isText 487 = .ok (.invokestatic 61, 3) := by decide +kernel
theorem dL_isText_490 : decode cL_isText 490 = .ok (.iconst 4, 1) := by decide +kernel
theorem dL_isText_491 : decode cL_isText 491 = .ok (.invokestatic 67, 3) := by decide +kernel
theorem dL_isText_494 : decode cL_isText 494 = .ok (.ifCond .eq 110, 3) := by decide +kernel
theorem dL_isText_497 : decode cL_isText 497 = .ok (.aload_n 0, 1) := by decide +kernel
theorem dL_isText_498 : decode cL_isText 498 = .ok (.iconst 1, 1) := by decide +kernel
theorem dL_isText_499 : decode cL_isText 499 = .ok (.invokestatic 71, 3) := by decide +kernel
theorem dL_isText_502 : decode cL_isText 502 = .ok (.ifCond .eq 102, 3) := by decide +kernel
theorem dL_isText_505 : decode cL_isText 505 = .ok (.aload_n 0, 1) := by decide +kernel
theorem dL_isText_506 : decode cL_isText 506 = .ok (.iload 9, 2) := by decide +kernel
theorem dL_isText_508 : decode cL_isText 508 = .ok (.invokestatic 71, 3) := by decide +kernel
theorem dL_isText_511 : decode cL_isText 511 = .ok (.ifCond .eq 93, 3) := by decide +kernel
theorem dL_isText_514 : decode cL_isText 514 = .ok (.aload_n 0, 1) := by decide +kernel
theorem dL_isText_515 : decode cL_isText 515 = .ok (.iload 10, 2) := by decide +kernel
theorem dL_isText_517 : decode cL_isText 517 = .ok (.invokestatic 71, 3) := by decide +kernel
theorem dL_isText_520 : decode cL_isText 520 = .ok (.ifCond .eq 84, 3) := by decide +kernel
theorem dL_isText_523 : decode cL_isText 523 = .ok (.aload_n 0, 1) := by decide +kernel
theorem dL_isText_524 : decode cL_isText 524 = .ok (.iload 11, 2) := by decide +kernel
theorem dL_isText_526 : decode cL_isText 526 = .ok (.invokestatic 71, 3) := by decide +kernel
theorem dL_isText_529 : decode cL_isText 529 = .ok (.ifCond .eq 75, 3) := by decide +kernel
theorem dL_isText_532 : decode cL_isText 532 = .ok (.aload_n 0, 1) := by decide +kernel
theorem dL_isText_533 : decode cL_isText 533 = .ok (.bipush 59, 2) := by decide +kernel
theorem dL_isText_535 : decode cL_isText 535 = .ok (.invokevirtual 53, 3) := by decide +kernel
theorem dL_isText_538 : decode cL_isText 538 = .ok (.ifCond .le 66, 3) := by decide +kernel
theorem dL_isText_541 : decode cL_isText 541 = .ok (.aload_n 0, 1) := by decide +kernel
theorem dL_isText_542 : decode cL_isText 542 = .ok (.invokevirtual 81, 3) := by decide +kernel
theorem dL_isText_545 : decode cL_isText 545 = .ok (.iconst 1, 1) := by decide +kernel
theorem dL_isText_546 : decode cL_isText 546 = .ok (.if_icmp .ne 58, 3) := by decide +kernel
theorem dL_isText_549 : decode cL_isText 549 = .ok (.aload_n 0, 1) := by decide +kernel
theorem dL_isText_550 : decode cL_isText 550 = .ok (.iload 11, 2) := by decide +kernel
theorem dL_isText_552 : decode cL_isText 552 = .ok (.invokevirtual 78, 3) := by decide +kernel
theorem dL_isText_555 : decode cL_isText 555 = .ok (.iconst 3, 1) := by decide +kernel
theorem dL_isText_556 : decode cL_isText 556 = .ok (.if_icmp .ne 48, 3) := by decide +kernel
theorem dL_isText_559 : decode cL_isText 559 = .ok (.aload_n 0, 1) := by decide +kernel
theorem dL_isText_560 : decode cL_isText 560 = .ok (.iload 10, 2) := by decide +kernel
theorem dL_isText_562 : decode cL_isText 562 = .ok (.invokevirtual 78, 3) := by decide +kernel
theorem dL_isText_565 : decode cL_isText 565 = .ok (.iconst 1, 1) := by decide +kernel
theorem dL_isText_566 : decode cL_isText 566 = .ok (.if_icmp .ne 38, 3) := by decide +kernel
theorem dL_isText_569 : decode cL_isText 569 = .ok (.aload_n 0, 1) := by decide +kernel
theorem dL_isText_570 : decode cL_isText 570 = .ok (.invokevirtual 81, 3) := by decide +kernel
theorem dL_isText_573 : decode cL_isText 573 = .ok (.ifCond .ne 31, 3) := by decide +kernel
theorem dL_isText_576 : decode cL_isText 576 = .ok (.aload_n 0, 1) := by decide +kernel
theorem dL_isText_577 : decode cL_isText 577 = .ok (.invokevirtual 41, 3) := by decide +kernel
theorem dL_isText_580 : decode cL_isText 580 = .ok (.ifCond .lt 24, 3) := by decide +kernel
theorem dL_isText_583 : decode cL_isText 583 = .ok (.aload_n 0, 1) := by decide +kernel
theorem dL_isText_584 : decode cL_isText 584 = .ok (.invokevirtual 41, 3) := by decide +kernel
theorem dL_isText_587 : decode cL_isText 587 = .ok (.ifCond .lt 17, 3) := by decide +kernel
theorem dL_isText_590 : decode cL_isText 590 = .ok (.aload_n 0, 1) := by decide +kernel
theorem dL_isText_591 : decode cL_isText 591 = .ok (.iload 9, 2) := by decide +kernel
theorem dL_isText_593 : decode cL_isText 593 = .ok (.invokevirtual 78, 3) := by decide +kernel
theorem dL_isText_596 : decode cL_isText 596 = .ok (.iconst 1, 1) := by decide +kernel
theorem dL_isText_597 : decode cL_isText 597 = .ok (.if_icmp .ne 7, 3) := by decide +kernel
theorem dL_isText_600 : decode cL_isText 600 = .ok (.iconst 1, 1) := by decide +kernel
theorem dL_isText_601 : decode cL_isText 601 = .ok (.goto 4, 3) := by decide +kernel
theorem dL_isText_604 : decode cL_isText 604 = .ok (.iconst 0, 1) := by decide +kernel
theorem dL_isText_605 : decode cL_isText 605 = .ok (.istore 5, 2) := by decide +kernel
theorem dL_isText_607 : decode cL_isText 607 = .ok (.iload 5, 2) := by decide +kernel
theorem dL_isText_609 : decode cL_isText 609 = .ok (.ireturn, 1) := by decide +kernel
theorem dL_isSound_0 : decode cL_isSound 0 = .ok (.iconst 1, 1) := by decide +kernel
theorem dL_isSound_1 : decode cL_isSound 1 = .ok (.istore_n 3, 1) := by decide +kernel
theorem dL_isSound_2 : decode cL_isSound 2 = .ok (.iconst 0, 1) := by decide +kernel
theorem dL_isSound_3 : decode cL_isSound 3 = .ok (.istore 4, 2) := by decide +kernel
theorem dL_isSound_5 : decode cL_isSound 5 = .ok (.iconst 0, 1) := by decide +kernel
theorem dL_isSound_6 : decode cL_isSound 6 = .ok (.istore 5, 2) := by decide +kernel
theorem dL_isSound_8 : decode cL_isSound 8 = .ok (.iload 5, 2) := by decide +kernel
theorem dL_isSound_10 : decode cL_isSound 10 = .ok (.bipush 12, 2) := by decide +kernel
theorem dL_isSound_12 : decode cL_isSound 12 = .ok (.if_icmp .ge 174, 3) := by decide +kernel
theorem dL_isSound_15 : decode cL_isSound 15 = .ok (.iload_n 3, 1) := by decide +kernel
theorem dL_isSound_16 : decode cL_isSound 16 = .ok (.ifCond .eq 170, 3) := by decide +kernel
theorem dL_isSound_19 : decode cL_isSound 19 = .ok (.iconst 1, 1) := by decide +kernel
theorem dL_isSound_20 : decode cL_isSound 20 = .ok (.iload 5, 2) := by decide +kernel
theorem dL_isSound_22 : decode cL_isSound 22 = .ok (.iload_n 2, 1) := by decide +kernel
theorem dL_isSound_23 : decode cL_isSound 23 = .ok (.iadd, 1) := by decide +kernel
theorem dL_isSound_24 : decode cL_isSound 24 = .ok (.iconst 2, 1) := by decide +kernel
theorem dL_isSound_25 : decode cL_isSound 25 = .ok (.irem, 1) := by decide +kernel
theorem dL_isSound_26 : decode cL_isSound 26 = .ok (.iadd, 1) := by decide +kernel
theorem dL_isSound_27 : decode cL_isSound 27 = .ok (.istore 6, 2) := by decide +kernel
theorem dL_isSound_29 : decode cL_isSound 29 = .ok (.aload_n 0, 1) := by decide +kernel
theorem dL_isSound_30 : decode cL_isSound 30 = .ok (.iload 6, 2) := by decide +kernel
theorem dL_isSound_32 : decode cL_isSound 32 = .ok (.invokevirtual 84, 3) := by decide +kernel
theorem dL_isSound_35 : decode cL_isSound 35 = .ok (.istore 7, 2) := by decide +kernel
theorem dL_isSound_37 : decode cL_isSound 37 = .ok (.iload 7, 2) := by decide +kernel
theorem dL_isSound_39 : decode cL_isSound 39 = .ok (.ifCond .le 141, 3) := by decide +kernel
theorem dL_isSound_42 : decode cL_isSound 42 = .ok (.iload_n 2, 1) := by decide +kernel
theorem dL_isSound_43 : decode cL_isSound 43 = .ok (.iload 5, 2) := by decide +kernel
theorem dL_isSound_45 : decode cL_isSound 45 = .ok (.ishr, 1) := by decide +kernel
theorem dL_isSound_46 : decode cL_isSound 46 = .ok (.iload 7, 2) := by decide +kernel
theorem dL_isSound_48 : decode cL_isSound 48 = .ok (.irem, 1) := by decide +kernel
theorem dL_isSound_49 : decode cL_isSound 49 = .ok (.istore 8, 2) := by decide +kernel
theorem dL_isSound_51 : decode cL_isSound 51 = .ok (.aload_n 0, 1) := by decide +kernel
theorem dL_isSound_52 : decode cL_isSound 52 = .ok (.iconst 3, 1) := by decide +kernel
theorem dL_isSound_53 : decode cL_isSound 53 = .ok (.invokevirtual 15, 3) := by decide +kernel
theorem dL_isSound_56 : decode cL_isSound 56 = .ok (.istore 9, 2) := by decide +kernel
theorem dL_isSound_58 : decode cL_isSound 58 = .ok (.aload_n 0, 1) := by decide +kernel
theorem dL_isSound_59 : decode cL_isSound 59 = .ok (.iload 6, 2) := by decide +kernel
theorem dL_isSound_61 : decode cL_isSound 61 = .ok (.iload 8, 2) := by decide +kernel
theorem dL_isSound_63 : decode cL_isSound 63 = .ok (.iconst 0, 1) := by decide +kernel
theorem dL_isSound_64 : decode cL_isSound 64 = .ok (.invokevirtual 87, 3) := by decide +kernel
theorem dL_isSound_67 : decode cL_isSound 67 = .ok (.istore 10, 2) := by decide +kernel
theorem dL_isSound_69 : decode cL_isSound 69 = .ok (.aload_n 0, 1) := by decide +kernel
theorem dL_isSound_70 : decode cL_isSound 70 = .ok (.iload 6, 2) := by decide +kernel
theorem dL_isSound_72 : decode cL_isSound 72 = .ok (.iload 8, 2) := by decide +kernel
theorem dL_isSound_74 : decode cL_isSound 74 = .ok (.iconst 1, 1) := by decide +kernel
theorem dL_isSound_75 : decode cL_isSound 75 = .ok (.invokevirtual 87, 3) := by decide +kernel
theorem dL_isSound_78 : decode cL_isSound 78 = .ok (.istore 11, 2) := by decide +kernel
theorem dL_isSound_80 : decode cL_isSound 80 = .ok (.aload_n 0, 1) := by decide +kernel
theorem dL_isSound_81 : decode cL_isSound 81 = .ok (.iload 10, 2) := by decide +kernel
theorem dL_isSound_83 : decode cL_isSound 83 = .ok (.iload 11, 2) := by decide +kernel
theorem dL_isSound_85 : decode cL_isSound 85 = .ok (.invokevirtual 91, 3) := by decide +kernel
theorem dL_isSound_88 : decode cL_isSound 88 = .ok (.iconst 1, 1) := by decide +kernel
theorem dL_isSound_89 : decode cL_isSound 89 = .ok (.if_icmp .ne 86, 3) := by decide +kernel
theorem dL_isSound_92 : decode cL_isSound 92 = .ok (.aload_n 0, 1) := by decide +kernel
theorem dL_isSound_93 : decode cL_isSound 93 = .ok (.iload 11, 2) := by decide +kernel
theorem dL_isSound_95 : decode cL_isSound 95 = .ok (.iload 10, 2) := by decide +kernel
theorem dL_isSound_97 : decode cL_isSound 97 = .ok (.invokevirtual 91, 3) := by decide +kernel
theorem dL_isSound_100 : decode cL_isSound 100 = .ok (.ifCond .ne 75, 3) := by decide +kernel
theorem dL_isSound_103 : decode cL_isSound 103 = .ok (.aload_n 0, 1) := by decide +kernel
theorem dL_isSound_104 : decode cL_isSound 104 = .ok (.iload 6, 2) := by decide +kernel
theorem dL_isSound_106 : decode cL_isSound 106 = .ok (.iload 10, 2) := by decide +kernel
theorem dL_isSound_108 : decode cL_isSound 108 = .ok (.iload 11, 2) := by decide +kernel
theorem dL_isSound_110 : decode cL_isSound 110 = .ok (.aload_n 0, 1) := by decide +kernel
theorem dL_isSound_111 : decode cL_isSound 111 = .ok (.iload 6, 2) := by decide +kernel
theorem dL_isSound_113 : decode cL_isSound 113 = .ok (.iload 8, 2) := by decide +kernel
theorem dL_isSound_115 : decode cL_isSound 115 = .ok (.iconst 2, 1) := by decide +kernel
theorem dL_isSound_116 : decode cL_isSound 116 = .ok (.invokevirtual 87, 3) := by decide +kernel
theorem dL_isSound_119 : decode cL_isSound 119 = .ok (.invokevirtual 94, 3) := by decide +kernel
theorem dL_isSound_122 : decode cL_isSound 122 = .ok (.aload_n 0, 1) := by decide +kernel
theorem dL_isSound_123 : decode cL_isSound 123 = .ok (.iconst 3, 1) := by decide +kernel
theorem dL_isSound_124 : decode cL_isSound 124 = .ok (.iload 6, 2) := by decide +kernel
theorem dL_isSound_126 : decode cL_isSound 126 = .ok (.isub, 1) := by decide +kernel
theorem dL_isSound_127 : decode cL_isSound 127 = .ok (.invokevirtual 84, 3) := by decide +kernel
theorem dL_isSound_130 : decode cL_isSound 130 = .ok (.if_icmp .ne 45, 3) := by decide +kernel
theorem dL_isSound_133 : decode cL_isSound 133 = .ok (.aload_n 0, 1) := by decide +kernel
theorem dL_isSound_134 : decode cL_isSound 134 = .ok (.iconst 3, 1) := by decide +kernel
theorem dL_isSound_135 : decode cL_isSound 135 = .ok (.invokevirtual 15, 3) := by decide +kernel
theorem dL_isSound_138 : decode cL_isSound 138 = .ok (.iload 9, 2) := by decide +kernel
theorem dL_isSound_140 : decode cL_isSound 140 = .ok (.iconst 1, 1) := by decide +kernel
theorem dL_isSound_141 : decode cL_isSound 141 = .ok (.iadd, 1) := by decide +kernel
theorem dL_isSound_142 : decode cL_isSound 142 = .ok (.if_icmp .ne 33, 3) := by decide +kernel
theorem dL_isSound_145 : decode cL_isSound 145 = .ok (.aload_n 0, 1) := by decide +kernel
theorem dL_isSound_146 : decode cL_isSound 146 = .ok (.iconst 0, 1) := by decide +kernel
theorem dL_isSound_147 : decode cL_isSound 147 = .ok (.invokevirtual 15, 3) := by decide +kernel
theorem dL_isSound_150 : decode cL_isSound 150 = .ok (.aload_n 0, 1) := by decide +kernel
theorem dL_isSound_151 : decode cL_isSound 151 = .ok (.iconst 1, 1) := by decide +kernel
theorem dL_isSound_152 : decode cL_isSound 152 = .ok (.invokevirtual 15, 3) := by decide +kernel
theorem dL_isSound_155 : decode cL_isSound 155 = .ok (.iadd, 1) := by decide +kernel
theorem dL_isSound_156 : decode cL_isSound 156 = .ok (.aload_n 0, 1) := by decide +kernel
theorem dL_isSound_157 : decode cL_isSound 157 = .ok (.iconst 2, 1) := by decide +kernel
theorem dL_isSound_158 : decode cL_isSound 158 = .ok (.invokevirtual 15, 3) := by decide +kernel
theorem dL_isSound_161 : decode cL_isSound 161 = .ok (.iadd, 1) := by decide +kernel
theorem dL_isSound_162 : decode cL_isSound 162 = .ok (.iload 9, 2) := by decide +kernel
theorem dL_isSound_164 : decode cL_isSound 164 = .ok (.iadd, 1) := by decide +kernel
theorem dL_isSound_165 : decode cL_isSound 165 = .ok (.iconst 1, 1) := by decide +kernel
theorem dL_isSound_166 : decode cL_isSound 166 = .ok (.iadd, 1) := by decide +kernel
theorem dL_isSound_167 : decode cL_isSound 167 = .ok (.iload_n 1, 1) := by decide +kernel
theorem dL_isSound_168 : decode cL_isSound 168 = .ok (.if_icmp .ne 7, 3) := by decide +kernel
theorem dL_isSound_171 : decode cL_isSound 171 = .ok (.iconst 1, 1) := by decide +kernel
theorem dL_isSound_172 : decode cL_isSound 172 = .ok (.goto 4, 3) := by decide +kernel
theorem dL_isSound_175 : decode cL_isSound 175 = .ok (.iconst 0, 1) := by decide +kernel
theorem dL_isSound_176 : decode cL_isSound 176 = .ok (.istore_n 3, 1) := by decide +kernel
theorem dL_isSound_177 : decode cL_isSound 177 = .ok (.iinc 4 1, 3) := by decide +kernel
theorem dL_isSound_180 : decode cL_isSound 180 = .ok (.iinc 5 1, 3) := by decide +kernel
theorem dL_isSound_183 : decode cL_isSound 183 = .ok (.goto (-175), 3) := by decide +kernel
theorem dL_isSound_186 : decode cL_isSound 186 = .ok (.iload 4, 2) := by decide +kernel
theorem dL_isSound_188 : decode cL_isSound 188 = .ok (.bipush 8, 2) := by decide +kernel
theorem dL_isSound_190 : decode cL_isSound 190 = .ok (.if_icmp .le 8, 3) := by decide +kernel
theorem dL_isSound_193 : decode cL_isSound 193 = .ok (.bipush 8, 2) := by decide +kernel
theorem dL_isSound_195 : decode cL_isSound 195 = .ok (.goto 5, 3) := by decide +kernel
theorem dL_isSound_198 : decode cL_isSound 198 = .ok (.iload 4, 2) := by decide +kernel
theorem dL_isSound_200 : decode cL_isSound 200 = .ok (.istore 5, 2) := by decide +kernel
theorem dL_isSound_202 : decode cL_isSound 202 = .ok (.aload_n 0, 1) := by decide +kernel
theorem dL_isSound_203 : decode cL_isSound 203 = .ok (.iconst 3, 1) := by decide +kernel
theorem dL_isSound_204 : decode cL_isSound 204 = .ok (.invokevirtual 15, 3) := by decide +kernel
theorem dL_isSound_207 : decode cL_isSound 207 = .ok (.istore 6, 2) := by decide +kernel
theorem dL_isSound_209 : decode cL_isSound 209 = .ok (.iconst 0, 1) := by decide +kernel
theorem dL_isSound_210 : decode cL_isSound 210 = .ok (.istore 7, 2) := by decide +kernel
theorem dL_isSound_212 : decode cL_isSound 212 = .ok (.iload 7, 2) := by decide +kernel
theorem dL_isSound_214 : decode cL_isSound 214 = .ok (.iload 5, 2) := by decide +kernel
theorem dL_isSound_216 : decode cL_isSound 216 = .ok (.if_icmp .ge 41, 3) := by decide +kernel
theorem dL_isSound_219 : decode cL_isSound 219 = .ok (.iload_n 3, 1) := by decide +kernel
theorem dL_isSound_220 : decode cL_isSound 220 = .ok (.ifCond .eq 37, 3) := by decide +kernel
theorem dL_isSound_223 : decode cL_isSound 223 = .ok (.aload_n 0, 1) := by decide +kernel
theorem dL_isSound_224 : decode cL_isSound 224 = .ok (.invokevirtual 41, 3) := by decide +kernel
theorem dL_isSound_227 : decode cL_isSound 227 = .ok (.ifCond .lt 22, 3) := by decide +kernel
theorem dL_isSound_230 : decode cL_isSound 230 = .ok (.aload_n 0, 1) := by decide +kernel
theorem dL_isSound_231 : decode cL_isSound 231 = .ok (.iconst 3, 1) := by decide +kernel
theorem dL_isSound_232 : decode cL_isSound 232 = .ok (.invokevirtual 15, 3) := by decide +kernel
theorem dL_isSound_235 : decode cL_isSound 235 = .ok (.iload 6, 2) := by decide +kernel
theorem dL_isSound_237 : decode cL_isSound 237 = .ok (.iconst 1, 1) := by decide +kernel
theorem dL_isSound_238 : decode cL_isSound 238 = .ok (.isub, 1) := by decide +kernel
theorem dL_isSound_239 : decode cL_isSound 239 = .ok (.iload 7, 2) := by decide +kernel
theorem dL_isSound_241 : decode cL_isSound 241 = .ok (.isub, 1) := by decide +kernel
theorem dL_isSound_242 : decode cL_isSound 242 = .ok (.if_icmp .ne 7, 3) := by decide +kernel
theorem dL_isSound_245 : decode cL_isSound 245 = .ok (.iconst 1, 1) := by decide +kernel
theorem dL_isSound_246 : decode cL_isSound 246 = .ok (.goto 4, 3) := by decide +kernel
theorem dL_isSound_249 : decode cL_isSound 249 = .ok (.iconst 0, 1) := by decide +kernel
theorem dL_isSound_250 : decode cL_isSound 250 = .ok (.istore_n 3, 1) := by decide +kernel
theorem dL_isSound_251 : decode cL_isSound 251 = .ok (.iinc 7 1, 3) := by decide +kernel
theorem dL_isSound_254 : decode cL_isSound 254 = .ok (.goto (-42), 3) := by decide +kernel
theorem dL_isSound_257 : decode cL_isSound 257 = .ok (.iload_n 3, 1) := by decide +kernel
theorem dL_isSound_258 : decode cL_isSound 258 = .ok (.ireturn, 1) := by decide +kernel
theorem dL_law_0 : decode cL_law 0 = .ok (.new 10, 3) := by decide +kernel
theorem dL_law_3 : decode cL_law 3 = .ok (.dup, 1) := by decide +kernel
theorem dL_law_4 : decode cL_law 4 = .ok (.invokespecial 98, 3) := by decide +kernel
theorem dL_law_7 : decode cL_law 7 = .ok (.astore_n 1, 1) := by decide +kernel
theorem dL_law_8 : decode cL_law 8 = .ok (.iconst 1, 1) := by decide +kernel
theorem dL_law_9 : decode cL_law 9 = .ok (.istore_n 2, 1) := by decide +kernel
theorem dL_law_10 : decode cL_law 10 = .ok (.iconst 0, 1) := by decide +kernel
theorem dL_law_11 : decode cL_law 11 = .ok (.istore_n 3, 1) := by decide +kernel
theorem dL_law_12 : decode cL_law 12 = .ok (.iload_n 3, 1) := by decide +kernel
theorem dL_law_13 : decode cL_law 13 = .ok (.bipush 6, 2) := by decide +kernel
theorem dL_law_15 : decode cL_law 15 = .ok (.if_icmp .ge 132, 3) := by decide +kernel
theorem dL_law_18 : decode cL_law 18 = .ok (.iload_n 2, 1) := by decide +kernel
theorem dL_law_19 : decode cL_law 19 = .ok (.ifCond .eq 128, 3) := by decide +kernel
theorem dL_law_22 : decode cL_law 22 = .ok (.aload_n 0, 1) := by decide +kernel
theorem dL_law_23 : decode cL_law 23 = .ok (.iload_n 3, 1) := by decide +kernel
theorem dL_law_24 : decode cL_law 24 = .ok (.invokestatic 99, 3) := by decide +kernel
theorem dL_law_27 : decode cL_law 27 = .ok (.istore 4, 2) := by decide +kernel
theorem dL_law_29 : decode cL_law 29 = .ok (.iconst 2, 1) := by decide +kernel
theorem dL_law_30 : decode cL_law 30 = .ok (.iload 4, 2) := by decide +kernel
theorem dL_law_32 : decode cL_law 32 = .ok (.iconst 4, 1) := by decide +kernel
theorem dL_law_33 : decode cL_law 33 = .ok (.irem, 1) := by decide +kernel
theorem dL_law_34 : decode cL_law 34 = .ok (.iadd, 1) := by decide +kernel
theorem dL_law_35 : decode cL_law 35 = .ok (.istore 5, 2) := by decide +kernel
theorem dL_law_37 : decode cL_law 37 = .ok (.iconst 1, 1) := by decide +kernel
theorem dL_law_38 : decode cL_law 38 = .ok (.iload 4, 2) := by decide +kernel
theorem dL_law_40 : decode cL_law 40 = .ok (.iconst 3, 1) := by decide +kernel
theorem dL_law_41 : decode cL_law 41 = .ok (.ishr, 1) := by decide +kernel
theorem dL_law_42 : decode cL_law 42 = .ok (.iconst 3, 1) := by decide +kernel
theorem dL_law_43 : decode cL_law 43 = .ok (.irem, 1) := by decide +kernel
theorem dL_law_44 : decode cL_law 44 = .ok (.iadd, 1) := by decide +kernel
theorem dL_law_45 : decode cL_law 45 = .ok (.istore 6, 2) := by decide +kernel
theorem dL_law_47 : decode cL_law 47 = .ok (.aload_n 1, 1) := by decide +kernel
theorem dL_law_48 : decode cL_law 48 = .ok (.iload 4, 2) := by decide +kernel
theorem dL_law_50 : decode cL_law 50 = .ok (.invokestatic 103, 3) := by decide +kernel
theorem dL_law_53 : decode cL_law 53 = .ok (.ifCond .eq 86, 3) := by decide +kernel
theorem dL_law_56 : decode cL_law 56 = .ok (.aload_n 1, 1) := by decide +kernel
theorem dL_law_57 : decode cL_law 57 = .ok (.iload 5, 2) := by decide +kernel
theorem dL_law_59 : decode cL_law 59 = .ok (.iload 6, 2) := by decide +kernel
theorem dL_law_61 : decode cL_law 61 = .ok (.aload_n 0, 1) := by decide +kernel
theorem dL_law_62 : decode cL_law 62 = .ok (.bipush 6, 2) := by decide +kernel
theorem dL_law_64 : decode cL_law 64 = .ok (.iload_n 3, 1) := by decide +kernel
theorem dL_law_65 : decode cL_law 65 = .ok (.iadd, 1) := by decide +kernel
theorem dL_law_66 : decode cL_law 66 = .ok (.invokestatic 99, 3) := by decide +kernel
theorem dL_law_69 : decode cL_law 69 = .ok (.invokestatic 106, 3) := by decide +kernel
theorem dL_law_72 : decode cL_law 72 = .ok (.ifCond .eq 67, 3) := by decide +kernel
theorem dL_law_75 : decode cL_law 75 = .ok (.aload_n 1, 1) := by decide +kernel
theorem dL_law_76 : decode cL_law 76 = .ok (.iload 5, 2) := by decide +kernel
theorem dL_law_78 : decode cL_law 78 = .ok (.iload 6, 2) := by decide +kernel
theorem dL_law_80 : decode cL_law 80 = .ok (.imul, 1) := by decide +kernel
theorem dL_law_81 : decode cL_law 81 = .ok (.iload 4, 2) := by decide +kernel
theorem dL_law_83 : decode cL_law 83 = .ok (.iconst 5, 1) := by decide +kernel
theorem dL_law_84 : decode cL_law 84 = .ok (.ishr, 1) := by decide +kernel
theorem dL_law_85 : decode cL_law 85 = .ok (.invokestatic 110, 3) := by decide +kernel
theorem dL_law_88 : decode cL_law 88 = .ok (.ifCond .eq 51, 3) := by decide +kernel
theorem dL_law_91 : decode cL_law 91 = .ok (.aload_n 1, 1) := by decide +kernel
theorem dL_law_92 : decode cL_law 92 = .ok (.iload 5, 2) := by decide +kernel
theorem dL_law_94 : decode cL_law 94 = .ok (.iload 6, 2) := by decide +kernel
theorem dL_law_96 : decode cL_law 96 = .ok (.imul, 1) := by decide +kernel
theorem dL_law_97 : decode cL_law 97 = .ok (.iload 4, 2) := by decide +kernel
theorem dL_law_99 : decode cL_law 99 = .ok (.iconst 2, 1) := by decide +kernel
theorem dL_law_100 : decode cL_law 100 = .ok (.ishr, 1) := by decide +kernel
theorem dL_law_101 : decode cL_law 101 = .ok (.invokestatic 114, 3) := by decide +kernel
theorem dL_law_104 : decode cL_law 104 = .ok (.ifCond .eq 35, 3) := by decide +kernel
theorem dL_law_107 : decode cL_law 107 = .ok (.aload_n 1, 1) := by decide +kernel
theorem dL_law_108 : decode cL_law 108 = .ok (.iload 5, 2) := by decide +kernel
theorem dL_law_110 : decode cL_law 110 = .ok (.iload 6, 2) := by decide +kernel
theorem dL_law_112 : decode cL_law 112 = .ok (.imul, 1) := by decide +kernel
theorem dL_law_113 : decode cL_law 113 = .ok (.iconst 0, 1) := by decide +kernel
theorem dL_law_114 : decode cL_law 114 = .ok (.invokevirtual 19, 3) := by decide +kernel
theorem dL_law_117 : decode cL_law 117 = .ok (.sipush (-1001), 3) := by decide +kernel
theorem dL_law_120 : decode cL_law 120 = .ok (.if_icmp .ne 19, 3) := by decide +kernel
theorem dL_law_123 : decode cL_law 123 = .ok (.aload_n 1, 1) := by decide +kernel
theorem dL_law_124 : decode cL_law 124 = .ok (.iconst 0, 1) := by decide +kernel
theorem dL_law_125 : decode cL_law 125 = .ok (.iconst 4, 1) := by decide +kernel
theorem dL_law_126 : decode cL_law 126 = .ok (.invokevirtual 19, 3) := by decide +kernel
theorem dL_law_129 : decode cL_law 129 = .ok (.sipush (-1001), 3) := by decide +kernel
theorem dL_law_132 : decode cL_law 132 = .ok (.if_icmp .ne 7, 3) := by decide +kernel
theorem dL_law_135 : decode cL_law 135 = .ok (.iconst 1, 1) := by decide +kernel
theorem dL_law_136 : decode cL_law 136 = .ok (.goto 4, 3) := by decide +kernel
theorem dL_law_139 : decode cL_law 139 = .ok (.iconst 0, 1) := by decide +kernel
theorem dL_law_140 : decode cL_law 140 = .ok (.istore_n 2, 1) := by decide +kernel
theorem dL_law_141 : decode cL_law 141 = .ok (.iinc 3 1, 3) := by decide +kernel
theorem dL_law_144 : decode cL_law 144 = .ok (.goto (-132), 3) := by decide +kernel
theorem dL_law_147 : decode cL_law 147 = .ok (.iload_n 2, 1) := by decide +kernel
theorem dL_law_148 : decode cL_law 148 = .ok (.ireturn, 1) := by decide +kernel
