section
-- ===== PART A: goes FIRST, ahead of the names: the tables' words, and 'selects' of the private methods out of them =====
/-- a private method of a class that the tables say can be made, by its rows of tables_1 -/
def lw_okq (q : MethodName × Nat) : Prop := (q.1.cls ≠ "java/lang/invoke/MethodHandle" ∧ q.1.cls ≠ "java/lang/invoke/VarHandle") ∧ Cond.instantiable q.1.cls q.2 ∈ tables_1 ∧ Cond.privateMethod q.1 ∈ tables_1 ∧ Cond.instanceMethod q.1 ∈ tables_1
theorem lw_p0 : lw_okq (⟨"HistoryRows", "begin", "()V"⟩, 9) := ⟨⟨by decide +kernel, by decide +kernel⟩, List.mem_of_getElem? (i := 9) (by decide +kernel), List.mem_of_getElem? (i := 106) (by decide +kernel), List.mem_of_getElem? (i := 107) (by decide +kernel)⟩
theorem lw_p1 : lw_okq (⟨"HistoryRows", "isHeight", "(I)Z"⟩, 9) := ⟨⟨by decide +kernel, by decide +kernel⟩, List.mem_of_getElem? (i := 9) (by decide +kernel), List.mem_of_getElem? (i := 196) (by decide +kernel), List.mem_of_getElem? (i := 197) (by decide +kernel)⟩
theorem lw_p2 : lw_okq (⟨"HistoryRows", "refusalOfTwo", "(II)I"⟩, 9) := ⟨⟨by decide +kernel, by decide +kernel⟩, List.mem_of_getElem? (i := 9) (by decide +kernel), List.mem_of_getElem? (i := 237) (by decide +kernel), List.mem_of_getElem? (i := 238) (by decide +kernel)⟩
theorem lw_p3 : lw_okq (⟨"HistoryRows", "loadTwo", "(II)V"⟩, 9) := ⟨⟨by decide +kernel, by decide +kernel⟩, List.mem_of_getElem? (i := 9) (by decide +kernel), List.mem_of_getElem? (i := 241) (by decide +kernel), List.mem_of_getElem? (i := 242) (by decide +kernel)⟩
theorem lw_p4 : lw_okq (⟨"HistoryRows$Rows", "copyRow", "(II)V"⟩, 7) := ⟨⟨by decide +kernel, by decide +kernel⟩, List.mem_of_getElem? (i := 17) (by decide +kernel), List.mem_of_getElem? (i := 311) (by decide +kernel), List.mem_of_getElem? (i := 312) (by decide +kernel)⟩
theorem lw_p5 : lw_okq (⟨"HistoryRows", "refusalOfReplay", "(II)I"⟩, 9) := ⟨⟨by decide +kernel, by decide +kernel⟩, List.mem_of_getElem? (i := 9) (by decide +kernel), List.mem_of_getElem? (i := 331) (by decide +kernel), List.mem_of_getElem? (i := 332) (by decide +kernel)⟩
theorem lw_p6 : lw_okq (⟨"HistoryRowsModel", "begin", "()V"⟩, 18) := ⟨⟨by decide +kernel, by decide +kernel⟩, List.mem_of_getElem? (i := 387) (by decide +kernel), List.mem_of_getElem? (i := 393) (by decide +kernel), List.mem_of_getElem? (i := 394) (by decide +kernel)⟩
theorem lw_p7 : lw_okq (⟨"HistoryRowsModel", "digestOf", "(I)I"⟩, 18) := ⟨⟨by decide +kernel, by decide +kernel⟩, List.mem_of_getElem? (i := 387) (by decide +kernel), List.mem_of_getElem? (i := 397) (by decide +kernel), List.mem_of_getElem? (i := 398) (by decide +kernel)⟩
theorem lw_p8 : lw_okq (⟨"HistoryRowsModel", "nowOf", "(I)I"⟩, 18) := ⟨⟨by decide +kernel, by decide +kernel⟩, List.mem_of_getElem? (i := 387) (by decide +kernel), List.mem_of_getElem? (i := 477) (by decide +kernel), List.mem_of_getElem? (i := 478) (by decide +kernel)⟩
theorem lw_p9 : lw_okq (⟨"HistoryRowsModel", "lastOf", "(I)I"⟩, 18) := ⟨⟨by decide +kernel, by decide +kernel⟩, List.mem_of_getElem? (i := 387) (by decide +kernel), List.mem_of_getElem? (i := 481) (by decide +kernel), List.mem_of_getElem? (i := 482) (by decide +kernel)⟩
theorem lw_p10 : lw_okq (⟨"HistoryRowsModel", "isHeight", "(I)Z"⟩, 18) := ⟨⟨by decide +kernel, by decide +kernel⟩, List.mem_of_getElem? (i := 387) (by decide +kernel), List.mem_of_getElem? (i := 493) (by decide +kernel), List.mem_of_getElem? (i := 494) (by decide +kernel)⟩
theorem lw_p11 : lw_okq (⟨"HistoryRowsModel", "bars", "(II)I"⟩, 18) := ⟨⟨by decide +kernel, by decide +kernel⟩, List.mem_of_getElem? (i := 387) (by decide +kernel), List.mem_of_getElem? (i := 519) (by decide +kernel), List.mem_of_getElem? (i := 520) (by decide +kernel)⟩
theorem lw_p12 : lw_okq (⟨"HistoryRowsModel", "goes", "(I)Z"⟩, 18) := ⟨⟨by decide +kernel, by decide +kernel⟩, List.mem_of_getElem? (i := 387) (by decide +kernel), List.mem_of_getElem? (i := 535) (by decide +kernel), List.mem_of_getElem? (i := 536) (by decide +kernel)⟩
theorem lw_p13 : lw_okq (⟨"HistoryRowsModel", "isNeeded", "(I)Z"⟩, 18) := ⟨⟨by decide +kernel, by decide +kernel⟩, List.mem_of_getElem? (i := 387) (by decide +kernel), List.mem_of_getElem? (i := 539) (by decide +kernel), List.mem_of_getElem? (i := 540) (by decide +kernel)⟩
theorem lw_p14 : lw_okq (⟨"HistoryRowsModel", "squeeze", "(I)I"⟩, 18) := ⟨⟨by decide +kernel, by decide +kernel⟩, List.mem_of_getElem? (i := 387) (by decide +kernel), List.mem_of_getElem? (i := 555) (by decide +kernel), List.mem_of_getElem? (i := 556) (by decide +kernel)⟩
theorem lw_p15 : lw_okq (⟨"HistoryRowsModel", "rowsIn", "(I)I"⟩, 18) := ⟨⟨by decide +kernel, by decide +kernel⟩, List.mem_of_getElem? (i := 387) (by decide +kernel), List.mem_of_getElem? (i := 563) (by decide +kernel), List.mem_of_getElem? (i := 564) (by decide +kernel)⟩
def lw_privs_1 : List (MethodName × Nat) := [(⟨"HistoryRows", "begin", "()V"⟩, 9), (⟨"HistoryRows", "isHeight", "(I)Z"⟩, 9), (⟨"HistoryRows", "refusalOfTwo", "(II)I"⟩, 9), (⟨"HistoryRows", "loadTwo", "(II)V"⟩, 9), (⟨"HistoryRows$Rows", "copyRow", "(II)V"⟩, 7), (⟨"HistoryRows", "refusalOfReplay", "(II)I"⟩, 9), (⟨"HistoryRowsModel", "begin", "()V"⟩, 18), (⟨"HistoryRowsModel", "digestOf", "(I)I"⟩, 18), (⟨"HistoryRowsModel", "nowOf", "(I)I"⟩, 18), (⟨"HistoryRowsModel", "lastOf", "(I)I"⟩, 18), (⟨"HistoryRowsModel", "isHeight", "(I)Z"⟩, 18), (⟨"HistoryRowsModel", "bars", "(II)I"⟩, 18), (⟨"HistoryRowsModel", "goes", "(I)Z"⟩, 18), (⟨"HistoryRowsModel", "isNeeded", "(I)Z"⟩, 18), (⟨"HistoryRowsModel", "squeeze", "(I)I"⟩, 18), (⟨"HistoryRowsModel", "rowsIn", "(I)I"⟩, 18)]
theorem lw_r1 : ∀ q ∈ lw_privs_1, lw_okq q := List.forall_mem_cons.mpr ⟨lw_p0, List.forall_mem_cons.mpr ⟨lw_p1, List.forall_mem_cons.mpr ⟨lw_p2, List.forall_mem_cons.mpr ⟨lw_p3, List.forall_mem_cons.mpr ⟨lw_p4, List.forall_mem_cons.mpr ⟨lw_p5, List.forall_mem_cons.mpr ⟨lw_p6, List.forall_mem_cons.mpr ⟨lw_p7, List.forall_mem_cons.mpr ⟨lw_p8, List.forall_mem_cons.mpr ⟨lw_p9, List.forall_mem_cons.mpr ⟨lw_p10, List.forall_mem_cons.mpr ⟨lw_p11, List.forall_mem_cons.mpr ⟨lw_p12, List.forall_mem_cons.mpr ⟨lw_p13, List.forall_mem_cons.mpr ⟨lw_p14, List.forall_mem_cons.mpr ⟨lw_p15, fun _ h => absurd h List.not_mem_nil⟩⟩⟩⟩⟩⟩⟩⟩⟩⟩⟩⟩⟩⟩⟩⟩
theorem lw_p16 : lw_okq (⟨"HistoryRowsModel", "heightsBy", "(I)I"⟩, 18) := ⟨⟨by decide +kernel, by decide +kernel⟩, List.mem_of_getElem? (i := 387) (by decide +kernel), List.mem_of_getElem? (i := 567) (by decide +kernel), List.mem_of_getElem? (i := 568) (by decide +kernel)⟩
theorem lw_p17 : lw_okq (⟨"HistoryRowsModel", "barsReplay", "(II)I"⟩, 18) := ⟨⟨by decide +kernel, by decide +kernel⟩, List.mem_of_getElem? (i := 387) (by decide +kernel), List.mem_of_getElem? (i := 575) (by decide +kernel), List.mem_of_getElem? (i := 576) (by decide +kernel)⟩
def lw_privs_2 : List (MethodName × Nat) := [(⟨"HistoryRowsModel", "heightsBy", "(I)I"⟩, 18), (⟨"HistoryRowsModel", "barsReplay", "(II)I"⟩, 18)]
theorem lw_r2 : ∀ q ∈ lw_privs_2, lw_okq q := List.forall_mem_cons.mpr ⟨lw_p16, List.forall_mem_cons.mpr ⟨lw_p17, fun _ h => absurd h List.not_mem_nil⟩⟩
def lw_privs : List (MethodName × Nat) := lw_privs_1 ++ (lw_privs_2)
def lw_tbl : List Cond := k2_sels lw_privs ++ tables_1
theorem lw_privs_ok : ∀ q ∈ lw_privs, lw_okq q := by
  show ∀ q ∈ lw_privs_1 ++ (lw_privs_2), lw_okq q
  exact List.forall_mem_append.mpr ⟨lw_r1, lw_r2⟩
-- names, by program
def RX0 : String := "HistoryRows$Block"
def TX0 : u_T := fun k => match k with
  | 0 => ("HistoryRows$Block", "ahead", "[I", true)
  | 1 => ("HistoryRows$Block", "behind", "[I", true)
  | 2 => ("HistoryRows$Block", "calls", "[I", true)
  | 3 => ("HistoryRows$Block", "writes", "I", false)
  | _ => ("HistoryRows$Block", "lastCall", "I", false)
def tyX0 : Nat → FieldType := fun k => match k with
  | 0 => .array .int
  | 1 => .array .int
  | 2 => .array .int
  | 3 => .int
  | _ => .int
abbrev wsX00 : List Cond := u_ws RX0 TX0 5
theorem nmX0 : ∀ a, a < 5 → ∀ b, b < 5 → a ≠ b → (TX0 a).2.1 ≠ (TX0 b).2.1 := by decide +kernel
theorem tyX0_ok : ∀ k, k < 5 → parseFieldDescriptor (TX0 k).2.2.1 = some (tyX0 k) := by decide +kernel
abbrev cX0_init : ByteArray := prog_2_method_1_code
def yX0_init : MethodName := ⟨RX0, "<init>", "()V"⟩
abbrev cX0_startFrom : ByteArray := prog_2_method_2_code
def yX0_startFrom : MethodName := ⟨RX0, "startFrom", "([I)V"⟩
abbrev cX0_put : ByteArray := prog_2_method_3_code
def yX0_put : MethodName := ⟨RX0, "put", "(III)V"⟩
abbrev cX0_changesLeaf : ByteArray := prog_2_method_4_code
def yX0_changesLeaf : MethodName := ⟨RX0, "changesLeaf", "(I)Z"⟩
abbrev cX0_changes : ByteArray := prog_2_method_5_code
def yX0_changes : MethodName := ⟨RX0, "changes", "()I"⟩
def RX1 : String := "HistoryRows$Heights"
def TX1 : u_T := fun k => match k with
  | 0 => ("HistoryRows$Heights", "digests", "[I", true)
  | 1 => ("HistoryRows$Heights", "places", "[I", true)
  | _ => ("HistoryRows$Heights", "top", "I", false)
def tyX1 : Nat → FieldType := fun k => match k with
  | 0 => .array .int
  | 1 => .array .int
  | _ => .int
abbrev wsX10 : List Cond := u_ws RX1 TX1 3
theorem nmX1 : ∀ a, a < 3 → ∀ b, b < 3 → a ≠ b → (TX1 a).2.1 ≠ (TX1 b).2.1 := by decide +kernel
theorem tyX1_ok : ∀ k, k < 3 → parseFieldDescriptor (TX1 k).2.2.1 = some (tyX1 k) := by decide +kernel
abbrev cX1_init : ByteArray := prog_3_method_1_code
def yX1_init : MethodName := ⟨RX1, "<init>", "()V"⟩
abbrev cX1_rise : ByteArray := prog_3_method_2_code
def yX1_rise : MethodName := ⟨RX1, "rise", "(I)V"⟩
abbrev cX1_fallTo : ByteArray := prog_3_method_3_code
def yX1_fallTo : MethodName := ⟨RX1, "fallTo", "(I)V"⟩
abbrev cX1_isGone : ByteArray := prog_3_method_4_code
def yX1_isGone : MethodName := ⟨RX1, "isGone", "(I)Z"⟩
abbrev cX1_isPrunable : ByteArray := prog_3_method_5_code
def yX1_isPrunable : MethodName := ⟨RX1, "isPrunable", "(II)Z"⟩
abbrev cX1_countPrunable : ByteArray := prog_3_method_6_code
def yX1_countPrunable : MethodName := ⟨RX1, "countPrunable", "(II)I"⟩
abbrev cX1_moveTo : ByteArray := prog_3_method_7_code
def yX1_moveTo : MethodName := ⟨RX1, "moveTo", "(III)V"⟩
abbrev cX1_relabel : ByteArray := prog_3_method_8_code
def yX1_relabel : MethodName := ⟨RX1, "relabel", "(II)V"⟩
abbrev cX1_countIn : ByteArray := prog_3_method_9_code
def yX1_countIn : MethodName := ⟨RX1, "countIn", "(I)I"⟩
abbrev cX1_keepsAny : ByteArray := prog_3_method_10_code
def yX1_keepsAny : MethodName := ⟨RX1, "keepsAny", "(II)Z"⟩
def RX2 : String := "HistoryRows$Rows"
def TX2 : u_T := fun k => match k with
  | 0 => ("HistoryRows$Rows", "heights", "[I", true)
  | 1 => ("HistoryRows$Rows", "leaves", "[I", true)
  | 2 => ("HistoryRows$Rows", "values", "[I", true)
  | 3 => ("HistoryRows$Rows", "calls", "[I", true)
  | 4 => ("HistoryRows$Rows", "places", "[I", true)
  | 5 => ("HistoryRows$Rows", "nextHeights", "[I", true)
  | _ => ("HistoryRows$Rows", "size", "I", false)
def tyX2 : Nat → FieldType := fun k => match k with
  | 0 => .array .int
  | 1 => .array .int
  | 2 => .array .int
  | 3 => .array .int
  | 4 => .array .int
  | 5 => .array .int
  | _ => .int
abbrev wsX20 : List Cond := u_ws RX2 TX2 7
theorem nmX2 : ∀ a, a < 7 → ∀ b, b < 7 → a ≠ b → (TX2 a).2.1 ≠ (TX2 b).2.1 := by decide +kernel
theorem tyX2_ok : ∀ k, k < 7 → parseFieldDescriptor (TX2 k).2.2.1 = some (tyX2 k) := by decide +kernel
abbrev cX2_init : ByteArray := prog_4_method_1_code
def yX2_init : MethodName := ⟨RX2, "<init>", "()V"⟩
abbrev cX2_add : ByteArray := prog_4_method_2_code
def yX2_add : MethodName := ⟨RX2, "add", "(IIII)V"⟩
abbrev cX2_isOf : ByteArray := prog_4_method_3_code
def yX2_isOf : MethodName := ⟨RX2, "isOf", "(II)Z"⟩
abbrev cX2_lastOf : ByteArray := prog_4_method_4_code
def yX2_lastOf : MethodName := ⟨RX2, "lastOf", "(II)I"⟩
abbrev cX2_find : ByteArray := prog_4_method_5_code
def yX2_find : MethodName := ⟨RX2, "find", "(II)I"⟩
abbrev cX2_load : ByteArray := prog_4_method_6_code
def yX2_load : MethodName := ⟨RX2, "load", "(I[I)V"⟩
abbrev cX2_redo : ByteArray := prog_4_method_7_code
def yX2_redo : MethodName := ⟨RX2, "redo", "(II[I)I"⟩
abbrev cX2_moveUnneededTo : ByteArray := prog_4_method_8_code
def yX2_moveUnneededTo : MethodName := ⟨RX2, "moveUnneededTo", "(ILHistoryRows$Heights;)V"⟩
abbrev cX2_takeFrom : ByteArray := prog_4_method_9_code
def yX2_takeFrom : MethodName := ⟨RX2, "takeFrom", "(I)I"⟩
abbrev cX2_removeArchived : ByteArray := prog_4_method_10_code
def yX2_removeArchived : MethodName := ⟨RX2, "removeArchived", "()I"⟩
abbrev cX2_removeAbove : ByteArray := prog_4_method_11_code
def yX2_removeAbove : MethodName := ⟨RX2, "removeAbove", "(I)I"⟩
abbrev cX2_countIn : ByteArray := prog_4_method_12_code
def yX2_countIn : MethodName := ⟨RX2, "countIn", "(I)I"⟩
abbrev cX2_copyRow : ByteArray := prog_4_method_13_code
def yX2_copyRow : MethodName := ⟨RX2, "copyRow", "(II)V"⟩
def RX3 : String := "HistoryRows$Tree"
def TX3 : u_T := fun k => match k with
  | _ => ("HistoryRows$Tree", "nodes", "[I", true)
def tyX3 : Nat → FieldType := fun k => match k with
  | _ => .array .int
abbrev wsX30 : List Cond := u_ws RX3 TX3 1
theorem nmX3 : ∀ a, a < 1 → ∀ b, b < 1 → a ≠ b → (TX3 a).2.1 ≠ (TX3 b).2.1 := by decide +kernel
theorem tyX3_ok : ∀ k, k < 1 → parseFieldDescriptor (TX3 k).2.2.1 = some (tyX3 k) := by decide +kernel
abbrev cX3_init : ByteArray := prog_5_method_1_code
def yX3_init : MethodName := ⟨RX3, "<init>", "()V"⟩
abbrev cX3_grow : ByteArray := prog_5_method_2_code
def yX3_grow : MethodName := ⟨RX3, "grow", "([I)I"⟩
abbrev cX3_beside : ByteArray := prog_5_method_3_code
def yX3_beside : MethodName := ⟨RX3, "beside", "(II)I"⟩
abbrev cX3_climb : ByteArray := prog_5_method_4_code
def yX3_climb : MethodName := ⟨RX3, "climb", "(II[I)I"⟩
abbrev cX3_ofLeaf : ByteArray := prog_5_method_5_code
def yX3_ofLeaf : MethodName := ⟨RX3, "ofLeaf", "(II)I"⟩
abbrev cX3_join : ByteArray := prog_5_method_6_code
def yX3_join : MethodName := ⟨RX3, "join", "(II)I"⟩
def RX4 : String := "HistoryRows"
def TX4 : u_T := fun k => match k with
  | 0 => ("HistoryRows", "rows", "LHistoryRows$Rows;", true)
  | 1 => ("HistoryRows", "heights", "LHistoryRows$Heights;", true)
  | 2 => ("HistoryRows", "block", "LHistoryRows$Block;", true)
  | 3 => ("HistoryRows", "tree", "LHistoryRows$Tree;", true)
  | 4 => ("HistoryRows", "laid", "[I", true)
  | 5 => ("HistoryRows", "oneState", "[I", true)
  | 6 => ("HistoryRows", "otherState", "[I", true)
  | 7 => ("HistoryRows", "step", "I", false)
  | _ => ("HistoryRows", "archives", "I", false)
def tyX4 : Nat → FieldType := fun k => match k with
  | 0 => .object "HistoryRows$Rows"
  | 1 => .object "HistoryRows$Heights"
  | 2 => .object "HistoryRows$Block"
  | 3 => .object "HistoryRows$Tree"
  | 4 => .array .int
  | 5 => .array .int
  | 6 => .array .int
  | 7 => .int
  | _ => .int
abbrev wsX40 : List Cond := u_ws RX4 TX4 9
theorem nmX4 : ∀ a, a < 9 → ∀ b, b < 9 → a ≠ b → (TX4 a).2.1 ≠ (TX4 b).2.1 := by decide +kernel
theorem tyX4_ok : ∀ k, k < 9 → parseFieldDescriptor (TX4 k).2.2.1 = some (tyX4 k) := by decide +kernel
abbrev cX4_init : ByteArray := prog_1_method_1_code
def yX4_init : MethodName := ⟨RX4, "<init>", "()V"⟩
abbrev cX4_write : ByteArray := prog_1_method_2_code
def yX4_write : MethodName := ⟨RX4, "write", "(III)I"⟩
abbrev cX4_seal : ByteArray := prog_1_method_3_code
def yX4_seal : MethodName := ⟨RX4, "seal", "()I"⟩
abbrev cX4_drop : ByteArray := prog_1_method_4_code
def yX4_drop : MethodName := ⟨RX4, "drop", "()I"⟩
abbrev cX4_at : ByteArray := prog_1_method_5_code
def yX4_at : MethodName := ⟨RX4, "at", "(II)J"⟩
abbrev cX4_now : ByteArray := prog_1_method_6_code
def yX4_now : MethodName := ⟨RX4, "now", "(I)J"⟩
abbrev cX4_digest : ByteArray := prog_1_method_7_code
def yX4_digest : MethodName := ⟨RX4, "digest", "(I)J"⟩
abbrev cX4_blame : ByteArray := prog_1_method_8_code
def yX4_blame : MethodName := ⟨RX4, "blame", "(III)I"⟩
abbrev cX4_first : ByteArray := prog_1_method_9_code
def yX4_first : MethodName := ⟨RX4, "first", "(II)I"⟩
abbrev cX4_differs : ByteArray := prog_1_method_10_code
def yX4_differs : MethodName := ⟨RX4, "differs", "(II)I"⟩
abbrev cX4_difference : ByteArray := prog_1_method_11_code
def yX4_difference : MethodName := ⟨RX4, "difference", "(III)I"⟩
abbrev cX4_rule : ByteArray := prog_1_method_12_code
def yX4_rule : MethodName := ⟨RX4, "rule", "(I)I"⟩
abbrev cX4_prune : ByteArray := prog_1_method_13_code
def yX4_prune : MethodName := ⟨RX4, "prune", "(I)I"⟩
abbrev cX4_pruned : ByteArray := prog_1_method_14_code
def yX4_pruned : MethodName := ⟨RX4, "pruned", "(I)I"⟩
abbrev cX4_bring : ByteArray := prog_1_method_15_code
def yX4_bring : MethodName := ⟨RX4, "bring", "()I"⟩
abbrev cX4_forget : ByteArray := prog_1_method_16_code
def yX4_forget : MethodName := ⟨RX4, "forget", "()I"⟩
abbrev cX4_archive : ByteArray := prog_1_method_17_code
def yX4_archive : MethodName := ⟨RX4, "archive", "(II)I"⟩
abbrev cX4_replay : ByteArray := prog_1_method_18_code
def yX4_replay : MethodName := ⟨RX4, "replay", "(II)J"⟩
abbrev cX4_replayed : ByteArray := prog_1_method_19_code
def yX4_replayed : MethodName := ⟨RX4, "replayed", "(II)I"⟩
abbrev cX4_proof : ByteArray := prog_1_method_20_code
def yX4_proof : MethodName := ⟨RX4, "proof", "(III)J"⟩
abbrev cX4_lay : ByteArray := prog_1_method_21_code
def yX4_lay : MethodName := ⟨RX4, "lay", "(II)I"⟩
abbrev cX4_proves : ByteArray := prog_1_method_22_code
def yX4_proves : MethodName := ⟨RX4, "proves", "(III)I"⟩
abbrev cX4_back : ByteArray := prog_1_method_23_code
def yX4_back : MethodName := ⟨RX4, "back", "(I)I"⟩
abbrev cX4_row : ByteArray := prog_1_method_24_code
def yX4_row : MethodName := ⟨RX4, "row", "(III)I"⟩
abbrev cX4_count : ByteArray := prog_1_method_25_code
def yX4_count : MethodName := ⟨RX4, "count", "(I)I"⟩
abbrev cX4_clear : ByteArray := prog_1_method_26_code
def yX4_clear : MethodName := ⟨RX4, "clear", "()I"⟩
abbrev cX4_begin : ByteArray := prog_1_method_27_code
def yX4_begin : MethodName := ⟨RX4, "begin", "()V"⟩
abbrev cX4_isLeaf : ByteArray := prog_1_method_28_code
def yX4_isLeaf : MethodName := ⟨RX4, "isLeaf", "(I)Z"⟩
abbrev cX4_isHeight : ByteArray := prog_1_method_29_code
def yX4_isHeight : MethodName := ⟨RX4, "isHeight", "(I)Z"⟩
abbrev cX4_wide : ByteArray := prog_1_method_30_code
def yX4_wide : MethodName := ⟨RX4, "wide", "(I)J"⟩
abbrev cX4_refusalOfTwo : ByteArray := prog_1_method_31_code
def yX4_refusalOfTwo : MethodName := ⟨RX4, "refusalOfTwo", "(II)I"⟩
abbrev cX4_refusalOfReplay : ByteArray := prog_1_method_32_code
def yX4_refusalOfReplay : MethodName := ⟨RX4, "refusalOfReplay", "(II)I"⟩
abbrev cX4_loadTwo : ByteArray := prog_1_method_33_code
def yX4_loadTwo : MethodName := ⟨RX4, "loadTwo", "(II)V"⟩
def RX5 : String := "HistoryRowsModel"
def TX5 : u_T := fun k => match k with
  | 0 => ("HistoryRowsModel", "height", "I", false)
  | 1 => ("HistoryRowsModel", "states", "[I", true)
  | 2 => ("HistoryRowsModel", "digests", "[I", true)
  | 3 => ("HistoryRowsModel", "prunedBy", "[I", true)
  | 4 => ("HistoryRowsModel", "writes", "I", false)
  | 5 => ("HistoryRowsModel", "writeCall", "[I", true)
  | 6 => ("HistoryRowsModel", "writeLeaf", "[I", true)
  | 7 => ("HistoryRowsModel", "writeValue", "[I", true)
  | 8 => ("HistoryRowsModel", "rows", "I", false)
  | 9 => ("HistoryRowsModel", "rowLeaf", "[I", true)
  | 10 => ("HistoryRowsModel", "rowHeight", "[I", true)
  | 11 => ("HistoryRowsModel", "rowValue", "[I", true)
  | 12 => ("HistoryRowsModel", "rowCall", "[I", true)
  | 13 => ("HistoryRowsModel", "rowIn", "[I", true)
  | 14 => ("HistoryRowsModel", "archives", "I", false)
  | 15 => ("HistoryRowsModel", "step", "I", false)
  | 16 => ("HistoryRowsModel", "laid", "[I", true)
  | _ => ("HistoryRowsModel", "tree", "[I", true)
def tyX5 : Nat → FieldType := fun k => match k with
  | 0 => .int
  | 1 => .array .int
  | 2 => .array .int
  | 3 => .array .int
  | 4 => .int
  | 5 => .array .int
  | 6 => .array .int
  | 7 => .array .int
  | 8 => .int
  | 9 => .array .int
  | 10 => .array .int
  | 11 => .array .int
  | 12 => .array .int
  | 13 => .array .int
  | 14 => .int
  | 15 => .int
  | 16 => .array .int
  | _ => .array .int
abbrev wsX50 : List Cond := u_ws RX5 TX5 18
theorem nmX5 : ∀ a, a < 18 → ∀ b, b < 18 → a ≠ b → (TX5 a).2.1 ≠ (TX5 b).2.1 := by decide +kernel
theorem tyX5_ok : ∀ k, k < 18 → parseFieldDescriptor (TX5 k).2.2.1 = some (tyX5 k) := by decide +kernel
abbrev cX5_init : ByteArray := prog_7_method_1_code
def yX5_init : MethodName := ⟨RX5, "<init>", "()V"⟩
abbrev cX5_in : ByteArray := prog_7_method_3_code
def yX5_in : MethodName := ⟨RX5, "in", "(III)Z"⟩
abbrev cX5_begin : ByteArray := prog_7_method_4_code
def yX5_begin : MethodName := ⟨RX5, "begin", "()V"⟩
abbrev cX5_isLeaf : ByteArray := prog_7_method_5_code
def yX5_isLeaf : MethodName := ⟨RX5, "isLeaf", "(I)Z"⟩
abbrev cX5_isHeight : ByteArray := prog_7_method_6_code
def yX5_isHeight : MethodName := ⟨RX5, "isHeight", "(I)Z"⟩
abbrev cX5_ofLeaf : ByteArray := prog_7_method_7_code
def yX5_ofLeaf : MethodName := ⟨RX5, "ofLeaf", "(II)I"⟩
abbrev cX5_ofTwo : ByteArray := prog_7_method_8_code
def yX5_ofTwo : MethodName := ⟨RX5, "ofTwo", "(II)I"⟩
abbrev cX5_digestOf : ByteArray := prog_7_method_9_code
def yX5_digestOf : MethodName := ⟨RX5, "digestOf", "(I)I"⟩
abbrev cX5_write : ByteArray := prog_7_method_10_code
def yX5_write : MethodName := ⟨RX5, "write", "(III)I"⟩
abbrev cX5_lastOf : ByteArray := prog_7_method_11_code
def yX5_lastOf : MethodName := ⟨RX5, "lastOf", "(I)I"⟩
abbrev cX5_nowOf : ByteArray := prog_7_method_12_code
def yX5_nowOf : MethodName := ⟨RX5, "nowOf", "(I)I"⟩
abbrev cX5_seal : ByteArray := prog_7_method_13_code
def yX5_seal : MethodName := ⟨RX5, "seal", "()I"⟩
abbrev cX5_drop : ByteArray := prog_7_method_14_code
def yX5_drop : MethodName := ⟨RX5, "drop", "()I"⟩
abbrev cX5_at : ByteArray := prog_7_method_15_code
def yX5_at : MethodName := ⟨RX5, "at", "(II)J"⟩
abbrev cX5_now : ByteArray := prog_7_method_16_code
def yX5_now : MethodName := ⟨RX5, "now", "(I)J"⟩
abbrev cX5_digest : ByteArray := prog_7_method_17_code
def yX5_digest : MethodName := ⟨RX5, "digest", "(I)J"⟩
abbrev cX5_blame : ByteArray := prog_7_method_18_code
def yX5_blame : MethodName := ⟨RX5, "blame", "(III)I"⟩
abbrev cX5_first : ByteArray := prog_7_method_19_code
def yX5_first : MethodName := ⟨RX5, "first", "(II)I"⟩
abbrev cX5_bars : ByteArray := prog_7_method_20_code
def yX5_bars : MethodName := ⟨RX5, "bars", "(II)I"⟩
abbrev cX5_differs : ByteArray := prog_7_method_21_code
def yX5_differs : MethodName := ⟨RX5, "differs", "(II)I"⟩
abbrev cX5_difference : ByteArray := prog_7_method_22_code
def yX5_difference : MethodName := ⟨RX5, "difference", "(III)I"⟩
abbrev cX5_rule : ByteArray := prog_7_method_23_code
def yX5_rule : MethodName := ⟨RX5, "rule", "(I)I"⟩
abbrev cX5_goes : ByteArray := prog_7_method_24_code
def yX5_goes : MethodName := ⟨RX5, "goes", "(I)Z"⟩
abbrev cX5_isNeeded : ByteArray := prog_7_method_25_code
def yX5_isNeeded : MethodName := ⟨RX5, "isNeeded", "(I)Z"⟩
abbrev cX5_prune : ByteArray := prog_7_method_26_code
def yX5_prune : MethodName := ⟨RX5, "prune", "(I)I"⟩
abbrev cX5_pruned : ByteArray := prog_7_method_27_code
def yX5_pruned : MethodName := ⟨RX5, "pruned", "(I)I"⟩
abbrev cX5_rowsIn : ByteArray := prog_7_method_28_code
def yX5_rowsIn : MethodName := ⟨RX5, "rowsIn", "(I)I"⟩
abbrev cX5_heightsBy : ByteArray := prog_7_method_29_code
def yX5_heightsBy : MethodName := ⟨RX5, "heightsBy", "(I)I"⟩
abbrev cX5_bring : ByteArray := prog_7_method_30_code
def yX5_bring : MethodName := ⟨RX5, "bring", "()I"⟩
abbrev cX5_squeeze : ByteArray := prog_7_method_31_code
def yX5_squeeze : MethodName := ⟨RX5, "squeeze", "(I)I"⟩
abbrev cX5_forget : ByteArray := prog_7_method_32_code
def yX5_forget : MethodName := ⟨RX5, "forget", "()I"⟩
abbrev cX5_archive : ByteArray := prog_7_method_33_code
def yX5_archive : MethodName := ⟨RX5, "archive", "(II)I"⟩
abbrev cX5_barsReplay : ByteArray := prog_7_method_34_code
def yX5_barsReplay : MethodName := ⟨RX5, "barsReplay", "(II)I"⟩
abbrev cX5_replay : ByteArray := prog_7_method_35_code
def yX5_replay : MethodName := ⟨RX5, "replay", "(II)J"⟩
abbrev cX5_replayed : ByteArray := prog_7_method_36_code
def yX5_replayed : MethodName := ⟨RX5, "replayed", "(II)I"⟩
abbrev cX5_proof : ByteArray := prog_7_method_37_code
def yX5_proof : MethodName := ⟨RX5, "proof", "(III)J"⟩
abbrev cX5_lay : ByteArray := prog_7_method_38_code
def yX5_lay : MethodName := ⟨RX5, "lay", "(II)I"⟩
abbrev cX5_proves : ByteArray := prog_7_method_39_code
def yX5_proves : MethodName := ⟨RX5, "proves", "(III)I"⟩
abbrev cX5_back : ByteArray := prog_7_method_40_code
def yX5_back : MethodName := ⟨RX5, "back", "(I)I"⟩
abbrev cX5_row : ByteArray := prog_7_method_41_code
def yX5_row : MethodName := ⟨RX5, "row", "(III)I"⟩
abbrev cX5_count : ByteArray := prog_7_method_42_code
def yX5_count : MethodName := ⟨RX5, "count", "(I)I"⟩
abbrev cX5_clear : ByteArray := prog_7_method_43_code
def yX5_clear : MethodName := ⟨RX5, "clear", "()I"⟩
def RJ7 : String := "java/util/Arrays"
def TJ7 : u_T := fun k => match k with
  | _ => ("", "", "", false)
def tyJ7 : Nat → FieldType := fun k => match k with
  | _ => .int
abbrev wsJ70 : List Cond := u_ws RJ7 TJ7 0
theorem nmJ7 : ∀ a, a < 0 → ∀ b, b < 0 → a ≠ b → (TJ7 a).2.1 ≠ (TJ7 b).2.1 := by decide +kernel
theorem tyJ7_ok : ∀ k, k < 0 → parseFieldDescriptor (TJ7 k).2.2.1 = some (tyJ7 k) := by decide +kernel
abbrev cJ7_fill_53178 : ByteArray := prog_8_method_103_code
def yJ7_fill_53178 : MethodName := ⟨RJ7, "fill", "([II)V"⟩
def RL : String := "HistoryRowsLaw"
abbrev cL_law : ByteArray := code
def yL_law : MethodName := ⟨RL, "law", "([I)Z"⟩
/-- the words that a callee may be given: those of the tables that stay -/
def tT : List Cond := lw_tbl.filter goodWord
theorem tT_good : ∀ w ∈ tT, goodWord w = true := fun w h => (List.mem_filter.mp h).2
theorem tT_sub : ∀ w ∈ tT, w ∈ lw_tbl := fun w h => (List.mem_filter.mp h).1
theorem iX0 : ∀ w ∈ u_ws RX0 TX0 5, w ∈ tT := by decide +kernel
theorem iX1 : ∀ w ∈ u_ws RX1 TX1 3, w ∈ tT := by decide +kernel
theorem iX2 : ∀ w ∈ u_ws RX2 TX2 7, w ∈ tT := by decide +kernel
theorem iX3 : ∀ w ∈ u_ws RX3 TX3 1, w ∈ tT := by decide +kernel
theorem iX4 : ∀ w ∈ u_ws RX4 TX4 9, w ∈ tT := by decide +kernel
theorem iX5 : ∀ w ∈ u_ws RX5 TX5 18, w ∈ tT := by decide +kernel
theorem kw_0 : Cond.selects RX4 yX4_begin yX4_begin ∈ tT := List.mem_filter.mpr ⟨List.mem_of_getElem? (i := 0) (by decide +kernel), by decide +kernel⟩
theorem kw_1 : Cond.selects RX4 yX4_isHeight yX4_isHeight ∈ tT := List.mem_filter.mpr ⟨List.mem_of_getElem? (i := 1) (by decide +kernel), by decide +kernel⟩
theorem kw_2 : Cond.selects RX4 yX4_refusalOfTwo yX4_refusalOfTwo ∈ tT := List.mem_filter.mpr ⟨List.mem_of_getElem? (i := 2) (by decide +kernel), by decide +kernel⟩
theorem kw_3 : Cond.selects RX4 yX4_loadTwo yX4_loadTwo ∈ tT := List.mem_filter.mpr ⟨List.mem_of_getElem? (i := 3) (by decide +kernel), by decide +kernel⟩
theorem kw_4 : Cond.selects RX2 yX2_copyRow yX2_copyRow ∈ tT := List.mem_filter.mpr ⟨List.mem_of_getElem? (i := 4) (by decide +kernel), by decide +kernel⟩
theorem kw_5 : Cond.selects RX4 yX4_refusalOfReplay yX4_refusalOfReplay ∈ tT := List.mem_filter.mpr ⟨List.mem_of_getElem? (i := 5) (by decide +kernel), by decide +kernel⟩
theorem kw_6 : Cond.selects RX5 yX5_begin yX5_begin ∈ tT := List.mem_filter.mpr ⟨List.mem_of_getElem? (i := 6) (by decide +kernel), by decide +kernel⟩
theorem kw_7 : Cond.selects RX5 yX5_digestOf yX5_digestOf ∈ tT := List.mem_filter.mpr ⟨List.mem_of_getElem? (i := 7) (by decide +kernel), by decide +kernel⟩
theorem kw_8 : Cond.selects RX5 yX5_nowOf yX5_nowOf ∈ tT := List.mem_filter.mpr ⟨List.mem_of_getElem? (i := 8) (by decide +kernel), by decide +kernel⟩
theorem kw_9 : Cond.selects RX5 yX5_lastOf yX5_lastOf ∈ tT := List.mem_filter.mpr ⟨List.mem_of_getElem? (i := 9) (by decide +kernel), by decide +kernel⟩
theorem kw_10 : Cond.selects RX5 yX5_isHeight yX5_isHeight ∈ tT := List.mem_filter.mpr ⟨List.mem_of_getElem? (i := 10) (by decide +kernel), by decide +kernel⟩
theorem kw_11 : Cond.selects RX5 yX5_bars yX5_bars ∈ tT := List.mem_filter.mpr ⟨List.mem_of_getElem? (i := 11) (by decide +kernel), by decide +kernel⟩
theorem kw_12 : Cond.selects RX5 yX5_goes yX5_goes ∈ tT := List.mem_filter.mpr ⟨List.mem_of_getElem? (i := 12) (by decide +kernel), by decide +kernel⟩
theorem kw_13 : Cond.selects RX5 yX5_isNeeded yX5_isNeeded ∈ tT := List.mem_filter.mpr ⟨List.mem_of_getElem? (i := 13) (by decide +kernel), by decide +kernel⟩
theorem kw_14 : Cond.selects RX5 yX5_squeeze yX5_squeeze ∈ tT := List.mem_filter.mpr ⟨List.mem_of_getElem? (i := 14) (by decide +kernel), by decide +kernel⟩
theorem kw_15 : Cond.selects RX5 yX5_rowsIn yX5_rowsIn ∈ tT := List.mem_filter.mpr ⟨List.mem_of_getElem? (i := 15) (by decide +kernel), by decide +kernel⟩
theorem kw_16 : Cond.selects RX5 yX5_heightsBy yX5_heightsBy ∈ tT := List.mem_filter.mpr ⟨List.mem_of_getElem? (i := 16) (by decide +kernel), by decide +kernel⟩
theorem kw_17 : Cond.selects RX5 yX5_barsReplay yX5_barsReplay ∈ tT := List.mem_filter.mpr ⟨List.mem_of_getElem? (i := 17) (by decide +kernel), by decide +kernel⟩
theorem kw_18 : Cond.initialized RL ∈ tT := List.mem_filter.mpr ⟨List.mem_of_getElem? (i := 18) (by decide +kernel), by decide +kernel⟩
theorem kw_19 : Cond.initialized RX4 ∈ tT := List.mem_filter.mpr ⟨List.mem_of_getElem? (i := 19) (by decide +kernel), by decide +kernel⟩
theorem kw_20 : Cond.initialized RX2 ∈ tT := List.mem_filter.mpr ⟨List.mem_of_getElem? (i := 20) (by decide +kernel), by decide +kernel⟩
theorem kw_21 : Cond.initialized RX1 ∈ tT := List.mem_filter.mpr ⟨List.mem_of_getElem? (i := 21) (by decide +kernel), by decide +kernel⟩
theorem kw_22 : Cond.initialized RX0 ∈ tT := List.mem_filter.mpr ⟨List.mem_of_getElem? (i := 22) (by decide +kernel), by decide +kernel⟩
theorem kw_23 : Cond.initialized RX3 ∈ tT := List.mem_filter.mpr ⟨List.mem_of_getElem? (i := 23) (by decide +kernel), by decide +kernel⟩
theorem kw_24 : Cond.initialized RJ7 ∈ tT := List.mem_filter.mpr ⟨List.mem_of_getElem? (i := 24) (by decide +kernel), by decide +kernel⟩
theorem kw_25 : Cond.initialized RX5 ∈ tT := List.mem_filter.mpr ⟨List.mem_of_getElem? (i := 25) (by decide +kernel), by decide +kernel⟩
theorem kw_26 : Cond.classLink RL 7 RX4 ∈ tT := List.mem_filter.mpr ⟨List.mem_of_getElem? (i := 26) (by decide +kernel), by decide +kernel⟩
theorem kw_27 : Cond.instantiable RX4 9 ∈ tT := List.mem_filter.mpr ⟨List.mem_of_getElem? (i := 27) (by decide +kernel), by decide +kernel⟩
theorem kw_28 : Cond.methodLink RL 9 yX4_init ∈ tT := List.mem_filter.mpr ⟨List.mem_of_getElem? (i := 28) (by decide +kernel), by decide +kernel⟩
theorem kw_29 : Cond.instanceMethod yX4_init ∈ tT := List.mem_filter.mpr ⟨List.mem_of_getElem? (i := 29) (by decide +kernel), by decide +kernel⟩
theorem kw_30 : Cond.code yX4_init cX4_init 1 none ∈ tT := List.mem_filter.mpr ⟨List.mem_of_getElem? (i := 30) (by decide +kernel), by decide +kernel⟩
theorem kw_31 : Cond.methodLink RX4 3 objectInit ∈ tT := List.mem_filter.mpr ⟨List.mem_of_getElem? (i := 31) (by decide +kernel), by decide +kernel⟩
theorem kw_32 : Cond.instanceMethod objectInit ∈ tT := List.mem_filter.mpr ⟨List.mem_of_getElem? (i := 32) (by decide +kernel), by decide +kernel⟩
theorem kw_33 : Cond.code objectInit ⟨#[0xb1]⟩ 1 none ∈ tT := List.mem_filter.mpr ⟨List.mem_of_getElem? (i := 33) (by decide +kernel), by decide +kernel⟩
theorem kw_34 : Cond.classLink RX4 9 RX2 ∈ tT := List.mem_filter.mpr ⟨List.mem_of_getElem? (i := 34) (by decide +kernel), by decide +kernel⟩
theorem kw_35 : Cond.instantiable RX2 7 ∈ tT := List.mem_filter.mpr ⟨List.mem_of_getElem? (i := 35) (by decide +kernel), by decide +kernel⟩
theorem kn_36 : Cond.methodLinkNest RX4 11 yX2_init "HistoryRows" ∈ lw_tbl := List.mem_of_getElem? (i := 36) (by decide +kernel)
theorem kw_37 : Cond.instanceMethod yX2_init ∈ tT := List.mem_filter.mpr ⟨List.mem_of_getElem? (i := 37) (by decide +kernel), by decide +kernel⟩
theorem kw_38 : Cond.code yX2_init cX2_init 1 none ∈ tT := List.mem_filter.mpr ⟨List.mem_of_getElem? (i := 38) (by decide +kernel), by decide +kernel⟩
theorem kw_39 : Cond.methodLink RX2 3 objectInit ∈ tT := List.mem_filter.mpr ⟨List.mem_of_getElem? (i := 39) (by decide +kernel), by decide +kernel⟩
theorem kw_40 : Cond.fieldLink RX2 9 "HistoryRows$Rows" "heights" "[I" ∈ tT := List.mem_filter.mpr ⟨List.mem_of_getElem? (i := 40) (by decide +kernel), by decide +kernel⟩
theorem kw_41 : Cond.fieldLink RX4 124 "HistoryRows$Rows" "heights" "[I" ∈ tT := List.mem_filter.mpr ⟨List.mem_of_getElem? (i := 41) (by decide +kernel), by decide +kernel⟩
theorem kw_42 : Cond.fieldLink RX2 15 "HistoryRows$Rows" "leaves" "[I" ∈ tT := List.mem_filter.mpr ⟨List.mem_of_getElem? (i := 42) (by decide +kernel), by decide +kernel⟩
theorem kw_43 : Cond.fieldLink RX2 18 "HistoryRows$Rows" "values" "[I" ∈ tT := List.mem_filter.mpr ⟨List.mem_of_getElem? (i := 43) (by decide +kernel), by decide +kernel⟩
theorem kw_44 : Cond.fieldLink RX4 117 "HistoryRows$Rows" "values" "[I" ∈ tT := List.mem_filter.mpr ⟨List.mem_of_getElem? (i := 44) (by decide +kernel), by decide +kernel⟩
theorem kw_45 : Cond.fieldLink RX2 21 "HistoryRows$Rows" "calls" "[I" ∈ tT := List.mem_filter.mpr ⟨List.mem_of_getElem? (i := 45) (by decide +kernel), by decide +kernel⟩
theorem kw_46 : Cond.fieldLink RX4 123 "HistoryRows$Rows" "calls" "[I" ∈ tT := List.mem_filter.mpr ⟨List.mem_of_getElem? (i := 46) (by decide +kernel), by decide +kernel⟩
theorem kw_47 : Cond.fieldLink RX2 24 "HistoryRows$Rows" "places" "[I" ∈ tT := List.mem_filter.mpr ⟨List.mem_of_getElem? (i := 47) (by decide +kernel), by decide +kernel⟩
theorem kw_48 : Cond.fieldLink RX2 27 "HistoryRows$Rows" "nextHeights" "[I" ∈ tT := List.mem_filter.mpr ⟨List.mem_of_getElem? (i := 48) (by decide +kernel), by decide +kernel⟩
theorem kw_49 : Cond.fieldLink RX2 30 "HistoryRows$Rows" "size" "I" ∈ tT := List.mem_filter.mpr ⟨List.mem_of_getElem? (i := 49) (by decide +kernel), by decide +kernel⟩
theorem kw_50 : Cond.fieldLink RX4 68 "HistoryRows$Rows" "size" "I" ∈ tT := List.mem_filter.mpr ⟨List.mem_of_getElem? (i := 50) (by decide +kernel), by decide +kernel⟩
theorem kw_66 : Cond.arrayClass .int ∈ tT := List.mem_filter.mpr ⟨List.mem_of_getElem? (i := 66) (by decide +kernel), by decide +kernel⟩
theorem kw_67 : Cond.classLink RX4 16 RX1 ∈ tT := List.mem_filter.mpr ⟨List.mem_of_getElem? (i := 67) (by decide +kernel), by decide +kernel⟩
theorem kw_68 : Cond.instantiable RX1 3 ∈ tT := List.mem_filter.mpr ⟨List.mem_of_getElem? (i := 68) (by decide +kernel), by decide +kernel⟩
theorem kn_69 : Cond.methodLinkNest RX4 18 yX1_init "HistoryRows" ∈ lw_tbl := List.mem_of_getElem? (i := 69) (by decide +kernel)
theorem kw_70 : Cond.instanceMethod yX1_init ∈ tT := List.mem_filter.mpr ⟨List.mem_of_getElem? (i := 70) (by decide +kernel), by decide +kernel⟩
theorem kw_71 : Cond.code yX1_init cX1_init 1 none ∈ tT := List.mem_filter.mpr ⟨List.mem_of_getElem? (i := 71) (by decide +kernel), by decide +kernel⟩
theorem kw_72 : Cond.methodLink RX1 3 objectInit ∈ tT := List.mem_filter.mpr ⟨List.mem_of_getElem? (i := 72) (by decide +kernel), by decide +kernel⟩
theorem kw_73 : Cond.fieldLink RX1 9 "HistoryRows$Heights" "digests" "[I" ∈ tT := List.mem_filter.mpr ⟨List.mem_of_getElem? (i := 73) (by decide +kernel), by decide +kernel⟩
theorem kw_74 : Cond.fieldLink RX4 120 "HistoryRows$Heights" "digests" "[I" ∈ tT := List.mem_filter.mpr ⟨List.mem_of_getElem? (i := 74) (by decide +kernel), by decide +kernel⟩
theorem kw_75 : Cond.fieldLink RX1 15 "HistoryRows$Heights" "places" "[I" ∈ tT := List.mem_filter.mpr ⟨List.mem_of_getElem? (i := 75) (by decide +kernel), by decide +kernel⟩
theorem kw_76 : Cond.fieldLink RX1 18 "HistoryRows$Heights" "top" "I" ∈ tT := List.mem_filter.mpr ⟨List.mem_of_getElem? (i := 76) (by decide +kernel), by decide +kernel⟩
theorem kw_77 : Cond.fieldLink RX4 65 "HistoryRows$Heights" "top" "I" ∈ tT := List.mem_filter.mpr ⟨List.mem_of_getElem? (i := 77) (by decide +kernel), by decide +kernel⟩
theorem kw_78 : Cond.fieldLink RX2 48 "HistoryRows$Heights" "top" "I" ∈ tT := List.mem_filter.mpr ⟨List.mem_of_getElem? (i := 78) (by decide +kernel), by decide +kernel⟩
theorem kw_86 : Cond.classLink RX4 23 RX0 ∈ tT := List.mem_filter.mpr ⟨List.mem_of_getElem? (i := 86) (by decide +kernel), by decide +kernel⟩
theorem kw_87 : Cond.instantiable RX0 5 ∈ tT := List.mem_filter.mpr ⟨List.mem_of_getElem? (i := 87) (by decide +kernel), by decide +kernel⟩
theorem kn_88 : Cond.methodLinkNest RX4 25 yX0_init "HistoryRows" ∈ lw_tbl := List.mem_of_getElem? (i := 88) (by decide +kernel)
theorem kw_89 : Cond.instanceMethod yX0_init ∈ tT := List.mem_filter.mpr ⟨List.mem_of_getElem? (i := 89) (by decide +kernel), by decide +kernel⟩
theorem kw_90 : Cond.code yX0_init cX0_init 1 none ∈ tT := List.mem_filter.mpr ⟨List.mem_of_getElem? (i := 90) (by decide +kernel), by decide +kernel⟩
theorem kw_91 : Cond.methodLink RX0 3 objectInit ∈ tT := List.mem_filter.mpr ⟨List.mem_of_getElem? (i := 91) (by decide +kernel), by decide +kernel⟩
theorem kw_92 : Cond.fieldLink RX0 9 "HistoryRows$Block" "ahead" "[I" ∈ tT := List.mem_filter.mpr ⟨List.mem_of_getElem? (i := 92) (by decide +kernel), by decide +kernel⟩
theorem kw_93 : Cond.fieldLink RX4 100 "HistoryRows$Block" "ahead" "[I" ∈ tT := List.mem_filter.mpr ⟨List.mem_of_getElem? (i := 93) (by decide +kernel), by decide +kernel⟩
theorem kw_94 : Cond.fieldLink RX0 15 "HistoryRows$Block" "behind" "[I" ∈ tT := List.mem_filter.mpr ⟨List.mem_of_getElem? (i := 94) (by decide +kernel), by decide +kernel⟩
theorem kw_95 : Cond.fieldLink RX4 78 "HistoryRows$Block" "behind" "[I" ∈ tT := List.mem_filter.mpr ⟨List.mem_of_getElem? (i := 95) (by decide +kernel), by decide +kernel⟩
theorem kw_96 : Cond.fieldLink RX0 18 "HistoryRows$Block" "calls" "[I" ∈ tT := List.mem_filter.mpr ⟨List.mem_of_getElem? (i := 96) (by decide +kernel), by decide +kernel⟩
theorem kw_97 : Cond.fieldLink RX4 81 "HistoryRows$Block" "calls" "[I" ∈ tT := List.mem_filter.mpr ⟨List.mem_of_getElem? (i := 97) (by decide +kernel), by decide +kernel⟩
theorem kw_98 : Cond.fieldLink RX0 21 "HistoryRows$Block" "writes" "I" ∈ tT := List.mem_filter.mpr ⟨List.mem_of_getElem? (i := 98) (by decide +kernel), by decide +kernel⟩
theorem kw_99 : Cond.fieldLink RX4 58 "HistoryRows$Block" "writes" "I" ∈ tT := List.mem_filter.mpr ⟨List.mem_of_getElem? (i := 99) (by decide +kernel), by decide +kernel⟩
theorem kw_100 : Cond.fieldLink RX4 54 "HistoryRows$Block" "lastCall" "I" ∈ tT := List.mem_filter.mpr ⟨List.mem_of_getElem? (i := 100) (by decide +kernel), by decide +kernel⟩
theorem kw_101 : Cond.fieldLink RX0 25 "HistoryRows$Block" "lastCall" "I" ∈ tT := List.mem_filter.mpr ⟨List.mem_of_getElem? (i := 101) (by decide +kernel), by decide +kernel⟩
theorem kw_113 : Cond.classLink RX4 30 RX3 ∈ tT := List.mem_filter.mpr ⟨List.mem_of_getElem? (i := 113) (by decide +kernel), by decide +kernel⟩
theorem kw_114 : Cond.instantiable RX3 1 ∈ tT := List.mem_filter.mpr ⟨List.mem_of_getElem? (i := 114) (by decide +kernel), by decide +kernel⟩
theorem kn_115 : Cond.methodLinkNest RX4 32 yX3_init "HistoryRows" ∈ lw_tbl := List.mem_of_getElem? (i := 115) (by decide +kernel)
theorem kw_116 : Cond.instanceMethod yX3_init ∈ tT := List.mem_filter.mpr ⟨List.mem_of_getElem? (i := 116) (by decide +kernel), by decide +kernel⟩
theorem kw_117 : Cond.code yX3_init cX3_init 1 none ∈ tT := List.mem_filter.mpr ⟨List.mem_of_getElem? (i := 117) (by decide +kernel), by decide +kernel⟩
theorem kw_118 : Cond.methodLink RX3 3 objectInit ∈ tT := List.mem_filter.mpr ⟨List.mem_of_getElem? (i := 118) (by decide +kernel), by decide +kernel⟩
theorem kw_119 : Cond.fieldLink RX3 9 "HistoryRows$Tree" "nodes" "[I" ∈ tT := List.mem_filter.mpr ⟨List.mem_of_getElem? (i := 119) (by decide +kernel), by decide +kernel⟩
theorem kw_123 : Cond.methodLink RX4 47 yX4_begin ∈ tT := List.mem_filter.mpr ⟨List.mem_of_getElem? (i := 123) (by decide +kernel), by decide +kernel⟩
theorem kw_125 : Cond.instanceMethod yX4_begin ∈ tT := List.mem_filter.mpr ⟨List.mem_of_getElem? (i := 125) (by decide +kernel), by decide +kernel⟩
theorem kw_126 : Cond.code yX4_begin cX4_begin 1 none ∈ tT := List.mem_filter.mpr ⟨List.mem_of_getElem? (i := 126) (by decide +kernel), by decide +kernel⟩
theorem kw_127 : Cond.methodLink RX4 193 yJ7_fill_53178 ∈ tT := List.mem_filter.mpr ⟨List.mem_of_getElem? (i := 127) (by decide +kernel), by decide +kernel⟩
theorem kw_128 : Cond.static yJ7_fill_53178 ∈ tT := List.mem_filter.mpr ⟨List.mem_of_getElem? (i := 128) (by decide +kernel), by decide +kernel⟩
theorem kw_129 : Cond.code yJ7_fill_53178 cJ7_fill_53178 4 none ∈ tT := List.mem_filter.mpr ⟨List.mem_of_getElem? (i := 129) (by decide +kernel), by decide +kernel⟩
theorem kw_130 : Cond.methodLink RX4 96 yX0_startFrom ∈ tT := List.mem_filter.mpr ⟨List.mem_of_getElem? (i := 130) (by decide +kernel), by decide +kernel⟩
theorem kw_131 : Cond.instanceMethod yX0_startFrom ∈ tT := List.mem_filter.mpr ⟨List.mem_of_getElem? (i := 131) (by decide +kernel), by decide +kernel⟩
theorem kw_132 : Cond.selects RX0 yX0_startFrom yX0_startFrom ∈ tT := List.mem_filter.mpr ⟨List.mem_of_getElem? (i := 132) (by decide +kernel), by decide +kernel⟩
theorem kw_133 : Cond.code yX0_startFrom cX0_startFrom 3 none ∈ tT := List.mem_filter.mpr ⟨List.mem_of_getElem? (i := 133) (by decide +kernel), by decide +kernel⟩
theorem kw_134 : Cond.methodLink RX4 88 yX3_grow ∈ tT := List.mem_filter.mpr ⟨List.mem_of_getElem? (i := 134) (by decide +kernel), by decide +kernel⟩
theorem kw_135 : Cond.instanceMethod yX3_grow ∈ tT := List.mem_filter.mpr ⟨List.mem_of_getElem? (i := 135) (by decide +kernel), by decide +kernel⟩
theorem kw_136 : Cond.selects RX3 yX3_grow yX3_grow ∈ tT := List.mem_filter.mpr ⟨List.mem_of_getElem? (i := 136) (by decide +kernel), by decide +kernel⟩
theorem kw_137 : Cond.code yX3_grow cX3_grow 3 (some .int) ∈ tT := List.mem_filter.mpr ⟨List.mem_of_getElem? (i := 137) (by decide +kernel), by decide +kernel⟩
theorem kw_138 : Cond.methodLink RX3 15 yX3_ofLeaf ∈ tT := List.mem_filter.mpr ⟨List.mem_of_getElem? (i := 138) (by decide +kernel), by decide +kernel⟩
theorem kw_139 : Cond.static yX3_ofLeaf ∈ tT := List.mem_filter.mpr ⟨List.mem_of_getElem? (i := 139) (by decide +kernel), by decide +kernel⟩
theorem kw_140 : Cond.code yX3_ofLeaf cX3_ofLeaf 2 (some .int) ∈ tT := List.mem_filter.mpr ⟨List.mem_of_getElem? (i := 140) (by decide +kernel), by decide +kernel⟩
theorem kw_141 : Cond.methodLink RX3 19 yX3_join ∈ tT := List.mem_filter.mpr ⟨List.mem_of_getElem? (i := 141) (by decide +kernel), by decide +kernel⟩
theorem kw_142 : Cond.static yX3_join ∈ tT := List.mem_filter.mpr ⟨List.mem_of_getElem? (i := 142) (by decide +kernel), by decide +kernel⟩
theorem kw_143 : Cond.code yX3_join cX3_join 3 (some .int) ∈ tT := List.mem_filter.mpr ⟨List.mem_of_getElem? (i := 143) (by decide +kernel), by decide +kernel⟩
theorem kw_144 : Cond.constant RX3 22 (739982445) ∈ tT := List.mem_filter.mpr ⟨List.mem_of_getElem? (i := 144) (by decide +kernel), by decide +kernel⟩
theorem kw_145 : Cond.methodLink RX4 92 yX1_rise ∈ tT := List.mem_filter.mpr ⟨List.mem_of_getElem? (i := 145) (by decide +kernel), by decide +kernel⟩
theorem kw_146 : Cond.instanceMethod yX1_rise ∈ tT := List.mem_filter.mpr ⟨List.mem_of_getElem? (i := 146) (by decide +kernel), by decide +kernel⟩
theorem kw_147 : Cond.selects RX1 yX1_rise yX1_rise ∈ tT := List.mem_filter.mpr ⟨List.mem_of_getElem? (i := 147) (by decide +kernel), by decide +kernel⟩
theorem kw_148 : Cond.code yX1_rise cX1_rise 2 none ∈ tT := List.mem_filter.mpr ⟨List.mem_of_getElem? (i := 148) (by decide +kernel), by decide +kernel⟩
theorem kw_149 : Cond.fieldLink RX4 12 "HistoryRows" "rows" "LHistoryRows$Rows;" ∈ tT := List.mem_filter.mpr ⟨List.mem_of_getElem? (i := 149) (by decide +kernel), by decide +kernel⟩
theorem kw_150 : Cond.fieldLink RX4 19 "HistoryRows" "heights" "LHistoryRows$Heights;" ∈ tT := List.mem_filter.mpr ⟨List.mem_of_getElem? (i := 150) (by decide +kernel), by decide +kernel⟩
theorem kw_151 : Cond.fieldLink RX4 26 "HistoryRows" "block" "LHistoryRows$Block;" ∈ tT := List.mem_filter.mpr ⟨List.mem_of_getElem? (i := 151) (by decide +kernel), by decide +kernel⟩
theorem kw_152 : Cond.fieldLink RX4 33 "HistoryRows" "tree" "LHistoryRows$Tree;" ∈ tT := List.mem_filter.mpr ⟨List.mem_of_getElem? (i := 152) (by decide +kernel), by decide +kernel⟩
theorem kw_153 : Cond.fieldLink RX4 37 "HistoryRows" "laid" "[I" ∈ tT := List.mem_filter.mpr ⟨List.mem_of_getElem? (i := 153) (by decide +kernel), by decide +kernel⟩
theorem kw_154 : Cond.fieldLink RX4 41 "HistoryRows" "oneState" "[I" ∈ tT := List.mem_filter.mpr ⟨List.mem_of_getElem? (i := 154) (by decide +kernel), by decide +kernel⟩
theorem kw_155 : Cond.fieldLink RX4 44 "HistoryRows" "otherState" "[I" ∈ tT := List.mem_filter.mpr ⟨List.mem_of_getElem? (i := 155) (by decide +kernel), by decide +kernel⟩
theorem kw_156 : Cond.fieldLink RX4 137 "HistoryRows" "step" "I" ∈ tT := List.mem_filter.mpr ⟨List.mem_of_getElem? (i := 156) (by decide +kernel), by decide +kernel⟩
theorem kw_157 : Cond.fieldLink RX4 143 "HistoryRows" "archives" "I" ∈ tT := List.mem_filter.mpr ⟨List.mem_of_getElem? (i := 157) (by decide +kernel), by decide +kernel⟩
theorem kw_177 : Cond.methodLink RL 13 yX4_write ∈ tT := List.mem_filter.mpr ⟨List.mem_of_getElem? (i := 177) (by decide +kernel), by decide +kernel⟩
theorem kw_178 : Cond.instanceMethod yX4_write ∈ tT := List.mem_filter.mpr ⟨List.mem_of_getElem? (i := 178) (by decide +kernel), by decide +kernel⟩
theorem kw_179 : Cond.selects RX4 yX4_write yX4_write ∈ tT := List.mem_filter.mpr ⟨List.mem_of_getElem? (i := 179) (by decide +kernel), by decide +kernel⟩
theorem kw_180 : Cond.code yX4_write cX4_write 4 (some .int) ∈ tT := List.mem_filter.mpr ⟨List.mem_of_getElem? (i := 180) (by decide +kernel), by decide +kernel⟩
theorem kw_181 : Cond.methodLink RX4 50 yX4_isLeaf ∈ tT := List.mem_filter.mpr ⟨List.mem_of_getElem? (i := 181) (by decide +kernel), by decide +kernel⟩
theorem kw_182 : Cond.static yX4_isLeaf ∈ tT := List.mem_filter.mpr ⟨List.mem_of_getElem? (i := 182) (by decide +kernel), by decide +kernel⟩
theorem kw_183 : Cond.code yX4_isLeaf cX4_isLeaf 1 (some .boolean) ∈ tT := List.mem_filter.mpr ⟨List.mem_of_getElem? (i := 183) (by decide +kernel), by decide +kernel⟩
theorem kw_184 : Cond.methodLink RX4 61 yX0_put ∈ tT := List.mem_filter.mpr ⟨List.mem_of_getElem? (i := 184) (by decide +kernel), by decide +kernel⟩
theorem kw_185 : Cond.instanceMethod yX0_put ∈ tT := List.mem_filter.mpr ⟨List.mem_of_getElem? (i := 185) (by decide +kernel), by decide +kernel⟩
theorem kw_186 : Cond.selects RX0 yX0_put yX0_put ∈ tT := List.mem_filter.mpr ⟨List.mem_of_getElem? (i := 186) (by decide +kernel), by decide +kernel⟩
theorem kw_187 : Cond.code yX0_put cX0_put 4 none ∈ tT := List.mem_filter.mpr ⟨List.mem_of_getElem? (i := 187) (by decide +kernel), by decide +kernel⟩
theorem kw_188 : Cond.methodLink RL 18 yX4_seal ∈ tT := List.mem_filter.mpr ⟨List.mem_of_getElem? (i := 188) (by decide +kernel), by decide +kernel⟩
theorem kw_189 : Cond.instanceMethod yX4_seal ∈ tT := List.mem_filter.mpr ⟨List.mem_of_getElem? (i := 189) (by decide +kernel), by decide +kernel⟩
theorem kw_190 : Cond.selects RX4 yX4_seal yX4_seal ∈ tT := List.mem_filter.mpr ⟨List.mem_of_getElem? (i := 190) (by decide +kernel), by decide +kernel⟩
theorem kw_191 : Cond.code yX4_seal cX4_seal 2 (some .int) ∈ tT := List.mem_filter.mpr ⟨List.mem_of_getElem? (i := 191) (by decide +kernel), by decide +kernel⟩
theorem kw_192 : Cond.methodLink RX4 71 yX0_changes ∈ tT := List.mem_filter.mpr ⟨List.mem_of_getElem? (i := 192) (by decide +kernel), by decide +kernel⟩
theorem kw_193 : Cond.instanceMethod yX0_changes ∈ tT := List.mem_filter.mpr ⟨List.mem_of_getElem? (i := 193) (by decide +kernel), by decide +kernel⟩
theorem kw_194 : Cond.selects RX0 yX0_changes yX0_changes ∈ tT := List.mem_filter.mpr ⟨List.mem_of_getElem? (i := 194) (by decide +kernel), by decide +kernel⟩
theorem kw_195 : Cond.code yX0_changes cX0_changes 3 (some .int) ∈ tT := List.mem_filter.mpr ⟨List.mem_of_getElem? (i := 195) (by decide +kernel), by decide +kernel⟩
theorem kw_196 : Cond.methodLink RX0 28 yX0_changesLeaf ∈ tT := List.mem_filter.mpr ⟨List.mem_of_getElem? (i := 196) (by decide +kernel), by decide +kernel⟩
theorem kw_197 : Cond.instanceMethod yX0_changesLeaf ∈ tT := List.mem_filter.mpr ⟨List.mem_of_getElem? (i := 197) (by decide +kernel), by decide +kernel⟩
theorem kw_198 : Cond.selects RX0 yX0_changesLeaf yX0_changesLeaf ∈ tT := List.mem_filter.mpr ⟨List.mem_of_getElem? (i := 198) (by decide +kernel), by decide +kernel⟩
theorem kw_199 : Cond.code yX0_changesLeaf cX0_changesLeaf 2 (some .boolean) ∈ tT := List.mem_filter.mpr ⟨List.mem_of_getElem? (i := 199) (by decide +kernel), by decide +kernel⟩
theorem kw_200 : Cond.methodLink RX4 75 yX0_changesLeaf ∈ tT := List.mem_filter.mpr ⟨List.mem_of_getElem? (i := 200) (by decide +kernel), by decide +kernel⟩
theorem kw_201 : Cond.methodLink RX4 84 yX2_add ∈ tT := List.mem_filter.mpr ⟨List.mem_of_getElem? (i := 201) (by decide +kernel), by decide +kernel⟩
theorem kw_202 : Cond.instanceMethod yX2_add ∈ tT := List.mem_filter.mpr ⟨List.mem_of_getElem? (i := 202) (by decide +kernel), by decide +kernel⟩
theorem kw_203 : Cond.selects RX2 yX2_add yX2_add ∈ tT := List.mem_filter.mpr ⟨List.mem_of_getElem? (i := 203) (by decide +kernel), by decide +kernel⟩
theorem kw_204 : Cond.code yX2_add cX2_add 5 none ∈ tT := List.mem_filter.mpr ⟨List.mem_of_getElem? (i := 204) (by decide +kernel), by decide +kernel⟩
theorem kw_205 : Cond.methodLink RL 23 yX4_drop ∈ tT := List.mem_filter.mpr ⟨List.mem_of_getElem? (i := 205) (by decide +kernel), by decide +kernel⟩
theorem kw_206 : Cond.instanceMethod yX4_drop ∈ tT := List.mem_filter.mpr ⟨List.mem_of_getElem? (i := 206) (by decide +kernel), by decide +kernel⟩
theorem kw_207 : Cond.selects RX4 yX4_drop yX4_drop ∈ tT := List.mem_filter.mpr ⟨List.mem_of_getElem? (i := 207) (by decide +kernel), by decide +kernel⟩
theorem kw_208 : Cond.code yX4_drop cX4_drop 2 (some .int) ∈ tT := List.mem_filter.mpr ⟨List.mem_of_getElem? (i := 208) (by decide +kernel), by decide +kernel⟩
theorem kw_209 : Cond.methodLink RL 27 yX4_at ∈ tT := List.mem_filter.mpr ⟨List.mem_of_getElem? (i := 209) (by decide +kernel), by decide +kernel⟩
theorem kw_210 : Cond.instanceMethod yX4_at ∈ tT := List.mem_filter.mpr ⟨List.mem_of_getElem? (i := 210) (by decide +kernel), by decide +kernel⟩
theorem kw_211 : Cond.selects RX4 yX4_at yX4_at ∈ tT := List.mem_filter.mpr ⟨List.mem_of_getElem? (i := 211) (by decide +kernel), by decide +kernel⟩
theorem kw_212 : Cond.code yX4_at cX4_at 4 (some .long) ∈ tT := List.mem_filter.mpr ⟨List.mem_of_getElem? (i := 212) (by decide +kernel), by decide +kernel⟩
theorem kw_213 : Cond.methodLink RX4 103 yX4_isHeight ∈ tT := List.mem_filter.mpr ⟨List.mem_of_getElem? (i := 213) (by decide +kernel), by decide +kernel⟩
theorem kw_215 : Cond.instanceMethod yX4_isHeight ∈ tT := List.mem_filter.mpr ⟨List.mem_of_getElem? (i := 215) (by decide +kernel), by decide +kernel⟩
theorem kw_216 : Cond.code yX4_isHeight cX4_isHeight 2 (some .boolean) ∈ tT := List.mem_filter.mpr ⟨List.mem_of_getElem? (i := 216) (by decide +kernel), by decide +kernel⟩
theorem kw_217 : Cond.methodLink RX4 106 yX4_wide ∈ tT := List.mem_filter.mpr ⟨List.mem_of_getElem? (i := 217) (by decide +kernel), by decide +kernel⟩
theorem kw_218 : Cond.static yX4_wide ∈ tT := List.mem_filter.mpr ⟨List.mem_of_getElem? (i := 218) (by decide +kernel), by decide +kernel⟩
theorem kw_219 : Cond.code yX4_wide cX4_wide 1 (some .long) ∈ tT := List.mem_filter.mpr ⟨List.mem_of_getElem? (i := 219) (by decide +kernel), by decide +kernel⟩
theorem kw_220 : Cond.constantLong RX4 199 (4000000000) ∈ tT := List.mem_filter.mpr ⟨List.mem_of_getElem? (i := 220) (by decide +kernel), by decide +kernel⟩
theorem kw_221 : Cond.methodLink RX4 110 yX1_isGone ∈ tT := List.mem_filter.mpr ⟨List.mem_of_getElem? (i := 221) (by decide +kernel), by decide +kernel⟩
theorem kw_222 : Cond.instanceMethod yX1_isGone ∈ tT := List.mem_filter.mpr ⟨List.mem_of_getElem? (i := 222) (by decide +kernel), by decide +kernel⟩
theorem kw_223 : Cond.selects RX1 yX1_isGone yX1_isGone ∈ tT := List.mem_filter.mpr ⟨List.mem_of_getElem? (i := 223) (by decide +kernel), by decide +kernel⟩
theorem kw_224 : Cond.code yX1_isGone cX1_isGone 2 (some .boolean) ∈ tT := List.mem_filter.mpr ⟨List.mem_of_getElem? (i := 224) (by decide +kernel), by decide +kernel⟩
theorem kw_225 : Cond.methodLink RX4 113 yX2_lastOf ∈ tT := List.mem_filter.mpr ⟨List.mem_of_getElem? (i := 225) (by decide +kernel), by decide +kernel⟩
theorem kw_226 : Cond.instanceMethod yX2_lastOf ∈ tT := List.mem_filter.mpr ⟨List.mem_of_getElem? (i := 226) (by decide +kernel), by decide +kernel⟩
theorem kw_227 : Cond.selects RX2 yX2_lastOf yX2_lastOf ∈ tT := List.mem_filter.mpr ⟨List.mem_of_getElem? (i := 227) (by decide +kernel), by decide +kernel⟩
theorem kw_228 : Cond.code yX2_lastOf cX2_lastOf 4 (some .int) ∈ tT := List.mem_filter.mpr ⟨List.mem_of_getElem? (i := 228) (by decide +kernel), by decide +kernel⟩
theorem kw_229 : Cond.methodLink RX2 34 yX2_isOf ∈ tT := List.mem_filter.mpr ⟨List.mem_of_getElem? (i := 229) (by decide +kernel), by decide +kernel⟩
theorem kw_230 : Cond.instanceMethod yX2_isOf ∈ tT := List.mem_filter.mpr ⟨List.mem_of_getElem? (i := 230) (by decide +kernel), by decide +kernel⟩
theorem kw_231 : Cond.selects RX2 yX2_isOf yX2_isOf ∈ tT := List.mem_filter.mpr ⟨List.mem_of_getElem? (i := 231) (by decide +kernel), by decide +kernel⟩
theorem kw_232 : Cond.code yX2_isOf cX2_isOf 3 (some .boolean) ∈ tT := List.mem_filter.mpr ⟨List.mem_of_getElem? (i := 232) (by decide +kernel), by decide +kernel⟩
theorem kw_233 : Cond.methodLink RL 32 yX4_now ∈ tT := List.mem_filter.mpr ⟨List.mem_of_getElem? (i := 233) (by decide +kernel), by decide +kernel⟩
theorem kw_234 : Cond.instanceMethod yX4_now ∈ tT := List.mem_filter.mpr ⟨List.mem_of_getElem? (i := 234) (by decide +kernel), by decide +kernel⟩
theorem kw_235 : Cond.selects RX4 yX4_now yX4_now ∈ tT := List.mem_filter.mpr ⟨List.mem_of_getElem? (i := 235) (by decide +kernel), by decide +kernel⟩
theorem kw_236 : Cond.code yX4_now cX4_now 2 (some .long) ∈ tT := List.mem_filter.mpr ⟨List.mem_of_getElem? (i := 236) (by decide +kernel), by decide +kernel⟩
theorem kw_237 : Cond.methodLink RL 37 yX4_digest ∈ tT := List.mem_filter.mpr ⟨List.mem_of_getElem? (i := 237) (by decide +kernel), by decide +kernel⟩
theorem kw_238 : Cond.instanceMethod yX4_digest ∈ tT := List.mem_filter.mpr ⟨List.mem_of_getElem? (i := 238) (by decide +kernel), by decide +kernel⟩
theorem kw_239 : Cond.selects RX4 yX4_digest yX4_digest ∈ tT := List.mem_filter.mpr ⟨List.mem_of_getElem? (i := 239) (by decide +kernel), by decide +kernel⟩
theorem kw_240 : Cond.code yX4_digest cX4_digest 2 (some .long) ∈ tT := List.mem_filter.mpr ⟨List.mem_of_getElem? (i := 240) (by decide +kernel), by decide +kernel⟩
theorem kw_241 : Cond.methodLink RL 41 yX4_blame ∈ tT := List.mem_filter.mpr ⟨List.mem_of_getElem? (i := 241) (by decide +kernel), by decide +kernel⟩
theorem kw_242 : Cond.instanceMethod yX4_blame ∈ tT := List.mem_filter.mpr ⟨List.mem_of_getElem? (i := 242) (by decide +kernel), by decide +kernel⟩
theorem kw_243 : Cond.selects RX4 yX4_blame yX4_blame ∈ tT := List.mem_filter.mpr ⟨List.mem_of_getElem? (i := 243) (by decide +kernel), by decide +kernel⟩
theorem kw_244 : Cond.code yX4_blame cX4_blame 5 (some .int) ∈ tT := List.mem_filter.mpr ⟨List.mem_of_getElem? (i := 244) (by decide +kernel), by decide +kernel⟩
theorem kw_245 : Cond.methodLink RL 45 yX4_first ∈ tT := List.mem_filter.mpr ⟨List.mem_of_getElem? (i := 245) (by decide +kernel), by decide +kernel⟩
theorem kw_246 : Cond.instanceMethod yX4_first ∈ tT := List.mem_filter.mpr ⟨List.mem_of_getElem? (i := 246) (by decide +kernel), by decide +kernel⟩
theorem kw_247 : Cond.selects RX4 yX4_first yX4_first ∈ tT := List.mem_filter.mpr ⟨List.mem_of_getElem? (i := 247) (by decide +kernel), by decide +kernel⟩
theorem kw_248 : Cond.code yX4_first cX4_first 6 (some .int) ∈ tT := List.mem_filter.mpr ⟨List.mem_of_getElem? (i := 248) (by decide +kernel), by decide +kernel⟩
theorem kw_249 : Cond.methodLink RX4 126 yX2_isOf ∈ tT := List.mem_filter.mpr ⟨List.mem_of_getElem? (i := 249) (by decide +kernel), by decide +kernel⟩
theorem kw_250 : Cond.methodLink RL 50 yX4_differs ∈ tT := List.mem_filter.mpr ⟨List.mem_of_getElem? (i := 250) (by decide +kernel), by decide +kernel⟩
theorem kw_251 : Cond.instanceMethod yX4_differs ∈ tT := List.mem_filter.mpr ⟨List.mem_of_getElem? (i := 251) (by decide +kernel), by decide +kernel⟩
theorem kw_252 : Cond.selects RX4 yX4_differs yX4_differs ∈ tT := List.mem_filter.mpr ⟨List.mem_of_getElem? (i := 252) (by decide +kernel), by decide +kernel⟩
theorem kw_253 : Cond.code yX4_differs cX4_differs 6 (some .int) ∈ tT := List.mem_filter.mpr ⟨List.mem_of_getElem? (i := 253) (by decide +kernel), by decide +kernel⟩
theorem kw_254 : Cond.methodLink RX4 130 yX4_refusalOfTwo ∈ tT := List.mem_filter.mpr ⟨List.mem_of_getElem? (i := 254) (by decide +kernel), by decide +kernel⟩
theorem kw_256 : Cond.instanceMethod yX4_refusalOfTwo ∈ tT := List.mem_filter.mpr ⟨List.mem_of_getElem? (i := 256) (by decide +kernel), by decide +kernel⟩
theorem kw_257 : Cond.code yX4_refusalOfTwo cX4_refusalOfTwo 3 (some .int) ∈ tT := List.mem_filter.mpr ⟨List.mem_of_getElem? (i := 257) (by decide +kernel), by decide +kernel⟩
theorem kw_258 : Cond.methodLink RX4 133 yX4_loadTwo ∈ tT := List.mem_filter.mpr ⟨List.mem_of_getElem? (i := 258) (by decide +kernel), by decide +kernel⟩
theorem kw_260 : Cond.instanceMethod yX4_loadTwo ∈ tT := List.mem_filter.mpr ⟨List.mem_of_getElem? (i := 260) (by decide +kernel), by decide +kernel⟩
theorem kw_261 : Cond.code yX4_loadTwo cX4_loadTwo 3 none ∈ tT := List.mem_filter.mpr ⟨List.mem_of_getElem? (i := 261) (by decide +kernel), by decide +kernel⟩
theorem kw_262 : Cond.methodLink RX4 170 yX2_load ∈ tT := List.mem_filter.mpr ⟨List.mem_of_getElem? (i := 262) (by decide +kernel), by decide +kernel⟩
theorem kw_263 : Cond.instanceMethod yX2_load ∈ tT := List.mem_filter.mpr ⟨List.mem_of_getElem? (i := 263) (by decide +kernel), by decide +kernel⟩
theorem kw_264 : Cond.selects RX2 yX2_load yX2_load ∈ tT := List.mem_filter.mpr ⟨List.mem_of_getElem? (i := 264) (by decide +kernel), by decide +kernel⟩
theorem kw_265 : Cond.code yX2_load cX2_load 3 none ∈ tT := List.mem_filter.mpr ⟨List.mem_of_getElem? (i := 265) (by decide +kernel), by decide +kernel⟩
theorem kw_266 : Cond.methodLink RX2 38 yJ7_fill_53178 ∈ tT := List.mem_filter.mpr ⟨List.mem_of_getElem? (i := 266) (by decide +kernel), by decide +kernel⟩
theorem kw_267 : Cond.methodLink RX2 44 yX2_redo ∈ tT := List.mem_filter.mpr ⟨List.mem_of_getElem? (i := 267) (by decide +kernel), by decide +kernel⟩
theorem kw_268 : Cond.instanceMethod yX2_redo ∈ tT := List.mem_filter.mpr ⟨List.mem_of_getElem? (i := 268) (by decide +kernel), by decide +kernel⟩
theorem kw_269 : Cond.selects RX2 yX2_redo yX2_redo ∈ tT := List.mem_filter.mpr ⟨List.mem_of_getElem? (i := 269) (by decide +kernel), by decide +kernel⟩
theorem kw_270 : Cond.code yX2_redo cX2_redo 6 (some .int) ∈ tT := List.mem_filter.mpr ⟨List.mem_of_getElem? (i := 270) (by decide +kernel), by decide +kernel⟩
theorem kw_271 : Cond.methodLink RL 54 yX4_difference ∈ tT := List.mem_filter.mpr ⟨List.mem_of_getElem? (i := 271) (by decide +kernel), by decide +kernel⟩
theorem kw_272 : Cond.instanceMethod yX4_difference ∈ tT := List.mem_filter.mpr ⟨List.mem_of_getElem? (i := 272) (by decide +kernel), by decide +kernel⟩
theorem kw_273 : Cond.selects RX4 yX4_difference yX4_difference ∈ tT := List.mem_filter.mpr ⟨List.mem_of_getElem? (i := 273) (by decide +kernel), by decide +kernel⟩
theorem kw_274 : Cond.code yX4_difference cX4_difference 7 (some .int) ∈ tT := List.mem_filter.mpr ⟨List.mem_of_getElem? (i := 274) (by decide +kernel), by decide +kernel⟩
theorem kw_275 : Cond.methodLink RL 58 yX4_rule ∈ tT := List.mem_filter.mpr ⟨List.mem_of_getElem? (i := 275) (by decide +kernel), by decide +kernel⟩
theorem kw_276 : Cond.instanceMethod yX4_rule ∈ tT := List.mem_filter.mpr ⟨List.mem_of_getElem? (i := 276) (by decide +kernel), by decide +kernel⟩
theorem kw_277 : Cond.selects RX4 yX4_rule yX4_rule ∈ tT := List.mem_filter.mpr ⟨List.mem_of_getElem? (i := 277) (by decide +kernel), by decide +kernel⟩
theorem kw_278 : Cond.code yX4_rule cX4_rule 3 (some .int) ∈ tT := List.mem_filter.mpr ⟨List.mem_of_getElem? (i := 278) (by decide +kernel), by decide +kernel⟩
theorem kw_279 : Cond.methodLink RL 63 yX4_prune ∈ tT := List.mem_filter.mpr ⟨List.mem_of_getElem? (i := 279) (by decide +kernel), by decide +kernel⟩
theorem kw_280 : Cond.instanceMethod yX4_prune ∈ tT := List.mem_filter.mpr ⟨List.mem_of_getElem? (i := 280) (by decide +kernel), by decide +kernel⟩
theorem kw_281 : Cond.selects RX4 yX4_prune yX4_prune ∈ tT := List.mem_filter.mpr ⟨List.mem_of_getElem? (i := 281) (by decide +kernel), by decide +kernel⟩
theorem kw_282 : Cond.code yX4_prune cX4_prune 3 (some .int) ∈ tT := List.mem_filter.mpr ⟨List.mem_of_getElem? (i := 282) (by decide +kernel), by decide +kernel⟩
theorem kw_283 : Cond.methodLink RX4 140 yX1_countPrunable ∈ tT := List.mem_filter.mpr ⟨List.mem_of_getElem? (i := 283) (by decide +kernel), by decide +kernel⟩
theorem kw_284 : Cond.instanceMethod yX1_countPrunable ∈ tT := List.mem_filter.mpr ⟨List.mem_of_getElem? (i := 284) (by decide +kernel), by decide +kernel⟩
theorem kw_285 : Cond.selects RX1 yX1_countPrunable yX1_countPrunable ∈ tT := List.mem_filter.mpr ⟨List.mem_of_getElem? (i := 285) (by decide +kernel), by decide +kernel⟩
theorem kw_286 : Cond.code yX1_countPrunable cX1_countPrunable 5 (some .int) ∈ tT := List.mem_filter.mpr ⟨List.mem_of_getElem? (i := 286) (by decide +kernel), by decide +kernel⟩
theorem kw_287 : Cond.methodLink RX1 26 yX1_isPrunable ∈ tT := List.mem_filter.mpr ⟨List.mem_of_getElem? (i := 287) (by decide +kernel), by decide +kernel⟩
theorem kw_288 : Cond.instanceMethod yX1_isPrunable ∈ tT := List.mem_filter.mpr ⟨List.mem_of_getElem? (i := 288) (by decide +kernel), by decide +kernel⟩
theorem kw_289 : Cond.selects RX1 yX1_isPrunable yX1_isPrunable ∈ tT := List.mem_filter.mpr ⟨List.mem_of_getElem? (i := 289) (by decide +kernel), by decide +kernel⟩
theorem kw_290 : Cond.code yX1_isPrunable cX1_isPrunable 4 (some .boolean) ∈ tT := List.mem_filter.mpr ⟨List.mem_of_getElem? (i := 290) (by decide +kernel), by decide +kernel⟩
theorem kw_291 : Cond.methodLink RX1 22 yX1_isGone ∈ tT := List.mem_filter.mpr ⟨List.mem_of_getElem? (i := 291) (by decide +kernel), by decide +kernel⟩
theorem kw_292 : Cond.methodLink RX4 146 yX1_moveTo ∈ tT := List.mem_filter.mpr ⟨List.mem_of_getElem? (i := 292) (by decide +kernel), by decide +kernel⟩
theorem kw_293 : Cond.instanceMethod yX1_moveTo ∈ tT := List.mem_filter.mpr ⟨List.mem_of_getElem? (i := 293) (by decide +kernel), by decide +kernel⟩
theorem kw_294 : Cond.selects RX1 yX1_moveTo yX1_moveTo ∈ tT := List.mem_filter.mpr ⟨List.mem_of_getElem? (i := 294) (by decide +kernel), by decide +kernel⟩
theorem kw_295 : Cond.code yX1_moveTo cX1_moveTo 5 none ∈ tT := List.mem_filter.mpr ⟨List.mem_of_getElem? (i := 295) (by decide +kernel), by decide +kernel⟩
theorem kw_296 : Cond.methodLink RX4 149 yX2_moveUnneededTo ∈ tT := List.mem_filter.mpr ⟨List.mem_of_getElem? (i := 296) (by decide +kernel), by decide +kernel⟩
theorem kw_297 : Cond.instanceMethod yX2_moveUnneededTo ∈ tT := List.mem_filter.mpr ⟨List.mem_of_getElem? (i := 297) (by decide +kernel), by decide +kernel⟩
theorem kw_298 : Cond.selects RX2 yX2_moveUnneededTo yX2_moveUnneededTo ∈ tT := List.mem_filter.mpr ⟨List.mem_of_getElem? (i := 298) (by decide +kernel), by decide +kernel⟩
theorem kw_299 : Cond.code yX2_moveUnneededTo cX2_moveUnneededTo 5 none ∈ tT := List.mem_filter.mpr ⟨List.mem_of_getElem? (i := 299) (by decide +kernel), by decide +kernel⟩
theorem kw_300 : Cond.methodLink RX2 53 yX1_keepsAny ∈ tT := List.mem_filter.mpr ⟨List.mem_of_getElem? (i := 300) (by decide +kernel), by decide +kernel⟩
theorem kw_301 : Cond.instanceMethod yX1_keepsAny ∈ tT := List.mem_filter.mpr ⟨List.mem_of_getElem? (i := 301) (by decide +kernel), by decide +kernel⟩
theorem kw_302 : Cond.selects RX1 yX1_keepsAny yX1_keepsAny ∈ tT := List.mem_filter.mpr ⟨List.mem_of_getElem? (i := 302) (by decide +kernel), by decide +kernel⟩
theorem kw_303 : Cond.code yX1_keepsAny cX1_keepsAny 4 (some .boolean) ∈ tT := List.mem_filter.mpr ⟨List.mem_of_getElem? (i := 303) (by decide +kernel), by decide +kernel⟩
theorem kw_304 : Cond.methodLink RL 67 yX4_pruned ∈ tT := List.mem_filter.mpr ⟨List.mem_of_getElem? (i := 304) (by decide +kernel), by decide +kernel⟩
theorem kw_305 : Cond.instanceMethod yX4_pruned ∈ tT := List.mem_filter.mpr ⟨List.mem_of_getElem? (i := 305) (by decide +kernel), by decide +kernel⟩
theorem kw_306 : Cond.selects RX4 yX4_pruned yX4_pruned ∈ tT := List.mem_filter.mpr ⟨List.mem_of_getElem? (i := 306) (by decide +kernel), by decide +kernel⟩
theorem kw_307 : Cond.code yX4_pruned cX4_pruned 2 (some .int) ∈ tT := List.mem_filter.mpr ⟨List.mem_of_getElem? (i := 307) (by decide +kernel), by decide +kernel⟩
theorem kw_308 : Cond.methodLink RL 71 yX4_bring ∈ tT := List.mem_filter.mpr ⟨List.mem_of_getElem? (i := 308) (by decide +kernel), by decide +kernel⟩
theorem kw_309 : Cond.instanceMethod yX4_bring ∈ tT := List.mem_filter.mpr ⟨List.mem_of_getElem? (i := 309) (by decide +kernel), by decide +kernel⟩
theorem kw_310 : Cond.selects RX4 yX4_bring yX4_bring ∈ tT := List.mem_filter.mpr ⟨List.mem_of_getElem? (i := 310) (by decide +kernel), by decide +kernel⟩
theorem kw_311 : Cond.code yX4_bring cX4_bring 1 (some .int) ∈ tT := List.mem_filter.mpr ⟨List.mem_of_getElem? (i := 311) (by decide +kernel), by decide +kernel⟩
theorem kw_312 : Cond.methodLink RX4 153 yX1_relabel ∈ tT := List.mem_filter.mpr ⟨List.mem_of_getElem? (i := 312) (by decide +kernel), by decide +kernel⟩
theorem kw_313 : Cond.instanceMethod yX1_relabel ∈ tT := List.mem_filter.mpr ⟨List.mem_of_getElem? (i := 313) (by decide +kernel), by decide +kernel⟩
theorem kw_314 : Cond.selects RX1 yX1_relabel yX1_relabel ∈ tT := List.mem_filter.mpr ⟨List.mem_of_getElem? (i := 314) (by decide +kernel), by decide +kernel⟩
theorem kw_315 : Cond.code yX1_relabel cX1_relabel 4 none ∈ tT := List.mem_filter.mpr ⟨List.mem_of_getElem? (i := 315) (by decide +kernel), by decide +kernel⟩
theorem kw_316 : Cond.methodLink RX4 156 yX2_takeFrom ∈ tT := List.mem_filter.mpr ⟨List.mem_of_getElem? (i := 316) (by decide +kernel), by decide +kernel⟩
theorem kw_317 : Cond.instanceMethod yX2_takeFrom ∈ tT := List.mem_filter.mpr ⟨List.mem_of_getElem? (i := 317) (by decide +kernel), by decide +kernel⟩
theorem kw_318 : Cond.selects RX2 yX2_takeFrom yX2_takeFrom ∈ tT := List.mem_filter.mpr ⟨List.mem_of_getElem? (i := 318) (by decide +kernel), by decide +kernel⟩
theorem kw_319 : Cond.code yX2_takeFrom cX2_takeFrom 4 (some .int) ∈ tT := List.mem_filter.mpr ⟨List.mem_of_getElem? (i := 319) (by decide +kernel), by decide +kernel⟩
theorem kw_320 : Cond.methodLink RL 75 yX4_forget ∈ tT := List.mem_filter.mpr ⟨List.mem_of_getElem? (i := 320) (by decide +kernel), by decide +kernel⟩
theorem kw_321 : Cond.instanceMethod yX4_forget ∈ tT := List.mem_filter.mpr ⟨List.mem_of_getElem? (i := 321) (by decide +kernel), by decide +kernel⟩
theorem kw_322 : Cond.selects RX4 yX4_forget yX4_forget ∈ tT := List.mem_filter.mpr ⟨List.mem_of_getElem? (i := 322) (by decide +kernel), by decide +kernel⟩
theorem kw_323 : Cond.code yX4_forget cX4_forget 2 (some .int) ∈ tT := List.mem_filter.mpr ⟨List.mem_of_getElem? (i := 323) (by decide +kernel), by decide +kernel⟩
theorem kw_324 : Cond.methodLink RX4 160 yX2_removeArchived ∈ tT := List.mem_filter.mpr ⟨List.mem_of_getElem? (i := 324) (by decide +kernel), by decide +kernel⟩
theorem kw_325 : Cond.instanceMethod yX2_removeArchived ∈ tT := List.mem_filter.mpr ⟨List.mem_of_getElem? (i := 325) (by decide +kernel), by decide +kernel⟩
theorem kw_326 : Cond.selects RX2 yX2_removeArchived yX2_removeArchived ∈ tT := List.mem_filter.mpr ⟨List.mem_of_getElem? (i := 326) (by decide +kernel), by decide +kernel⟩
theorem kw_327 : Cond.code yX2_removeArchived cX2_removeArchived 3 (some .int) ∈ tT := List.mem_filter.mpr ⟨List.mem_of_getElem? (i := 327) (by decide +kernel), by decide +kernel⟩
theorem kw_328 : Cond.methodLink RX2 56 yX2_copyRow ∈ tT := List.mem_filter.mpr ⟨List.mem_of_getElem? (i := 328) (by decide +kernel), by decide +kernel⟩
theorem kw_330 : Cond.instanceMethod yX2_copyRow ∈ tT := List.mem_filter.mpr ⟨List.mem_of_getElem? (i := 330) (by decide +kernel), by decide +kernel⟩
theorem kw_331 : Cond.code yX2_copyRow cX2_copyRow 3 none ∈ tT := List.mem_filter.mpr ⟨List.mem_of_getElem? (i := 331) (by decide +kernel), by decide +kernel⟩
theorem kw_332 : Cond.methodLink RL 79 yX4_archive ∈ tT := List.mem_filter.mpr ⟨List.mem_of_getElem? (i := 332) (by decide +kernel), by decide +kernel⟩
theorem kw_333 : Cond.instanceMethod yX4_archive ∈ tT := List.mem_filter.mpr ⟨List.mem_of_getElem? (i := 333) (by decide +kernel), by decide +kernel⟩
theorem kw_334 : Cond.selects RX4 yX4_archive yX4_archive ∈ tT := List.mem_filter.mpr ⟨List.mem_of_getElem? (i := 334) (by decide +kernel), by decide +kernel⟩
theorem kw_335 : Cond.code yX4_archive cX4_archive 3 (some .int) ∈ tT := List.mem_filter.mpr ⟨List.mem_of_getElem? (i := 335) (by decide +kernel), by decide +kernel⟩
theorem kw_336 : Cond.methodLink RX4 163 yX2_countIn ∈ tT := List.mem_filter.mpr ⟨List.mem_of_getElem? (i := 336) (by decide +kernel), by decide +kernel⟩
theorem kw_337 : Cond.instanceMethod yX2_countIn ∈ tT := List.mem_filter.mpr ⟨List.mem_of_getElem? (i := 337) (by decide +kernel), by decide +kernel⟩
theorem kw_338 : Cond.selects RX2 yX2_countIn yX2_countIn ∈ tT := List.mem_filter.mpr ⟨List.mem_of_getElem? (i := 338) (by decide +kernel), by decide +kernel⟩
theorem kw_339 : Cond.code yX2_countIn cX2_countIn 4 (some .int) ∈ tT := List.mem_filter.mpr ⟨List.mem_of_getElem? (i := 339) (by decide +kernel), by decide +kernel⟩
theorem kw_340 : Cond.methodLink RX4 166 yX1_countIn ∈ tT := List.mem_filter.mpr ⟨List.mem_of_getElem? (i := 340) (by decide +kernel), by decide +kernel⟩
theorem kw_341 : Cond.instanceMethod yX1_countIn ∈ tT := List.mem_filter.mpr ⟨List.mem_of_getElem? (i := 341) (by decide +kernel), by decide +kernel⟩
theorem kw_342 : Cond.selects RX1 yX1_countIn yX1_countIn ∈ tT := List.mem_filter.mpr ⟨List.mem_of_getElem? (i := 342) (by decide +kernel), by decide +kernel⟩
theorem kw_343 : Cond.code yX1_countIn cX1_countIn 4 (some .int) ∈ tT := List.mem_filter.mpr ⟨List.mem_of_getElem? (i := 343) (by decide +kernel), by decide +kernel⟩
theorem kw_344 : Cond.methodLink RL 83 yX4_replay ∈ tT := List.mem_filter.mpr ⟨List.mem_of_getElem? (i := 344) (by decide +kernel), by decide +kernel⟩
theorem kw_345 : Cond.instanceMethod yX4_replay ∈ tT := List.mem_filter.mpr ⟨List.mem_of_getElem? (i := 345) (by decide +kernel), by decide +kernel⟩
theorem kw_346 : Cond.selects RX4 yX4_replay yX4_replay ∈ tT := List.mem_filter.mpr ⟨List.mem_of_getElem? (i := 346) (by decide +kernel), by decide +kernel⟩
theorem kw_347 : Cond.code yX4_replay cX4_replay 4 (some .long) ∈ tT := List.mem_filter.mpr ⟨List.mem_of_getElem? (i := 347) (by decide +kernel), by decide +kernel⟩
theorem kw_348 : Cond.methodLink RX4 167 yX4_refusalOfReplay ∈ tT := List.mem_filter.mpr ⟨List.mem_of_getElem? (i := 348) (by decide +kernel), by decide +kernel⟩
theorem kw_350 : Cond.instanceMethod yX4_refusalOfReplay ∈ tT := List.mem_filter.mpr ⟨List.mem_of_getElem? (i := 350) (by decide +kernel), by decide +kernel⟩
theorem kw_351 : Cond.code yX4_refusalOfReplay cX4_refusalOfReplay 3 (some .int) ∈ tT := List.mem_filter.mpr ⟨List.mem_of_getElem? (i := 351) (by decide +kernel), by decide +kernel⟩
theorem kw_352 : Cond.methodLink RX4 174 yX2_redo ∈ tT := List.mem_filter.mpr ⟨List.mem_of_getElem? (i := 352) (by decide +kernel), by decide +kernel⟩
theorem kw_353 : Cond.methodLink RL 87 yX4_replayed ∈ tT := List.mem_filter.mpr ⟨List.mem_of_getElem? (i := 353) (by decide +kernel), by decide +kernel⟩
theorem kw_354 : Cond.instanceMethod yX4_replayed ∈ tT := List.mem_filter.mpr ⟨List.mem_of_getElem? (i := 354) (by decide +kernel), by decide +kernel⟩
theorem kw_355 : Cond.selects RX4 yX4_replayed yX4_replayed ∈ tT := List.mem_filter.mpr ⟨List.mem_of_getElem? (i := 355) (by decide +kernel), by decide +kernel⟩
theorem kw_356 : Cond.code yX4_replayed cX4_replayed 4 (some .int) ∈ tT := List.mem_filter.mpr ⟨List.mem_of_getElem? (i := 356) (by decide +kernel), by decide +kernel⟩
theorem kw_357 : Cond.methodLink RL 91 yX4_proof ∈ tT := List.mem_filter.mpr ⟨List.mem_of_getElem? (i := 357) (by decide +kernel), by decide +kernel⟩
theorem kw_358 : Cond.instanceMethod yX4_proof ∈ tT := List.mem_filter.mpr ⟨List.mem_of_getElem? (i := 358) (by decide +kernel), by decide +kernel⟩
theorem kw_359 : Cond.selects RX4 yX4_proof yX4_proof ∈ tT := List.mem_filter.mpr ⟨List.mem_of_getElem? (i := 359) (by decide +kernel), by decide +kernel⟩
theorem kw_360 : Cond.code yX4_proof cX4_proof 4 (some .long) ∈ tT := List.mem_filter.mpr ⟨List.mem_of_getElem? (i := 360) (by decide +kernel), by decide +kernel⟩
theorem kw_361 : Cond.methodLink RX4 178 yX3_beside ∈ tT := List.mem_filter.mpr ⟨List.mem_of_getElem? (i := 361) (by decide +kernel), by decide +kernel⟩
theorem kw_362 : Cond.instanceMethod yX3_beside ∈ tT := List.mem_filter.mpr ⟨List.mem_of_getElem? (i := 362) (by decide +kernel), by decide +kernel⟩
theorem kw_363 : Cond.selects RX3 yX3_beside yX3_beside ∈ tT := List.mem_filter.mpr ⟨List.mem_of_getElem? (i := 363) (by decide +kernel), by decide +kernel⟩
theorem kw_364 : Cond.code yX3_beside cX3_beside 3 (some .int) ∈ tT := List.mem_filter.mpr ⟨List.mem_of_getElem? (i := 364) (by decide +kernel), by decide +kernel⟩
theorem kw_365 : Cond.methodLink RL 96 yX4_lay ∈ tT := List.mem_filter.mpr ⟨List.mem_of_getElem? (i := 365) (by decide +kernel), by decide +kernel⟩
theorem kw_366 : Cond.instanceMethod yX4_lay ∈ tT := List.mem_filter.mpr ⟨List.mem_of_getElem? (i := 366) (by decide +kernel), by decide +kernel⟩
theorem kw_367 : Cond.selects RX4 yX4_lay yX4_lay ∈ tT := List.mem_filter.mpr ⟨List.mem_of_getElem? (i := 367) (by decide +kernel), by decide +kernel⟩
theorem kw_368 : Cond.code yX4_lay cX4_lay 4 (some .int) ∈ tT := List.mem_filter.mpr ⟨List.mem_of_getElem? (i := 368) (by decide +kernel), by decide +kernel⟩
theorem kw_369 : Cond.methodLink RL 100 yX4_proves ∈ tT := List.mem_filter.mpr ⟨List.mem_of_getElem? (i := 369) (by decide +kernel), by decide +kernel⟩
theorem kw_370 : Cond.instanceMethod yX4_proves ∈ tT := List.mem_filter.mpr ⟨List.mem_of_getElem? (i := 370) (by decide +kernel), by decide +kernel⟩
theorem kw_371 : Cond.selects RX4 yX4_proves yX4_proves ∈ tT := List.mem_filter.mpr ⟨List.mem_of_getElem? (i := 371) (by decide +kernel), by decide +kernel⟩
theorem kw_372 : Cond.code yX4_proves cX4_proves 4 (some .int) ∈ tT := List.mem_filter.mpr ⟨List.mem_of_getElem? (i := 372) (by decide +kernel), by decide +kernel⟩
theorem kw_373 : Cond.methodLink RX4 181 yX3_climb ∈ tT := List.mem_filter.mpr ⟨List.mem_of_getElem? (i := 373) (by decide +kernel), by decide +kernel⟩
theorem kw_374 : Cond.static yX3_climb ∈ tT := List.mem_filter.mpr ⟨List.mem_of_getElem? (i := 374) (by decide +kernel), by decide +kernel⟩
theorem kw_375 : Cond.code yX3_climb cX3_climb 6 (some .int) ∈ tT := List.mem_filter.mpr ⟨List.mem_of_getElem? (i := 375) (by decide +kernel), by decide +kernel⟩
theorem kw_376 : Cond.methodLink RL 104 yX4_back ∈ tT := List.mem_filter.mpr ⟨List.mem_of_getElem? (i := 376) (by decide +kernel), by decide +kernel⟩
theorem kw_377 : Cond.instanceMethod yX4_back ∈ tT := List.mem_filter.mpr ⟨List.mem_of_getElem? (i := 377) (by decide +kernel), by decide +kernel⟩
theorem kw_378 : Cond.selects RX4 yX4_back yX4_back ∈ tT := List.mem_filter.mpr ⟨List.mem_of_getElem? (i := 378) (by decide +kernel), by decide +kernel⟩
theorem kw_379 : Cond.code yX4_back cX4_back 3 (some .int) ∈ tT := List.mem_filter.mpr ⟨List.mem_of_getElem? (i := 379) (by decide +kernel), by decide +kernel⟩
theorem kw_380 : Cond.methodLink RX4 184 yX2_removeAbove ∈ tT := List.mem_filter.mpr ⟨List.mem_of_getElem? (i := 380) (by decide +kernel), by decide +kernel⟩
theorem kw_381 : Cond.instanceMethod yX2_removeAbove ∈ tT := List.mem_filter.mpr ⟨List.mem_of_getElem? (i := 381) (by decide +kernel), by decide +kernel⟩
theorem kw_382 : Cond.selects RX2 yX2_removeAbove yX2_removeAbove ∈ tT := List.mem_filter.mpr ⟨List.mem_of_getElem? (i := 382) (by decide +kernel), by decide +kernel⟩
theorem kw_383 : Cond.code yX2_removeAbove cX2_removeAbove 4 (some .int) ∈ tT := List.mem_filter.mpr ⟨List.mem_of_getElem? (i := 383) (by decide +kernel), by decide +kernel⟩
theorem kw_384 : Cond.methodLink RX4 187 yX1_fallTo ∈ tT := List.mem_filter.mpr ⟨List.mem_of_getElem? (i := 384) (by decide +kernel), by decide +kernel⟩
theorem kw_385 : Cond.instanceMethod yX1_fallTo ∈ tT := List.mem_filter.mpr ⟨List.mem_of_getElem? (i := 385) (by decide +kernel), by decide +kernel⟩
theorem kw_386 : Cond.selects RX1 yX1_fallTo yX1_fallTo ∈ tT := List.mem_filter.mpr ⟨List.mem_of_getElem? (i := 386) (by decide +kernel), by decide +kernel⟩
theorem kw_387 : Cond.code yX1_fallTo cX1_fallTo 2 none ∈ tT := List.mem_filter.mpr ⟨List.mem_of_getElem? (i := 387) (by decide +kernel), by decide +kernel⟩
theorem kw_388 : Cond.methodLink RL 108 yX4_row ∈ tT := List.mem_filter.mpr ⟨List.mem_of_getElem? (i := 388) (by decide +kernel), by decide +kernel⟩
theorem kw_389 : Cond.instanceMethod yX4_row ∈ tT := List.mem_filter.mpr ⟨List.mem_of_getElem? (i := 389) (by decide +kernel), by decide +kernel⟩
theorem kw_390 : Cond.selects RX4 yX4_row yX4_row ∈ tT := List.mem_filter.mpr ⟨List.mem_of_getElem? (i := 390) (by decide +kernel), by decide +kernel⟩
theorem kw_391 : Cond.code yX4_row cX4_row 5 (some .int) ∈ tT := List.mem_filter.mpr ⟨List.mem_of_getElem? (i := 391) (by decide +kernel), by decide +kernel⟩
theorem kw_392 : Cond.methodLink RX4 190 yX2_find ∈ tT := List.mem_filter.mpr ⟨List.mem_of_getElem? (i := 392) (by decide +kernel), by decide +kernel⟩
theorem kw_393 : Cond.instanceMethod yX2_find ∈ tT := List.mem_filter.mpr ⟨List.mem_of_getElem? (i := 393) (by decide +kernel), by decide +kernel⟩
theorem kw_394 : Cond.selects RX2 yX2_find yX2_find ∈ tT := List.mem_filter.mpr ⟨List.mem_of_getElem? (i := 394) (by decide +kernel), by decide +kernel⟩
theorem kw_395 : Cond.code yX2_find cX2_find 5 (some .int) ∈ tT := List.mem_filter.mpr ⟨List.mem_of_getElem? (i := 395) (by decide +kernel), by decide +kernel⟩
theorem kw_396 : Cond.methodLink RL 112 yX4_count ∈ tT := List.mem_filter.mpr ⟨List.mem_of_getElem? (i := 396) (by decide +kernel), by decide +kernel⟩
theorem kw_397 : Cond.instanceMethod yX4_count ∈ tT := List.mem_filter.mpr ⟨List.mem_of_getElem? (i := 397) (by decide +kernel), by decide +kernel⟩
theorem kw_398 : Cond.selects RX4 yX4_count yX4_count ∈ tT := List.mem_filter.mpr ⟨List.mem_of_getElem? (i := 398) (by decide +kernel), by decide +kernel⟩
theorem kw_399 : Cond.code yX4_count cX4_count 2 (some .int) ∈ tT := List.mem_filter.mpr ⟨List.mem_of_getElem? (i := 399) (by decide +kernel), by decide +kernel⟩
theorem kw_400 : Cond.methodLink RL 116 yX4_clear ∈ tT := List.mem_filter.mpr ⟨List.mem_of_getElem? (i := 400) (by decide +kernel), by decide +kernel⟩
theorem kw_401 : Cond.instanceMethod yX4_clear ∈ tT := List.mem_filter.mpr ⟨List.mem_of_getElem? (i := 401) (by decide +kernel), by decide +kernel⟩
theorem kw_402 : Cond.selects RX4 yX4_clear yX4_clear ∈ tT := List.mem_filter.mpr ⟨List.mem_of_getElem? (i := 402) (by decide +kernel), by decide +kernel⟩
theorem kw_403 : Cond.code yX4_clear cX4_clear 2 (some .int) ∈ tT := List.mem_filter.mpr ⟨List.mem_of_getElem? (i := 403) (by decide +kernel), by decide +kernel⟩
theorem kw_404 : Cond.classLink RL 10 RX5 ∈ tT := List.mem_filter.mpr ⟨List.mem_of_getElem? (i := 404) (by decide +kernel), by decide +kernel⟩
theorem kw_405 : Cond.instantiable RX5 18 ∈ tT := List.mem_filter.mpr ⟨List.mem_of_getElem? (i := 405) (by decide +kernel), by decide +kernel⟩
theorem kw_406 : Cond.methodLink RL 12 yX5_init ∈ tT := List.mem_filter.mpr ⟨List.mem_of_getElem? (i := 406) (by decide +kernel), by decide +kernel⟩
theorem kw_407 : Cond.instanceMethod yX5_init ∈ tT := List.mem_filter.mpr ⟨List.mem_of_getElem? (i := 407) (by decide +kernel), by decide +kernel⟩
theorem kw_408 : Cond.code yX5_init cX5_init 1 none ∈ tT := List.mem_filter.mpr ⟨List.mem_of_getElem? (i := 408) (by decide +kernel), by decide +kernel⟩
theorem kw_409 : Cond.methodLink RX5 1 objectInit ∈ tT := List.mem_filter.mpr ⟨List.mem_of_getElem? (i := 409) (by decide +kernel), by decide +kernel⟩
theorem kw_410 : Cond.methodLink RX5 49 yX5_begin ∈ tT := List.mem_filter.mpr ⟨List.mem_of_getElem? (i := 410) (by decide +kernel), by decide +kernel⟩
theorem kw_412 : Cond.instanceMethod yX5_begin ∈ tT := List.mem_filter.mpr ⟨List.mem_of_getElem? (i := 412) (by decide +kernel), by decide +kernel⟩
theorem kw_413 : Cond.code yX5_begin cX5_begin 2 none ∈ tT := List.mem_filter.mpr ⟨List.mem_of_getElem? (i := 413) (by decide +kernel), by decide +kernel⟩
theorem kw_414 : Cond.methodLink RX5 68 yX5_digestOf ∈ tT := List.mem_filter.mpr ⟨List.mem_of_getElem? (i := 414) (by decide +kernel), by decide +kernel⟩
theorem kw_416 : Cond.instanceMethod yX5_digestOf ∈ tT := List.mem_filter.mpr ⟨List.mem_of_getElem? (i := 416) (by decide +kernel), by decide +kernel⟩
theorem kw_417 : Cond.code yX5_digestOf cX5_digestOf 3 (some .int) ∈ tT := List.mem_filter.mpr ⟨List.mem_of_getElem? (i := 417) (by decide +kernel), by decide +kernel⟩
theorem kw_418 : Cond.methodLink RX5 77 yX5_ofLeaf ∈ tT := List.mem_filter.mpr ⟨List.mem_of_getElem? (i := 418) (by decide +kernel), by decide +kernel⟩
theorem kw_419 : Cond.static yX5_ofLeaf ∈ tT := List.mem_filter.mpr ⟨List.mem_of_getElem? (i := 419) (by decide +kernel), by decide +kernel⟩
theorem kw_420 : Cond.code yX5_ofLeaf cX5_ofLeaf 2 (some .int) ∈ tT := List.mem_filter.mpr ⟨List.mem_of_getElem? (i := 420) (by decide +kernel), by decide +kernel⟩
theorem kw_421 : Cond.methodLink RX5 81 yX5_ofTwo ∈ tT := List.mem_filter.mpr ⟨List.mem_of_getElem? (i := 421) (by decide +kernel), by decide +kernel⟩
theorem kw_422 : Cond.static yX5_ofTwo ∈ tT := List.mem_filter.mpr ⟨List.mem_of_getElem? (i := 422) (by decide +kernel), by decide +kernel⟩
theorem kw_423 : Cond.code yX5_ofTwo cX5_ofTwo 3 (some .int) ∈ tT := List.mem_filter.mpr ⟨List.mem_of_getElem? (i := 423) (by decide +kernel), by decide +kernel⟩
theorem kw_424 : Cond.constant RX5 76 (739982445) ∈ tT := List.mem_filter.mpr ⟨List.mem_of_getElem? (i := 424) (by decide +kernel), by decide +kernel⟩
theorem kw_425 : Cond.fieldLink RX5 52 "HistoryRowsModel" "height" "I" ∈ tT := List.mem_filter.mpr ⟨List.mem_of_getElem? (i := 425) (by decide +kernel), by decide +kernel⟩
theorem kw_426 : Cond.fieldLink RX5 7 "HistoryRowsModel" "states" "[I" ∈ tT := List.mem_filter.mpr ⟨List.mem_of_getElem? (i := 426) (by decide +kernel), by decide +kernel⟩
theorem kw_427 : Cond.fieldLink RX5 13 "HistoryRowsModel" "digests" "[I" ∈ tT := List.mem_filter.mpr ⟨List.mem_of_getElem? (i := 427) (by decide +kernel), by decide +kernel⟩
theorem kw_428 : Cond.fieldLink RX5 16 "HistoryRowsModel" "prunedBy" "[I" ∈ tT := List.mem_filter.mpr ⟨List.mem_of_getElem? (i := 428) (by decide +kernel), by decide +kernel⟩
theorem kw_429 : Cond.fieldLink RX5 56 "HistoryRowsModel" "writes" "I" ∈ tT := List.mem_filter.mpr ⟨List.mem_of_getElem? (i := 429) (by decide +kernel), by decide +kernel⟩
theorem kw_430 : Cond.fieldLink RX5 19 "HistoryRowsModel" "writeCall" "[I" ∈ tT := List.mem_filter.mpr ⟨List.mem_of_getElem? (i := 430) (by decide +kernel), by decide +kernel⟩
theorem kw_431 : Cond.fieldLink RX5 22 "HistoryRowsModel" "writeLeaf" "[I" ∈ tT := List.mem_filter.mpr ⟨List.mem_of_getElem? (i := 431) (by decide +kernel), by decide +kernel⟩
theorem kw_432 : Cond.fieldLink RX5 25 "HistoryRowsModel" "writeValue" "[I" ∈ tT := List.mem_filter.mpr ⟨List.mem_of_getElem? (i := 432) (by decide +kernel), by decide +kernel⟩
theorem kw_433 : Cond.fieldLink RX5 59 "HistoryRowsModel" "rows" "I" ∈ tT := List.mem_filter.mpr ⟨List.mem_of_getElem? (i := 433) (by decide +kernel), by decide +kernel⟩
theorem kw_434 : Cond.fieldLink RX5 28 "HistoryRowsModel" "rowLeaf" "[I" ∈ tT := List.mem_filter.mpr ⟨List.mem_of_getElem? (i := 434) (by decide +kernel), by decide +kernel⟩
theorem kw_435 : Cond.fieldLink RX5 31 "HistoryRowsModel" "rowHeight" "[I" ∈ tT := List.mem_filter.mpr ⟨List.mem_of_getElem? (i := 435) (by decide +kernel), by decide +kernel⟩
theorem kw_436 : Cond.fieldLink RX5 34 "HistoryRowsModel" "rowValue" "[I" ∈ tT := List.mem_filter.mpr ⟨List.mem_of_getElem? (i := 436) (by decide +kernel), by decide +kernel⟩
theorem kw_437 : Cond.fieldLink RX5 37 "HistoryRowsModel" "rowCall" "[I" ∈ tT := List.mem_filter.mpr ⟨List.mem_of_getElem? (i := 437) (by decide +kernel), by decide +kernel⟩
theorem kw_438 : Cond.fieldLink RX5 40 "HistoryRowsModel" "rowIn" "[I" ∈ tT := List.mem_filter.mpr ⟨List.mem_of_getElem? (i := 438) (by decide +kernel), by decide +kernel⟩
theorem kw_439 : Cond.fieldLink RX5 62 "HistoryRowsModel" "archives" "I" ∈ tT := List.mem_filter.mpr ⟨List.mem_of_getElem? (i := 439) (by decide +kernel), by decide +kernel⟩
theorem kw_440 : Cond.fieldLink RX5 65 "HistoryRowsModel" "step" "I" ∈ tT := List.mem_filter.mpr ⟨List.mem_of_getElem? (i := 440) (by decide +kernel), by decide +kernel⟩
theorem kw_441 : Cond.fieldLink RX5 43 "HistoryRowsModel" "laid" "[I" ∈ tT := List.mem_filter.mpr ⟨List.mem_of_getElem? (i := 441) (by decide +kernel), by decide +kernel⟩
theorem kw_442 : Cond.fieldLink RX5 46 "HistoryRowsModel" "tree" "[I" ∈ tT := List.mem_filter.mpr ⟨List.mem_of_getElem? (i := 442) (by decide +kernel), by decide +kernel⟩
theorem kw_480 : Cond.methodLink RL 17 yX5_write ∈ tT := List.mem_filter.mpr ⟨List.mem_of_getElem? (i := 480) (by decide +kernel), by decide +kernel⟩
theorem kw_481 : Cond.instanceMethod yX5_write ∈ tT := List.mem_filter.mpr ⟨List.mem_of_getElem? (i := 481) (by decide +kernel), by decide +kernel⟩
theorem kw_482 : Cond.selects RX5 yX5_write yX5_write ∈ tT := List.mem_filter.mpr ⟨List.mem_of_getElem? (i := 482) (by decide +kernel), by decide +kernel⟩
theorem kw_483 : Cond.code yX5_write cX5_write 4 (some .int) ∈ tT := List.mem_filter.mpr ⟨List.mem_of_getElem? (i := 483) (by decide +kernel), by decide +kernel⟩
theorem kw_484 : Cond.methodLink RX5 84 yX5_isLeaf ∈ tT := List.mem_filter.mpr ⟨List.mem_of_getElem? (i := 484) (by decide +kernel), by decide +kernel⟩
theorem kw_485 : Cond.static yX5_isLeaf ∈ tT := List.mem_filter.mpr ⟨List.mem_of_getElem? (i := 485) (by decide +kernel), by decide +kernel⟩
theorem kw_486 : Cond.code yX5_isLeaf cX5_isLeaf 1 (some .boolean) ∈ tT := List.mem_filter.mpr ⟨List.mem_of_getElem? (i := 486) (by decide +kernel), by decide +kernel⟩
theorem kw_487 : Cond.methodLink RX5 72 yX5_in ∈ tT := List.mem_filter.mpr ⟨List.mem_of_getElem? (i := 487) (by decide +kernel), by decide +kernel⟩
theorem kw_488 : Cond.static yX5_in ∈ tT := List.mem_filter.mpr ⟨List.mem_of_getElem? (i := 488) (by decide +kernel), by decide +kernel⟩
theorem kw_489 : Cond.code yX5_in cX5_in 3 (some .boolean) ∈ tT := List.mem_filter.mpr ⟨List.mem_of_getElem? (i := 489) (by decide +kernel), by decide +kernel⟩
theorem kw_490 : Cond.methodLink RL 22 yX5_seal ∈ tT := List.mem_filter.mpr ⟨List.mem_of_getElem? (i := 490) (by decide +kernel), by decide +kernel⟩
theorem kw_491 : Cond.instanceMethod yX5_seal ∈ tT := List.mem_filter.mpr ⟨List.mem_of_getElem? (i := 491) (by decide +kernel), by decide +kernel⟩
theorem kw_492 : Cond.selects RX5 yX5_seal yX5_seal ∈ tT := List.mem_filter.mpr ⟨List.mem_of_getElem? (i := 492) (by decide +kernel), by decide +kernel⟩
theorem kw_493 : Cond.code yX5_seal cX5_seal 5 (some .int) ∈ tT := List.mem_filter.mpr ⟨List.mem_of_getElem? (i := 493) (by decide +kernel), by decide +kernel⟩
theorem kw_494 : Cond.methodLink RX5 91 yX5_nowOf ∈ tT := List.mem_filter.mpr ⟨List.mem_of_getElem? (i := 494) (by decide +kernel), by decide +kernel⟩
theorem kw_496 : Cond.instanceMethod yX5_nowOf ∈ tT := List.mem_filter.mpr ⟨List.mem_of_getElem? (i := 496) (by decide +kernel), by decide +kernel⟩
theorem kw_497 : Cond.code yX5_nowOf cX5_nowOf 3 (some .int) ∈ tT := List.mem_filter.mpr ⟨List.mem_of_getElem? (i := 497) (by decide +kernel), by decide +kernel⟩
theorem kw_498 : Cond.methodLink RX5 88 yX5_lastOf ∈ tT := List.mem_filter.mpr ⟨List.mem_of_getElem? (i := 498) (by decide +kernel), by decide +kernel⟩
theorem kw_500 : Cond.instanceMethod yX5_lastOf ∈ tT := List.mem_filter.mpr ⟨List.mem_of_getElem? (i := 500) (by decide +kernel), by decide +kernel⟩
theorem kw_501 : Cond.code yX5_lastOf cX5_lastOf 4 (some .int) ∈ tT := List.mem_filter.mpr ⟨List.mem_of_getElem? (i := 501) (by decide +kernel), by decide +kernel⟩
theorem kw_502 : Cond.methodLink RL 26 yX5_drop ∈ tT := List.mem_filter.mpr ⟨List.mem_of_getElem? (i := 502) (by decide +kernel), by decide +kernel⟩
theorem kw_503 : Cond.instanceMethod yX5_drop ∈ tT := List.mem_filter.mpr ⟨List.mem_of_getElem? (i := 503) (by decide +kernel), by decide +kernel⟩
theorem kw_504 : Cond.selects RX5 yX5_drop yX5_drop ∈ tT := List.mem_filter.mpr ⟨List.mem_of_getElem? (i := 504) (by decide +kernel), by decide +kernel⟩
theorem kw_505 : Cond.code yX5_drop cX5_drop 2 (some .int) ∈ tT := List.mem_filter.mpr ⟨List.mem_of_getElem? (i := 505) (by decide +kernel), by decide +kernel⟩
theorem kw_506 : Cond.methodLink RL 31 yX5_at ∈ tT := List.mem_filter.mpr ⟨List.mem_of_getElem? (i := 506) (by decide +kernel), by decide +kernel⟩
theorem kw_507 : Cond.instanceMethod yX5_at ∈ tT := List.mem_filter.mpr ⟨List.mem_of_getElem? (i := 507) (by decide +kernel), by decide +kernel⟩
theorem kw_508 : Cond.selects RX5 yX5_at yX5_at ∈ tT := List.mem_filter.mpr ⟨List.mem_of_getElem? (i := 508) (by decide +kernel), by decide +kernel⟩
theorem kw_509 : Cond.code yX5_at cX5_at 3 (some .long) ∈ tT := List.mem_filter.mpr ⟨List.mem_of_getElem? (i := 509) (by decide +kernel), by decide +kernel⟩
theorem kw_510 : Cond.methodLink RX5 94 yX5_isHeight ∈ tT := List.mem_filter.mpr ⟨List.mem_of_getElem? (i := 510) (by decide +kernel), by decide +kernel⟩
theorem kw_512 : Cond.instanceMethod yX5_isHeight ∈ tT := List.mem_filter.mpr ⟨List.mem_of_getElem? (i := 512) (by decide +kernel), by decide +kernel⟩
theorem kw_513 : Cond.code yX5_isHeight cX5_isHeight 2 (some .boolean) ∈ tT := List.mem_filter.mpr ⟨List.mem_of_getElem? (i := 513) (by decide +kernel), by decide +kernel⟩
theorem kw_514 : Cond.constantLong RX5 97 (-4000000101) ∈ tT := List.mem_filter.mpr ⟨List.mem_of_getElem? (i := 514) (by decide +kernel), by decide +kernel⟩
theorem kw_515 : Cond.constantLong RX5 99 (-4000000104) ∈ tT := List.mem_filter.mpr ⟨List.mem_of_getElem? (i := 515) (by decide +kernel), by decide +kernel⟩
theorem kw_516 : Cond.methodLink RL 36 yX5_now ∈ tT := List.mem_filter.mpr ⟨List.mem_of_getElem? (i := 516) (by decide +kernel), by decide +kernel⟩
theorem kw_517 : Cond.instanceMethod yX5_now ∈ tT := List.mem_filter.mpr ⟨List.mem_of_getElem? (i := 517) (by decide +kernel), by decide +kernel⟩
theorem kw_518 : Cond.selects RX5 yX5_now yX5_now ∈ tT := List.mem_filter.mpr ⟨List.mem_of_getElem? (i := 518) (by decide +kernel), by decide +kernel⟩
theorem kw_519 : Cond.code yX5_now cX5_now 2 (some .long) ∈ tT := List.mem_filter.mpr ⟨List.mem_of_getElem? (i := 519) (by decide +kernel), by decide +kernel⟩
theorem kw_520 : Cond.methodLink RL 40 yX5_digest ∈ tT := List.mem_filter.mpr ⟨List.mem_of_getElem? (i := 520) (by decide +kernel), by decide +kernel⟩
theorem kw_521 : Cond.instanceMethod yX5_digest ∈ tT := List.mem_filter.mpr ⟨List.mem_of_getElem? (i := 521) (by decide +kernel), by decide +kernel⟩
theorem kw_522 : Cond.selects RX5 yX5_digest yX5_digest ∈ tT := List.mem_filter.mpr ⟨List.mem_of_getElem? (i := 522) (by decide +kernel), by decide +kernel⟩
theorem kw_523 : Cond.code yX5_digest cX5_digest 2 (some .long) ∈ tT := List.mem_filter.mpr ⟨List.mem_of_getElem? (i := 523) (by decide +kernel), by decide +kernel⟩
theorem kw_524 : Cond.methodLink RL 44 yX5_blame ∈ tT := List.mem_filter.mpr ⟨List.mem_of_getElem? (i := 524) (by decide +kernel), by decide +kernel⟩
theorem kw_525 : Cond.instanceMethod yX5_blame ∈ tT := List.mem_filter.mpr ⟨List.mem_of_getElem? (i := 525) (by decide +kernel), by decide +kernel⟩
theorem kw_526 : Cond.selects RX5 yX5_blame yX5_blame ∈ tT := List.mem_filter.mpr ⟨List.mem_of_getElem? (i := 526) (by decide +kernel), by decide +kernel⟩
theorem kw_527 : Cond.code yX5_blame cX5_blame 7 (some .int) ∈ tT := List.mem_filter.mpr ⟨List.mem_of_getElem? (i := 527) (by decide +kernel), by decide +kernel⟩
theorem kw_528 : Cond.methodLink RL 49 yX5_first ∈ tT := List.mem_filter.mpr ⟨List.mem_of_getElem? (i := 528) (by decide +kernel), by decide +kernel⟩
theorem kw_529 : Cond.instanceMethod yX5_first ∈ tT := List.mem_filter.mpr ⟨List.mem_of_getElem? (i := 529) (by decide +kernel), by decide +kernel⟩
theorem kw_530 : Cond.selects RX5 yX5_first yX5_first ∈ tT := List.mem_filter.mpr ⟨List.mem_of_getElem? (i := 530) (by decide +kernel), by decide +kernel⟩
theorem kw_531 : Cond.code yX5_first cX5_first 4 (some .int) ∈ tT := List.mem_filter.mpr ⟨List.mem_of_getElem? (i := 531) (by decide +kernel), by decide +kernel⟩
theorem kw_532 : Cond.methodLink RL 53 yX5_differs ∈ tT := List.mem_filter.mpr ⟨List.mem_of_getElem? (i := 532) (by decide +kernel), by decide +kernel⟩
theorem kw_533 : Cond.instanceMethod yX5_differs ∈ tT := List.mem_filter.mpr ⟨List.mem_of_getElem? (i := 533) (by decide +kernel), by decide +kernel⟩
theorem kw_534 : Cond.selects RX5 yX5_differs yX5_differs ∈ tT := List.mem_filter.mpr ⟨List.mem_of_getElem? (i := 534) (by decide +kernel), by decide +kernel⟩
theorem kw_535 : Cond.code yX5_differs cX5_differs 6 (some .int) ∈ tT := List.mem_filter.mpr ⟨List.mem_of_getElem? (i := 535) (by decide +kernel), by decide +kernel⟩
theorem kw_536 : Cond.methodLink RX5 101 yX5_bars ∈ tT := List.mem_filter.mpr ⟨List.mem_of_getElem? (i := 536) (by decide +kernel), by decide +kernel⟩
theorem kw_538 : Cond.instanceMethod yX5_bars ∈ tT := List.mem_filter.mpr ⟨List.mem_of_getElem? (i := 538) (by decide +kernel), by decide +kernel⟩
theorem kw_539 : Cond.code yX5_bars cX5_bars 3 (some .int) ∈ tT := List.mem_filter.mpr ⟨List.mem_of_getElem? (i := 539) (by decide +kernel), by decide +kernel⟩
theorem kw_540 : Cond.methodLink RL 57 yX5_difference ∈ tT := List.mem_filter.mpr ⟨List.mem_of_getElem? (i := 540) (by decide +kernel), by decide +kernel⟩
theorem kw_541 : Cond.instanceMethod yX5_difference ∈ tT := List.mem_filter.mpr ⟨List.mem_of_getElem? (i := 541) (by decide +kernel), by decide +kernel⟩
theorem kw_542 : Cond.selects RX5 yX5_difference yX5_difference ∈ tT := List.mem_filter.mpr ⟨List.mem_of_getElem? (i := 542) (by decide +kernel), by decide +kernel⟩
theorem kw_543 : Cond.code yX5_difference cX5_difference 7 (some .int) ∈ tT := List.mem_filter.mpr ⟨List.mem_of_getElem? (i := 543) (by decide +kernel), by decide +kernel⟩
theorem kw_544 : Cond.methodLink RL 62 yX5_rule ∈ tT := List.mem_filter.mpr ⟨List.mem_of_getElem? (i := 544) (by decide +kernel), by decide +kernel⟩
theorem kw_545 : Cond.instanceMethod yX5_rule ∈ tT := List.mem_filter.mpr ⟨List.mem_of_getElem? (i := 545) (by decide +kernel), by decide +kernel⟩
theorem kw_546 : Cond.selects RX5 yX5_rule yX5_rule ∈ tT := List.mem_filter.mpr ⟨List.mem_of_getElem? (i := 546) (by decide +kernel), by decide +kernel⟩
theorem kw_547 : Cond.code yX5_rule cX5_rule 3 (some .int) ∈ tT := List.mem_filter.mpr ⟨List.mem_of_getElem? (i := 547) (by decide +kernel), by decide +kernel⟩
theorem kw_548 : Cond.methodLink RL 66 yX5_prune ∈ tT := List.mem_filter.mpr ⟨List.mem_of_getElem? (i := 548) (by decide +kernel), by decide +kernel⟩
theorem kw_549 : Cond.instanceMethod yX5_prune ∈ tT := List.mem_filter.mpr ⟨List.mem_of_getElem? (i := 549) (by decide +kernel), by decide +kernel⟩
theorem kw_550 : Cond.selects RX5 yX5_prune yX5_prune ∈ tT := List.mem_filter.mpr ⟨List.mem_of_getElem? (i := 550) (by decide +kernel), by decide +kernel⟩
theorem kw_551 : Cond.code yX5_prune cX5_prune 4 (some .int) ∈ tT := List.mem_filter.mpr ⟨List.mem_of_getElem? (i := 551) (by decide +kernel), by decide +kernel⟩
theorem kw_552 : Cond.methodLink RX5 104 yX5_goes ∈ tT := List.mem_filter.mpr ⟨List.mem_of_getElem? (i := 552) (by decide +kernel), by decide +kernel⟩
theorem kw_554 : Cond.instanceMethod yX5_goes ∈ tT := List.mem_filter.mpr ⟨List.mem_of_getElem? (i := 554) (by decide +kernel), by decide +kernel⟩
theorem kw_555 : Cond.code yX5_goes cX5_goes 2 (some .boolean) ∈ tT := List.mem_filter.mpr ⟨List.mem_of_getElem? (i := 555) (by decide +kernel), by decide +kernel⟩
theorem kw_556 : Cond.methodLink RX5 107 yX5_isNeeded ∈ tT := List.mem_filter.mpr ⟨List.mem_of_getElem? (i := 556) (by decide +kernel), by decide +kernel⟩
theorem kw_558 : Cond.instanceMethod yX5_isNeeded ∈ tT := List.mem_filter.mpr ⟨List.mem_of_getElem? (i := 558) (by decide +kernel), by decide +kernel⟩
theorem kw_559 : Cond.code yX5_isNeeded cX5_isNeeded 5 (some .boolean) ∈ tT := List.mem_filter.mpr ⟨List.mem_of_getElem? (i := 559) (by decide +kernel), by decide +kernel⟩
theorem kw_560 : Cond.methodLink RL 70 yX5_pruned ∈ tT := List.mem_filter.mpr ⟨List.mem_of_getElem? (i := 560) (by decide +kernel), by decide +kernel⟩
theorem kw_561 : Cond.instanceMethod yX5_pruned ∈ tT := List.mem_filter.mpr ⟨List.mem_of_getElem? (i := 561) (by decide +kernel), by decide +kernel⟩
theorem kw_562 : Cond.selects RX5 yX5_pruned yX5_pruned ∈ tT := List.mem_filter.mpr ⟨List.mem_of_getElem? (i := 562) (by decide +kernel), by decide +kernel⟩
theorem kw_563 : Cond.code yX5_pruned cX5_pruned 2 (some .int) ∈ tT := List.mem_filter.mpr ⟨List.mem_of_getElem? (i := 563) (by decide +kernel), by decide +kernel⟩
theorem kw_564 : Cond.methodLink RL 74 yX5_bring ∈ tT := List.mem_filter.mpr ⟨List.mem_of_getElem? (i := 564) (by decide +kernel), by decide +kernel⟩
theorem kw_565 : Cond.instanceMethod yX5_bring ∈ tT := List.mem_filter.mpr ⟨List.mem_of_getElem? (i := 565) (by decide +kernel), by decide +kernel⟩
theorem kw_566 : Cond.selects RX5 yX5_bring yX5_bring ∈ tT := List.mem_filter.mpr ⟨List.mem_of_getElem? (i := 566) (by decide +kernel), by decide +kernel⟩
theorem kw_567 : Cond.code yX5_bring cX5_bring 3 (some .int) ∈ tT := List.mem_filter.mpr ⟨List.mem_of_getElem? (i := 567) (by decide +kernel), by decide +kernel⟩
theorem kw_568 : Cond.methodLink RL 78 yX5_forget ∈ tT := List.mem_filter.mpr ⟨List.mem_of_getElem? (i := 568) (by decide +kernel), by decide +kernel⟩
theorem kw_569 : Cond.instanceMethod yX5_forget ∈ tT := List.mem_filter.mpr ⟨List.mem_of_getElem? (i := 569) (by decide +kernel), by decide +kernel⟩
theorem kw_570 : Cond.selects RX5 yX5_forget yX5_forget ∈ tT := List.mem_filter.mpr ⟨List.mem_of_getElem? (i := 570) (by decide +kernel), by decide +kernel⟩
theorem kw_571 : Cond.code yX5_forget cX5_forget 2 (some .int) ∈ tT := List.mem_filter.mpr ⟨List.mem_of_getElem? (i := 571) (by decide +kernel), by decide +kernel⟩
theorem kw_572 : Cond.methodLink RX5 110 yX5_squeeze ∈ tT := List.mem_filter.mpr ⟨List.mem_of_getElem? (i := 572) (by decide +kernel), by decide +kernel⟩
theorem kw_574 : Cond.instanceMethod yX5_squeeze ∈ tT := List.mem_filter.mpr ⟨List.mem_of_getElem? (i := 574) (by decide +kernel), by decide +kernel⟩
theorem kw_575 : Cond.code yX5_squeeze cX5_squeeze 4 (some .int) ∈ tT := List.mem_filter.mpr ⟨List.mem_of_getElem? (i := 575) (by decide +kernel), by decide +kernel⟩
theorem kw_576 : Cond.methodLink RL 82 yX5_archive ∈ tT := List.mem_filter.mpr ⟨List.mem_of_getElem? (i := 576) (by decide +kernel), by decide +kernel⟩
theorem kw_577 : Cond.instanceMethod yX5_archive ∈ tT := List.mem_filter.mpr ⟨List.mem_of_getElem? (i := 577) (by decide +kernel), by decide +kernel⟩
theorem kw_578 : Cond.selects RX5 yX5_archive yX5_archive ∈ tT := List.mem_filter.mpr ⟨List.mem_of_getElem? (i := 578) (by decide +kernel), by decide +kernel⟩
theorem kw_579 : Cond.code yX5_archive cX5_archive 3 (some .int) ∈ tT := List.mem_filter.mpr ⟨List.mem_of_getElem? (i := 579) (by decide +kernel), by decide +kernel⟩
theorem kw_580 : Cond.methodLink RX5 113 yX5_rowsIn ∈ tT := List.mem_filter.mpr ⟨List.mem_of_getElem? (i := 580) (by decide +kernel), by decide +kernel⟩
theorem kw_582 : Cond.instanceMethod yX5_rowsIn ∈ tT := List.mem_filter.mpr ⟨List.mem_of_getElem? (i := 582) (by decide +kernel), by decide +kernel⟩
theorem kw_583 : Cond.code yX5_rowsIn cX5_rowsIn 4 (some .int) ∈ tT := List.mem_filter.mpr ⟨List.mem_of_getElem? (i := 583) (by decide +kernel), by decide +kernel⟩
theorem kw_584 : Cond.methodLink RX5 116 yX5_heightsBy ∈ tT := List.mem_filter.mpr ⟨List.mem_of_getElem? (i := 584) (by decide +kernel), by decide +kernel⟩
theorem kw_586 : Cond.instanceMethod yX5_heightsBy ∈ tT := List.mem_filter.mpr ⟨List.mem_of_getElem? (i := 586) (by decide +kernel), by decide +kernel⟩
theorem kw_587 : Cond.code yX5_heightsBy cX5_heightsBy 4 (some .int) ∈ tT := List.mem_filter.mpr ⟨List.mem_of_getElem? (i := 587) (by decide +kernel), by decide +kernel⟩
theorem kw_588 : Cond.methodLink RL 86 yX5_replay ∈ tT := List.mem_filter.mpr ⟨List.mem_of_getElem? (i := 588) (by decide +kernel), by decide +kernel⟩
theorem kw_589 : Cond.instanceMethod yX5_replay ∈ tT := List.mem_filter.mpr ⟨List.mem_of_getElem? (i := 589) (by decide +kernel), by decide +kernel⟩
theorem kw_590 : Cond.selects RX5 yX5_replay yX5_replay ∈ tT := List.mem_filter.mpr ⟨List.mem_of_getElem? (i := 590) (by decide +kernel), by decide +kernel⟩
theorem kw_591 : Cond.code yX5_replay cX5_replay 5 (some .long) ∈ tT := List.mem_filter.mpr ⟨List.mem_of_getElem? (i := 591) (by decide +kernel), by decide +kernel⟩
theorem kw_592 : Cond.methodLink RX5 119 yX5_barsReplay ∈ tT := List.mem_filter.mpr ⟨List.mem_of_getElem? (i := 592) (by decide +kernel), by decide +kernel⟩
theorem kw_594 : Cond.instanceMethod yX5_barsReplay ∈ tT := List.mem_filter.mpr ⟨List.mem_of_getElem? (i := 594) (by decide +kernel), by decide +kernel⟩
theorem kw_595 : Cond.code yX5_barsReplay cX5_barsReplay 3 (some .int) ∈ tT := List.mem_filter.mpr ⟨List.mem_of_getElem? (i := 595) (by decide +kernel), by decide +kernel⟩
theorem kw_596 : Cond.constantLong RX5 122 (4000000000) ∈ tT := List.mem_filter.mpr ⟨List.mem_of_getElem? (i := 596) (by decide +kernel), by decide +kernel⟩
theorem kw_597 : Cond.methodLink RL 90 yX5_replayed ∈ tT := List.mem_filter.mpr ⟨List.mem_of_getElem? (i := 597) (by decide +kernel), by decide +kernel⟩
theorem kw_598 : Cond.instanceMethod yX5_replayed ∈ tT := List.mem_filter.mpr ⟨List.mem_of_getElem? (i := 598) (by decide +kernel), by decide +kernel⟩
theorem kw_599 : Cond.selects RX5 yX5_replayed yX5_replayed ∈ tT := List.mem_filter.mpr ⟨List.mem_of_getElem? (i := 599) (by decide +kernel), by decide +kernel⟩
theorem kw_600 : Cond.code yX5_replayed cX5_replayed 6 (some .int) ∈ tT := List.mem_filter.mpr ⟨List.mem_of_getElem? (i := 600) (by decide +kernel), by decide +kernel⟩
theorem kw_601 : Cond.methodLink RL 95 yX5_proof ∈ tT := List.mem_filter.mpr ⟨List.mem_of_getElem? (i := 601) (by decide +kernel), by decide +kernel⟩
theorem kw_602 : Cond.instanceMethod yX5_proof ∈ tT := List.mem_filter.mpr ⟨List.mem_of_getElem? (i := 602) (by decide +kernel), by decide +kernel⟩
theorem kw_603 : Cond.selects RX5 yX5_proof yX5_proof ∈ tT := List.mem_filter.mpr ⟨List.mem_of_getElem? (i := 603) (by decide +kernel), by decide +kernel⟩
theorem kw_604 : Cond.code yX5_proof cX5_proof 6 (some .long) ∈ tT := List.mem_filter.mpr ⟨List.mem_of_getElem? (i := 604) (by decide +kernel), by decide +kernel⟩
theorem kw_605 : Cond.constantLong RX5 124 (-4000000102) ∈ tT := List.mem_filter.mpr ⟨List.mem_of_getElem? (i := 605) (by decide +kernel), by decide +kernel⟩
theorem kw_606 : Cond.methodLink RL 99 yX5_lay ∈ tT := List.mem_filter.mpr ⟨List.mem_of_getElem? (i := 606) (by decide +kernel), by decide +kernel⟩
theorem kw_607 : Cond.instanceMethod yX5_lay ∈ tT := List.mem_filter.mpr ⟨List.mem_of_getElem? (i := 607) (by decide +kernel), by decide +kernel⟩
theorem kw_608 : Cond.selects RX5 yX5_lay yX5_lay ∈ tT := List.mem_filter.mpr ⟨List.mem_of_getElem? (i := 608) (by decide +kernel), by decide +kernel⟩
theorem kw_609 : Cond.code yX5_lay cX5_lay 4 (some .int) ∈ tT := List.mem_filter.mpr ⟨List.mem_of_getElem? (i := 609) (by decide +kernel), by decide +kernel⟩
theorem kw_610 : Cond.methodLink RL 103 yX5_proves ∈ tT := List.mem_filter.mpr ⟨List.mem_of_getElem? (i := 610) (by decide +kernel), by decide +kernel⟩
theorem kw_611 : Cond.instanceMethod yX5_proves ∈ tT := List.mem_filter.mpr ⟨List.mem_of_getElem? (i := 611) (by decide +kernel), by decide +kernel⟩
theorem kw_612 : Cond.selects RX5 yX5_proves yX5_proves ∈ tT := List.mem_filter.mpr ⟨List.mem_of_getElem? (i := 612) (by decide +kernel), by decide +kernel⟩
theorem kw_613 : Cond.code yX5_proves cX5_proves 6 (some .int) ∈ tT := List.mem_filter.mpr ⟨List.mem_of_getElem? (i := 613) (by decide +kernel), by decide +kernel⟩
theorem kw_614 : Cond.methodLink RL 107 yX5_back ∈ tT := List.mem_filter.mpr ⟨List.mem_of_getElem? (i := 614) (by decide +kernel), by decide +kernel⟩
theorem kw_615 : Cond.instanceMethod yX5_back ∈ tT := List.mem_filter.mpr ⟨List.mem_of_getElem? (i := 615) (by decide +kernel), by decide +kernel⟩
theorem kw_616 : Cond.selects RX5 yX5_back yX5_back ∈ tT := List.mem_filter.mpr ⟨List.mem_of_getElem? (i := 616) (by decide +kernel), by decide +kernel⟩
theorem kw_617 : Cond.code yX5_back cX5_back 3 (some .int) ∈ tT := List.mem_filter.mpr ⟨List.mem_of_getElem? (i := 617) (by decide +kernel), by decide +kernel⟩
theorem kw_618 : Cond.methodLink RL 111 yX5_row ∈ tT := List.mem_filter.mpr ⟨List.mem_of_getElem? (i := 618) (by decide +kernel), by decide +kernel⟩
theorem kw_619 : Cond.instanceMethod yX5_row ∈ tT := List.mem_filter.mpr ⟨List.mem_of_getElem? (i := 619) (by decide +kernel), by decide +kernel⟩
theorem kw_620 : Cond.selects RX5 yX5_row yX5_row ∈ tT := List.mem_filter.mpr ⟨List.mem_of_getElem? (i := 620) (by decide +kernel), by decide +kernel⟩
theorem kw_621 : Cond.code yX5_row cX5_row 6 (some .int) ∈ tT := List.mem_filter.mpr ⟨List.mem_of_getElem? (i := 621) (by decide +kernel), by decide +kernel⟩
theorem kw_622 : Cond.methodLink RL 115 yX5_count ∈ tT := List.mem_filter.mpr ⟨List.mem_of_getElem? (i := 622) (by decide +kernel), by decide +kernel⟩
theorem kw_623 : Cond.instanceMethod yX5_count ∈ tT := List.mem_filter.mpr ⟨List.mem_of_getElem? (i := 623) (by decide +kernel), by decide +kernel⟩
theorem kw_624 : Cond.selects RX5 yX5_count yX5_count ∈ tT := List.mem_filter.mpr ⟨List.mem_of_getElem? (i := 624) (by decide +kernel), by decide +kernel⟩
theorem kw_625 : Cond.code yX5_count cX5_count 2 (some .int) ∈ tT := List.mem_filter.mpr ⟨List.mem_of_getElem? (i := 625) (by decide +kernel), by decide +kernel⟩
theorem kw_626 : Cond.methodLink RL 119 yX5_clear ∈ tT := List.mem_filter.mpr ⟨List.mem_of_getElem? (i := 626) (by decide +kernel), by decide +kernel⟩
theorem kw_627 : Cond.instanceMethod yX5_clear ∈ tT := List.mem_filter.mpr ⟨List.mem_of_getElem? (i := 627) (by decide +kernel), by decide +kernel⟩
theorem kw_628 : Cond.selects RX5 yX5_clear yX5_clear ∈ tT := List.mem_filter.mpr ⟨List.mem_of_getElem? (i := 628) (by decide +kernel), by decide +kernel⟩
theorem kw_629 : Cond.code yX5_clear cX5_clear 2 (some .int) ∈ tT := List.mem_filter.mpr ⟨List.mem_of_getElem? (i := 629) (by decide +kernel), by decide +kernel⟩
end
section
theorem dX0_init_0 : decode cX0_init 0 = .ok (.aload_n 0, 1) := by decide +kernel
theorem dX0_init_1 : decode cX0_init 1 = .ok (.invokespecial 3, 3) := by decide +kernel
theorem dX0_init_4 : decode cX0_init 4 = .ok (.aload_n 0, 1) := by decide +kernel
theorem dX0_init_5 : decode cX0_init 5 = .ok (.bipush 32, 2) := by decide +kernel
theorem dX0_init_7 : decode cX0_init 7 = .ok (.newarray .int, 2) := by decide +kernel
theorem dX0_init_9 : decode cX0_init 9 = .ok (.putfield 9, 3) := by decide +kernel
theorem dX0_init_12 : decode cX0_init 12 = .ok (.aload_n 0, 1) := by decide +kernel
theorem dX0_init_13 : decode cX0_init 13 = .ok (.bipush 32, 2) := by decide +kernel
theorem dX0_init_15 : decode cX0_init 15 = .ok (.newarray .int, 2) := by decide +kernel
theorem dX0_init_17 : decode cX0_init 17 = .ok (.putfield 15, 3) := by decide +kernel
theorem dX0_init_20 : decode cX0_init 20 = .ok (.aload_n 0, 1) := by decide +kernel
theorem dX0_init_21 : decode cX0_init 21 = .ok (.bipush 32, 2) := by decide +kernel
theorem dX0_init_23 : decode cX0_init 23 = .ok (.newarray .int, 2) := by decide +kernel
theorem dX0_init_25 : decode cX0_init 25 = .ok (.putfield 18, 3) := by decide +kernel
theorem dX0_init_28 : decode cX0_init 28 = .ok (.return_, 1) := by decide +kernel
theorem dX0_startFrom_0 : decode cX0_startFrom 0 = .ok (.iconst 0, 1) := by decide +kernel
theorem dX0_startFrom_1 : decode cX0_startFrom 1 = .ok (.istore_n 2, 1) := by decide +kernel
theorem dX0_startFrom_2 : decode cX0_startFrom 2 = .ok (.iload_n 2, 1) := by decide +kernel
theorem dX0_startFrom_3 : decode cX0_startFrom 3 = .ok (.bipush 32, 2) := by decide +kernel
theorem dX0_startFrom_5 : decode cX0_startFrom 5 = .ok (.if_icmp .ge 27, 3) := by decide +kernel
theorem dX0_startFrom_8 : decode cX0_startFrom 8 = .ok (.aload_n 0, 1) := by decide +kernel
theorem dX0_startFrom_9 : decode cX0_startFrom 9 = .ok (.getfield 9, 3) := by decide +kernel
theorem dX0_startFrom_12 : decode cX0_startFrom 12 = .ok (.iload_n 2, 1) := by decide +kernel
theorem dX0_startFrom_13 : decode cX0_startFrom 13 = .ok (.aload_n 1, 1) := by decide +kernel
theorem dX0_startFrom_14 : decode cX0_startFrom 14 = .ok (.iload_n 2, 1) := by decide +kernel
theorem dX0_startFrom_15 : decode cX0_startFrom 15 = .ok (.iaload, 1) := by decide +kernel
theorem dX0_startFrom_16 : decode cX0_startFrom 16 = .ok (.iastore, 1) := by decide +kernel
theorem dX0_startFrom_17 : decode cX0_startFrom 17 = .ok (.aload_n 0, 1) := by decide +kernel
theorem dX0_startFrom_18 : decode cX0_startFrom 18 = .ok (.getfield 15, 3) := by decide +kernel
theorem dX0_startFrom_21 : decode cX0_startFrom 21 = .ok (.iload_n 2, 1) := by decide +kernel
theorem dX0_startFrom_22 : decode cX0_startFrom 22 = .ok (.aload_n 1, 1) := by decide +kernel
theorem dX0_startFrom_23 : decode cX0_startFrom 23 = .ok (.iload_n 2, 1) := by decide +kernel
theorem dX0_startFrom_24 : decode cX0_startFrom 24 = .ok (.iaload, 1) := by decide +kernel
theorem dX0_startFrom_25 : decode cX0_startFrom 25 = .ok (.iastore, 1) := by decide +kernel
theorem dX0_startFrom_26 : decode cX0_startFrom 26 = .ok (.iinc 2 1, 3) := by decide +kernel
theorem dX0_startFrom_29 : decode cX0_startFrom 29 = .ok (.goto (-27), 3) := by decide +kernel
theorem dX0_startFrom_32 : decode cX0_startFrom 32 = .ok (.aload_n 0, 1) := by decide +kernel
theorem dX0_startFrom_33 : decode cX0_startFrom 33 = .ok (.iconst 0, 1) := by decide +kernel
theorem dX0_startFrom_34 : decode cX0_startFrom 34 = .ok (.putfield 21, 3) := by decide +kernel
theorem dX0_startFrom_37 : decode cX0_startFrom 37 = .ok (.aload_n 0, 1) := by decide +kernel
theorem dX0_startFrom_38 : decode cX0_startFrom 38 = .ok (.iconst 0, 1) := by decide +kernel
theorem dX0_startFrom_39 : decode cX0_startFrom 39 = .ok (.putfield 25, 3) := by decide +kernel
theorem dX0_startFrom_42 : decode cX0_startFrom 42 = .ok (.return_, 1) := by decide +kernel
theorem dX0_put_0 : decode cX0_put 0 = .ok (.aload_n 0, 1) := by decide +kernel
theorem dX0_put_1 : decode cX0_put 1 = .ok (.getfield 15, 3) := by decide +kernel
theorem dX0_put_4 : decode cX0_put 4 = .ok (.iload_n 2, 1) := by decide +kernel
theorem dX0_put_5 : decode cX0_put 5 = .ok (.iload_n 3, 1) := by decide +kernel
theorem dX0_put_6 : decode cX0_put 6 = .ok (.iastore, 1) := by decide +kernel
theorem dX0_put_7 : decode cX0_put 7 = .ok (.aload_n 0, 1) := by decide +kernel
theorem dX0_put_8 : decode cX0_put 8 = .ok (.getfield 18, 3) := by decide +kernel
theorem dX0_put_11 : decode cX0_put 11 = .ok (.iload_n 2, 1) := by decide +kernel
theorem dX0_put_12 : decode cX0_put 12 = .ok (.iload_n 1, 1) := by decide +kernel
theorem dX0_put_13 : decode cX0_put 13 = .ok (.iastore, 1) := by decide +kernel
theorem dX0_put_14 : decode cX0_put 14 = .ok (.aload_n 0, 1) := by decide +kernel
theorem dX0_put_15 : decode cX0_put 15 = .ok (.iload_n 1, 1) := by decide +kernel
theorem dX0_put_16 : decode cX0_put 16 = .ok (.putfield 25, 3) := by decide +kernel
theorem dX0_put_19 : decode cX0_put 19 = .ok (.aload_n 0, 1) := by decide +kernel
theorem dX0_put_20 : decode cX0_put 20 = .ok (.dup, 1) := by decide +kernel
theorem dX0_put_21 : decode cX0_put 21 = .ok (.getfield 21, 3) := by decide +kernel
theorem dX0_put_24 : decode cX0_put 24 = .ok (.iconst 1, 1) := by decide +kernel
theorem dX0_put_25 : decode cX0_put 25 = .ok (.iadd, 1) := by decide +kernel
theorem dX0_put_26 : decode cX0_put 26 = .ok (.putfield 21, 3) := by decide +kernel
theorem dX0_put_29 : decode cX0_put 29 = .ok (.return_, 1) := by decide +kernel
theorem dX0_changesLeaf_0 : decode cX0_changesLeaf 0 = .ok (.aload_n 0, 1) := by decide +kernel
theorem dX0_changesLeaf_1 : decode cX0_changesLeaf 1 = .ok (.getfield 9, 3) := by decide +kernel
theorem dX0_changesLeaf_4 : decode cX0_changesLeaf 4 = .ok (.iload_n 1, 1) := by decide +kernel
theorem dX0_changesLeaf_5 : decode cX0_changesLeaf 5 = .ok (.iaload, 1) := by decide +kernel
theorem dX0_changesLeaf_6 : decode cX0_changesLeaf 6 = .ok (.aload_n 0, 1) := by decide +kernel
theorem dX0_changesLeaf_7 : decode cX0_changesLeaf 7 = .ok (.getfield 15, 3) := by decide +kernel
theorem dX0_changesLeaf_10 : decode cX0_changesLeaf 10 = .ok (.iload_n 1, 1) := by decide +kernel
theorem dX0_changesLeaf_11 : decode cX0_changesLeaf 11 = .ok (.iaload, 1) := by decide +kernel
theorem dX0_changesLeaf_12 : decode cX0_changesLeaf 12 = .ok (.if_icmp .eq 7, 3) := by decide +kernel
theorem dX0_changesLeaf_15 : decode cX0_changesLeaf 15 = .ok (.iconst 1, 1) := by decide +kernel
theorem dX0_changesLeaf_16 : decode cX0_changesLeaf 16 = .ok (.goto 4, 3) := by decide +kernel
theorem dX0_changesLeaf_19 : decode cX0_changesLeaf 19 = .ok (.iconst 0, 1) := by decide +kernel
theorem dX0_changesLeaf_20 : decode cX0_changesLeaf 20 = .ok (.ireturn, 1) := by decide +kernel
theorem dX0_changes_0 : decode cX0_changes 0 = .ok (.iconst 0, 1) := by decide +kernel
theorem dX0_changes_1 : decode cX0_changes 1 = .ok (.istore_n 1, 1) := by decide +kernel
theorem dX0_changes_2 : decode cX0_changes 2 = .ok (.iconst 0, 1) := by decide +kernel
theorem dX0_changes_3 : decode cX0_changes 3 = .ok (.istore_n 2, 1) := by decide +kernel
theorem dX0_changes_4 : decode cX0_changes 4 = .ok (.iload_n 2, 1) := by decide +kernel
theorem dX0_changes_5 : decode cX0_changes 5 = .ok (.bipush 32, 2) := by decide +kernel
theorem dX0_changes_7 : decode cX0_changes 7 = .ok (.if_icmp .ge 20, 3) := by decide +kernel
theorem dX0_changes_10 : decode cX0_changes 10 = .ok (.aload_n 0, 1) := by decide +kernel
theorem dX0_changes_11 : decode cX0_changes 11 = .ok (.iload_n 2, 1) := by decide +kernel
theorem dX0_changes_12 : decode cX0_changes 12 = .ok (.invokevirtual 28, 3) := by decide +kernel
theorem dX0_changes_15 : decode cX0_changes 15 = .ok (.ifCond .eq 6, 3) := by decide +kernel
theorem dX0_changes_18 : decode cX0_changes 18 = .ok (.iinc 1 1, 3) := by decide +kernel
theorem dX0_changes_21 : decode cX0_changes 21 = .ok (.iinc 2 1, 3) := by decide +kernel
theorem dX0_changes_24 : decode cX0_changes 24 = .ok (.goto (-20), 3) := by decide +kernel
theorem dX0_changes_27 : decode cX0_changes 27 = .ok (.iload_n 1, 1) := by decide +kernel
theorem dX0_changes_28 : decode cX0_changes 28 = .ok (.ireturn, 1) := by decide +kernel
theorem dX1_init_0 : decode cX1_init 0 = .ok (.aload_n 0, 1) := by decide +kernel
theorem dX1_init_1 : decode cX1_init 1 = .ok (.invokespecial 3, 3) := by decide +kernel
theorem dX1_init_4 : decode cX1_init 4 = .ok (.aload_n 0, 1) := by decide +kernel
theorem dX1_init_5 : decode cX1_init 5 = .ok (.sipush 201, 3) := by decide +kernel
theorem dX1_init_8 : decode cX1_init 8 = .ok (.newarray .int, 2) := by decide +kernel
theorem dX1_init_10 : decode cX1_init 10 = .ok (.putfield 9, 3) := by decide +kernel
theorem dX1_init_13 : decode cX1_init 13 = .ok (.aload_n 0, 1) := by decide +kernel
theorem dX1_init_14 : decode cX1_init 14 = .ok (.sipush 201, 3) := by decide +kernel
theorem dX1_init_17 : decode cX1_init 17 = .ok (.newarray .int, 2) := by decide +kernel
theorem dX1_init_19 : decode cX1_init 19 = .ok (.putfield 15, 3) := by decide +kernel
theorem dX1_init_22 : decode cX1_init 22 = .ok (.return_, 1) := by decide +kernel
theorem dX1_rise_0 : decode cX1_rise 0 = .ok (.aload_n 0, 1) := by decide +kernel
theorem dX1_rise_1 : decode cX1_rise 1 = .ok (.getfield 18, 3) := by decide +kernel
theorem dX1_rise_4 : decode cX1_rise 4 = .ok (.sipush 200, 3) := by decide +kernel
theorem dX1_rise_7 : decode cX1_rise 7 = .ok (.if_icmp .lt 4, 3) := by decide +kernel
theorem dX1_rise_10 : decode cX1_rise 10 = .ok (.return_, 1) := by decide +kernel
theorem dX1_rise_11 : decode cX1_rise 11 = .ok (.aload_n 0, 1) := by decide +kernel
theorem dX1_rise_12 : decode cX1_rise 12 = .ok (.dup, 1) := by decide +kernel
theorem dX1_rise_13 : decode cX1_rise 13 = .ok (.getfield 18, 3) := by decide +kernel
theorem dX1_rise_16 : decode cX1_rise 16 = .ok (.iconst 1, 1) := by decide +kernel
theorem dX1_rise_17 : decode cX1_rise 17 = .ok (.iadd, 1) := by decide +kernel
theorem dX1_rise_18 : decode cX1_rise 18 = .ok (.putfield 18, 3) := by decide +kernel
theorem dX1_rise_21 : decode cX1_rise 21 = .ok (.aload_n 0, 1) := by decide +kernel
theorem dX1_rise_22 : decode cX1_rise 22 = .ok (.getfield 9, 3) := by decide +kernel
theorem dX1_rise_25 : decode cX1_rise 25 = .ok (.aload_n 0, 1) := by decide +kernel
theorem dX1_rise_26 : decode cX1_rise 26 = .ok (.getfield 18, 3) := by decide +kernel
theorem dX1_rise_29 : decode cX1_rise 29 = .ok (.iload_n 1, 1) := by decide +kernel
theorem dX1_rise_30 : decode cX1_rise 30 = .ok (.iastore, 1) := by decide +kernel
theorem dX1_rise_31 : decode cX1_rise 31 = .ok (.aload_n 0, 1) := by decide +kernel
theorem dX1_rise_32 : decode cX1_rise 32 = .ok (.getfield 15, 3) := by decide +kernel
theorem dX1_rise_35 : decode cX1_rise 35 = .ok (.aload_n 0, 1) := by decide +kernel
theorem dX1_rise_36 : decode cX1_rise 36 = .ok (.getfield 18, 3) := by decide +kernel
theorem dX1_rise_39 : decode cX1_rise 39 = .ok (.iconst (-1), 1) := by decide +kernel
theorem dX1_rise_40 : decode cX1_rise 40 = .ok (.iastore, 1) := by decide +kernel
theorem dX1_rise_41 : decode cX1_rise 41 = .ok (.return_, 1) := by decide +kernel
theorem dX1_fallTo_0 : decode cX1_fallTo 0 = .ok (.aload_n 0, 1) := by decide +kernel
theorem dX1_fallTo_1 : decode cX1_fallTo 1 = .ok (.iload_n 1, 1) := by decide +kernel
theorem dX1_fallTo_2 : decode cX1_fallTo 2 = .ok (.putfield 18, 3) := by decide +kernel
theorem dX1_fallTo_5 : decode cX1_fallTo 5 = .ok (.return_, 1) := by decide +kernel
theorem dX1_isGone_0 : decode cX1_isGone 0 = .ok (.aload_n 0, 1) := by decide +kernel
theorem dX1_isGone_1 : decode cX1_isGone 1 = .ok (.getfield 15, 3) := by decide +kernel
theorem dX1_isGone_4 : decode cX1_isGone 4 = .ok (.iload_n 1, 1) := by decide +kernel
theorem dX1_isGone_5 : decode cX1_isGone 5 = .ok (.iaload, 1) := by decide +kernel
theorem dX1_isGone_6 : decode cX1_isGone 6 = .ok (.iconst (-1), 1) := by decide +kernel
theorem dX1_isGone_7 : decode cX1_isGone 7 = .ok (.if_icmp .eq 7, 3) := by decide +kernel
theorem dX1_isGone_10 : decode cX1_isGone 10 = .ok (.iconst 1, 1) := by decide +kernel
theorem dX1_isGone_11 : decode cX1_isGone 11 = .ok (.goto 4, 3) := by decide +kernel
theorem dX1_isGone_14 : decode cX1_isGone 14 = .ok (.iconst 0, 1) := by decide +kernel
theorem dX1_isGone_15 : decode cX1_isGone 15 = .ok (.ireturn, 1) := by decide +kernel
theorem dX1_isPrunable_0 : decode cX1_isPrunable 0 = .ok (.iload_n 2, 1) := by decide +kernel
theorem dX1_isPrunable_1 : decode cX1_isPrunable 1 = .ok (.ifCond .le 13, 3) := by decide +kernel
theorem dX1_isPrunable_4 : decode cX1_isPrunable 4 = .ok (.iload_n 1, 1) := by decide +kernel
theorem dX1_isPrunable_5 : decode cX1_isPrunable 5 = .ok (.iload_n 2, 1) := by decide +kernel
theorem dX1_isPrunable_6 : decode cX1_isPrunable 6 = .ok (.irem, 1) := by decide +kernel
theorem dX1_isPrunable_7 : decode cX1_isPrunable 7 = .ok (.ifCond .ne 7, 3) := by decide +kernel
theorem dX1_isPrunable_10 : decode cX1_isPrunable 10 = .ok (.iconst 1, 1) := by decide +kernel
theorem dX1_isPrunable_11 : decode cX1_isPrunable 11 = .ok (.goto 4, 3) := by decide +kernel
theorem dX1_isPrunable_14 : decode cX1_isPrunable 14 = .ok (.iconst 0, 1) := by decide +kernel
theorem dX1_isPrunable_15 : decode cX1_isPrunable 15 = .ok (.istore_n 3, 1) := by decide +kernel
theorem dX1_isPrunable_16 : decode cX1_isPrunable 16 = .ok (.iload_n 3, 1) := by decide +kernel
theorem dX1_isPrunable_17 : decode cX1_isPrunable 17 = .ok (.ifCond .ne 15, 3) := by decide +kernel
theorem dX1_isPrunable_20 : decode cX1_isPrunable 20 = .ok (.aload_n 0, 1) := by decide +kernel
theorem dX1_isPrunable_21 : decode cX1_isPrunable 21 = .ok (.iload_n 1, 1) := by decide +kernel
theorem dX1_isPrunable_22 : decode cX1_isPrunable 22 = .ok (.invokevirtual 22, 3) := by decide +kernel
theorem dX1_isPrunable_25 : decode cX1_isPrunable 25 = .ok (.ifCond .ne 7, 3) := by decide +kernel
theorem dX1_isPrunable_28 : decode cX1_isPrunable 28 = .ok (.iconst 1, 1) := by decide +kernel
theorem dX1_isPrunable_29 : decode cX1_isPrunable 29 = .ok (.goto 4, 3) := by decide +kernel
theorem dX1_isPrunable_32 : decode cX1_isPrunable 32 = .ok (.iconst 0, 1) := by decide +kernel
theorem dX1_isPrunable_33 : decode cX1_isPrunable 33 = .ok (.ireturn, 1) := by decide +kernel
theorem dX1_countPrunable_0 : decode cX1_countPrunable 0 = .ok (.iconst 0, 1) := by decide +kernel
theorem dX1_countPrunable_1 : decode cX1_countPrunable 1 = .ok (.istore_n 3, 1) := by decide +kernel
theorem dX1_countPrunable_2 : decode cX1_countPrunable 2 = .ok (.iconst 0, 1) := by decide +kernel
theorem dX1_countPrunable_3 : decode cX1_countPrunable 3 = .ok (.istore 4, 2) := by decide +kernel
theorem dX1_countPrunable_5 : decode cX1_countPrunable 5 = .ok (.iload 4, 2) := by decide +kernel
theorem dX1_countPrunable_7 : decode cX1_countPrunable 7 = .ok (.iload_n 1, 1) := by decide +kernel
theorem dX1_countPrunable_8 : decode cX1_countPrunable 8 = .ok (.if_icmp .ge 22, 3) := by decide +kernel
theorem dX1_countPrunable_11 : decode cX1_countPrunable 11 = .ok (.aload_n 0, 1) := by decide +kernel
theorem dX1_countPrunable_12 : decode cX1_countPrunable 12 = .ok (.iload 4, 2) := by decide +kernel
theorem dX1_countPrunable_14 : decode cX1_countPrunable 14 = .ok (.iload_n 2, 1) := by decide +kernel
theorem dX1_countPrunable_15 : decode cX1_countPrunable 15 = .ok (.invokevirtual 26, 3) := by decide +kernel
theorem dX1_countPrunable_18 : decode cX1_countPrunable 18 = .ok (.ifCond .eq 6, 3) := by decide +kernel
theorem dX1_countPrunable_21 : decode cX1_countPrunable 21 = .ok (.iinc 3 1, 3) := by decide +kernel
theorem dX1_countPrunable_24 : decode cX1_countPrunable 24 = .ok (.iinc 4 1, 3) := by decide +kernel
theorem dX1_countPrunable_27 : decode cX1_countPrunable 27 = .ok (.goto (-22), 3) := by decide +kernel
theorem dX1_countPrunable_30 : decode cX1_countPrunable 30 = .ok (.iload_n 3, 1) := by decide +kernel
theorem dX1_countPrunable_31 : decode cX1_countPrunable 31 = .ok (.ireturn, 1) := by decide +kernel
theorem dX1_moveTo_0 : decode cX1_moveTo 0 = .ok (.iconst 0, 1) := by decide +kernel
theorem dX1_moveTo_1 : decode cX1_moveTo 1 = .ok (.istore 4, 2) := by decide +kernel
theorem dX1_moveTo_3 : decode cX1_moveTo 3 = .ok (.iload 4, 2) := by decide +kernel
theorem dX1_moveTo_5 : decode cX1_moveTo 5 = .ok (.iload_n 2, 1) := by decide +kernel
theorem dX1_moveTo_6 : decode cX1_moveTo 6 = .ok (.if_icmp .ge 27, 3) := by decide +kernel
theorem dX1_moveTo_9 : decode cX1_moveTo 9 = .ok (.aload_n 0, 1) := by decide +kernel
theorem dX1_moveTo_10 : decode cX1_moveTo 10 = .ok (.iload 4, 2) := by decide +kernel
theorem dX1_moveTo_12 : decode cX1_moveTo 12 = .ok (.iload_n 3, 1) := by decide +kernel
theorem dX1_moveTo_13 : decode cX1_moveTo 13 = .ok (.invokevirtual 26, 3) := by decide +kernel
theorem dX1_moveTo_16 : decode cX1_moveTo 16 = .ok (.ifCond .eq 11, 3) := by decide +kernel
theorem dX1_moveTo_19 : decode cX1_moveTo 19 = .ok (.aload_n 0, 1) := by decide +kernel
theorem dX1_moveTo_20 : decode cX1_moveTo 20 = .ok (.getfield 15, 3) := by decide +kernel
theorem dX1_moveTo_23 : decode cX1_moveTo 23 = .ok (.iload 4, 2) := by decide +kernel
theorem dX1_moveTo_25 : decode cX1_moveTo 25 = .ok (.iload_n 1, 1) := by decide +kernel
theorem dX1_moveTo_26 : decode cX1_moveTo 26 = .ok (.iastore, 1) := by decide +kernel
theorem dX1_moveTo_27 : decode cX1_moveTo 27 = .ok (.iinc 4 1, 3) := by decide +kernel
theorem dX1_moveTo_30 : decode cX1_moveTo 30 = .ok (.goto (-27), 3) := by decide +kernel
theorem dX1_moveTo_33 : decode cX1_moveTo 33 = .ok (.return_, 1) := by decide +kernel
theorem dX1_relabel_0 : decode cX1_relabel 0 = .ok (.iconst 0, 1) := by decide +kernel
theorem dX1_relabel_1 : decode cX1_relabel 1 = .ok (.istore_n 3, 1) := by decide +kernel
theorem dX1_relabel_2 : decode cX1_relabel 2 = .ok (.iload_n 3, 1) := by decide +kernel
theorem dX1_relabel_3 : decode cX1_relabel 3 = .ok (.aload_n 0, 1) := by decide +kernel
theorem dX1_relabel_4 : decode cX1_relabel 4 = .ok (.getfield 18, 3) := by decide +kernel
theorem dX1_relabel_7 : decode cX1_relabel 7 = .ok (.if_icmp .gt 26, 3) := by decide +kernel
theorem dX1_relabel_10 : decode cX1_relabel 10 = .ok (.aload_n 0, 1) := by decide +kernel
theorem dX1_relabel_11 : decode cX1_relabel 11 = .ok (.getfield 15, 3) := by decide +kernel
theorem dX1_relabel_14 : decode cX1_relabel 14 = .ok (.iload_n 3, 1) := by decide +kernel
theorem dX1_relabel_15 : decode cX1_relabel 15 = .ok (.iaload, 1) := by decide +kernel
theorem dX1_relabel_16 : decode cX1_relabel 16 = .ok (.iload_n 1, 1) := by decide +kernel
theorem dX1_relabel_17 : decode cX1_relabel 17 = .ok (.if_icmp .ne 10, 3) := by decide +kernel
theorem dX1_relabel_20 : decode cX1_relabel 20 = .ok (.aload_n 0, 1) := by decide +kernel
theorem dX1_relabel_21 : decode cX1_relabel 21 = .ok (.getfield 15, 3) := by decide +kernel
theorem dX1_relabel_24 : decode cX1_relabel 24 = .ok (.iload_n 3, 1) := by decide +kernel
theorem dX1_relabel_25 : decode cX1_relabel 25 = .ok (.iload_n 2, 1) := by decide +kernel
theorem dX1_relabel_26 : decode cX1_relabel 26 = .ok (.iastore, 1) := by decide +kernel
theorem dX1_relabel_27 : decode cX1_relabel 27 = .ok (.iinc 3 1, 3) := by decide +kernel
theorem dX1_relabel_30 : decode cX1_relabel 30 = .ok (.goto (-28), 3) := by decide +kernel
theorem dX1_relabel_33 : decode cX1_relabel 33 = .ok (.return_, 1) := by decide +kernel
theorem dX1_countIn_0 : decode cX1_countIn 0 = .ok (.iconst 0, 1) := by decide +kernel
theorem dX1_countIn_1 : decode cX1_countIn 1 = .ok (.istore_n 2, 1) := by decide +kernel
theorem dX1_countIn_2 : decode cX1_countIn 2 = .ok (.iconst 0, 1) := by decide +kernel
theorem dX1_countIn_3 : decode cX1_countIn 3 = .ok (.istore_n 3, 1) := by decide +kernel
theorem dX1_countIn_4 : decode cX1_countIn 4 = .ok (.iload_n 3, 1) := by decide +kernel
theorem dX1_countIn_5 : decode cX1_countIn 5 = .ok (.aload_n 0, 1) := by decide +kernel
theorem dX1_countIn_6 : decode cX1_countIn 6 = .ok (.getfield 18, 3) := by decide +kernel
theorem dX1_countIn_9 : decode cX1_countIn 9 = .ok (.if_icmp .gt 22, 3) := by decide +kernel
theorem dX1_countIn_12 : decode cX1_countIn 12 = .ok (.aload_n 0, 1) := by decide +kernel
theorem dX1_countIn_13 : decode cX1_countIn 13 = .ok (.getfield 15, 3) := by decide +kernel
theorem dX1_countIn_16 : decode cX1_countIn 16 = .ok (.iload_n 3, 1) := by decide +kernel
theorem dX1_countIn_17 : decode cX1_countIn 17 = .ok (.iaload, 1) := by decide +kernel
theorem dX1_countIn_18 : decode cX1_countIn 18 = .ok (.iload_n 1, 1) := by decide +kernel
theorem dX1_countIn_19 : decode cX1_countIn 19 = .ok (.if_icmp .ne 6, 3) := by decide +kernel
theorem dX1_countIn_22 : decode cX1_countIn 22 = .ok (.iinc 2 1, 3) := by decide +kernel
theorem dX1_countIn_25 : decode cX1_countIn 25 = .ok (.iinc 3 1, 3) := by decide +kernel
theorem dX1_countIn_28 : decode cX1_countIn 28 = .ok (.goto (-24), 3) := by decide +kernel
theorem dX1_countIn_31 : decode cX1_countIn 31 = .ok (.iload_n 2, 1) := by decide +kernel
theorem dX1_countIn_32 : decode cX1_countIn 32 = .ok (.ireturn, 1) := by decide +kernel
theorem dX1_keepsAny_0 : decode cX1_keepsAny 0 = .ok (.iload_n 1, 1) := by decide +kernel
theorem dX1_keepsAny_1 : decode cX1_keepsAny 1 = .ok (.istore_n 3, 1) := by decide +kernel
theorem dX1_keepsAny_2 : decode cX1_keepsAny 2 = .ok (.iload_n 3, 1) := by decide +kernel
theorem dX1_keepsAny_3 : decode cX1_keepsAny 3 = .ok (.iload_n 2, 1) := by decide +kernel
theorem dX1_keepsAny_4 : decode cX1_keepsAny 4 = .ok (.if_icmp .ge 19, 3) := by decide +kernel
theorem dX1_keepsAny_7 : decode cX1_keepsAny 7 = .ok (.aload_n 0, 1) := by decide +kernel
theorem dX1_keepsAny_8 : decode cX1_keepsAny 8 = .ok (.iload_n 3, 1) := by decide +kernel
theorem dX1_keepsAny_9 : decode cX1_keepsAny 9 = .ok (.invokevirtual 22, 3) := by decide +kernel
theorem dX1_keepsAny_12 : decode cX1_keepsAny 12 = .ok (.ifCond .ne 5, 3) := by decide +kernel
theorem dX1_keepsAny_15 : decode cX1_keepsAny 15 = .ok (.iconst 1, 1) := by decide +kernel
theorem dX1_keepsAny_16 : decode cX1_keepsAny 16 = .ok (.ireturn, 1) := by decide +kernel
theorem dX1_keepsAny_17 : decode cX1_keepsAny 17 = .ok (.iinc 3 1, 3) := by decide +kernel
theorem dX1_keepsAny_20 : decode cX1_keepsAny 20 = .ok (.goto (-18), 3) := by decide +kernel
theorem dX1_keepsAny_23 : decode cX1_keepsAny 23 = .ok (.iconst 0, 1) := by decide +kernel
theorem dX1_keepsAny_24 : decode cX1_keepsAny 24 = .ok (.ireturn, 1) := by decide +kernel
theorem dX2_init_0 : decode cX2_init 0 = .ok (.aload_n 0, 1) := by decide +kernel
theorem dX2_init_1 : decode cX2_init 1 = .ok (.invokespecial 3, 3) := by decide +kernel
theorem dX2_init_4 : decode cX2_init 4 = .ok (.aload_n 0, 1) := by decide +kernel
theorem dX2_init_5 : decode cX2_init 5 = .ok (.sipush 400, 3) := by decide +kernel
theorem dX2_init_8 : decode cX2_init 8 = .ok (.newarray .int, 2) := by decide +kernel
theorem dX2_init_10 : decode cX2_init 10 = .ok (.putfield 9, 3) := by decide +kernel
theorem dX2_init_13 : decode cX2_init 13 = .ok (.aload_n 0, 1) := by decide +kernel
theorem dX2_init_14 : decode cX2_init 14 = .ok (.sipush 400, 3) := by decide +kernel
theorem dX2_init_17 : decode cX2_init 17 = .ok (.newarray .int, 2) := by decide +kernel
theorem dX2_init_19 : decode cX2_init 19 = .ok (.putfield 15, 3) := by decide +kernel
theorem dX2_init_22 : decode cX2_init 22 = .ok (.aload_n 0, 1) := by decide +kernel
theorem dX2_init_23 : decode cX2_init 23 = .ok (.sipush 400, 3) := by decide +kernel
theorem dX2_init_26 : decode cX2_init 26 = .ok (.newarray .int, 2) := by decide +kernel
theorem dX2_init_28 : decode cX2_init 28 = .ok (.putfield 18, 3) := by decide +kernel
theorem dX2_init_31 : decode cX2_init 31 = .ok (.aload_n 0, 1) := by decide +kernel
theorem dX2_init_32 : decode cX2_init 32 = .ok (.sipush 400, 3) := by decide +kernel
theorem dX2_init_35 : decode cX2_init 35 = .ok (.newarray .int, 2) := by decide +kernel
theorem dX2_init_37 : decode cX2_init 37 = .ok (.putfield 21, 3) := by decide +kernel
theorem dX2_init_40 : decode cX2_init 40 = .ok (.aload_n 0, 1) := by decide +kernel
theorem dX2_init_41 : decode cX2_init 41 = .ok (.sipush 400, 3) := by decide +kernel
theorem dX2_init_44 : decode cX2_init 44 = .ok (.newarray .int, 2) := by decide +kernel
theorem dX2_init_46 : decode cX2_init 46 = .ok (.putfield 24, 3) := by decide +kernel
theorem dX2_init_49 : decode cX2_init 49 = .ok (.aload_n 0, 1) := by decide +kernel
theorem dX2_init_50 : decode cX2_init 50 = .ok (.bipush 32, 2) := by decide +kernel
theorem dX2_init_52 : decode cX2_init 52 = .ok (.newarray .int, 2) := by decide +kernel
theorem dX2_init_54 : decode cX2_init 54 = .ok (.putfield 27, 3) := by decide +kernel
theorem dX2_init_57 : decode cX2_init 57 = .ok (.return_, 1) := by decide +kernel
theorem dX2_add_0 : decode cX2_add 0 = .ok (.aload_n 0, 1) := by decide +kernel
theorem dX2_add_1 : decode cX2_add 1 = .ok (.getfield 30, 3) := by decide +kernel
theorem dX2_add_4 : decode cX2_add 4 = .ok (.sipush 400, 3) := by decide +kernel
theorem dX2_add_7 : decode cX2_add 7 = .ok (.if_icmp .lt 4, 3) := by decide +kernel
theorem dX2_add_10 : decode cX2_add 10 = .ok (.return_, 1) := by decide +kernel
theorem dX2_add_11 : decode cX2_add 11 = .ok (.aload_n 0, 1) := by decide +kernel
theorem dX2_add_12 : decode cX2_add 12 = .ok (.getfield 9, 3) := by decide +kernel
theorem dX2_add_15 : decode cX2_add 15 = .ok (.aload_n 0, 1) := by decide +kernel
theorem dX2_add_16 : decode cX2_add 16 = .ok (.getfield 30, 3) := by decide +kernel
theorem dX2_add_19 : decode cX2_add 19 = .ok (.iload_n 1, 1) := by decide +kernel
theorem dX2_add_20 : decode cX2_add 20 = .ok (.iastore, 1) := by decide +kernel
theorem dX2_add_21 : decode cX2_add 21 = .ok (.aload_n 0, 1) := by decide +kernel
theorem dX2_add_22 : decode cX2_add 22 = .ok (.getfield 15, 3) := by decide +kernel
theorem dX2_add_25 : decode cX2_add 25 = .ok (.aload_n 0, 1) := by decide +kernel
theorem dX2_add_26 : decode cX2_add 26 = .ok (.getfield 30, 3) := by decide +kernel
theorem dX2_add_29 : decode cX2_add 29 = .ok (.iload_n 2, 1) := by decide +kernel
theorem dX2_add_30 : decode cX2_add 30 = .ok (.iastore, 1) := by decide +kernel
theorem dX2_add_31 : decode cX2_add 31 = .ok (.aload_n 0, 1) := by decide +kernel
theorem dX2_add_32 : decode cX2_add 32 = .ok (.getfield 18, 3) := by decide +kernel
theorem dX2_add_35 : decode cX2_add 35 = .ok (.aload_n 0, 1) := by decide +kernel
theorem dX2_add_36 : decode cX2_add 36 = .ok (.getfield 30, 3) := by decide +kernel
theorem dX2_add_39 : decode cX2_add 39 = .ok (.iload_n 3, 1) := by decide +kernel
theorem dX2_add_40 : decode cX2_add 40 = .ok (.iastore, 1) := by decide +kernel
theorem dX2_add_41 : decode cX2_add 41 = .ok (.aload_n 0, 1) := by decide +kernel
theorem dX2_add_42 : decode cX2_add 42 = .ok (.getfield 21, 3) := by decide +kernel
theorem dX2_add_45 : decode cX2_add 45 = .ok (.aload_n 0, 1) := by decide +kernel
theorem dX2_add_46 : decode cX2_add 46 = .ok (.getfield 30, 3) := by decide +kernel
theorem dX2_add_49 : decode cX2_add 49 = .ok (.iload 4, 2) := by decide +kernel
theorem dX2_add_51 : decode cX2_add 51 = .ok (.iastore, 1) := by decide +kernel
theorem dX2_add_52 : decode cX2_add 52 = .ok (.aload_n 0, 1) := by decide +kernel
theorem dX2_add_53 : decode cX2_add 53 = .ok (.getfield 24, 3) := by decide +kernel
theorem dX2_add_56 : decode cX2_add 56 = .ok (.aload_n 0, 1) := by decide +kernel
theorem dX2_add_57 : decode cX2_add 57 = .ok (.getfield 30, 3) := by decide +kernel
theorem dX2_add_60 : decode cX2_add 60 = .ok (.iconst (-1), 1) := by decide +kernel
theorem dX2_add_61 : decode cX2_add 61 = .ok (.iastore, 1) := by decide +kernel
theorem dX2_add_62 : decode cX2_add 62 = .ok (.aload_n 0, 1) := by decide +kernel
theorem dX2_add_63 : decode cX2_add 63 = .ok (.dup, 1) := by decide +kernel
theorem dX2_add_64 : decode cX2_add 64 = .ok (.getfield 30, 3) := by decide +kernel
theorem dX2_add_67 : decode cX2_add 67 = .ok (.iconst 1, 1) := by decide +kernel
theorem dX2_add_68 : decode cX2_add 68 = .ok (.iadd, 1) := by decide +kernel
theorem dX2_add_69 : decode cX2_add 69 = .ok (.putfield 30, 3) := by decide +kernel
theorem dX2_add_72 : decode cX2_add 72 = .ok (.return_, 1) := by decide +kernel
theorem dX2_isOf_0 : decode cX2_isOf 0 = .ok (.aload_n 0, 1) := by decide +kernel
theorem dX2_isOf_1 : decode cX2_isOf 1 = .ok (.getfield 15, 3) := by decide +kernel
theorem dX2_isOf_4 : decode cX2_isOf 4 = .ok (.iload_n 1, 1) := by decide +kernel
theorem dX2_isOf_5 : decode cX2_isOf 5 = .ok (.iaload, 1) := by decide +kernel
theorem dX2_isOf_6 : decode cX2_isOf 6 = .ok (.iload_n 2, 1) := by decide +kernel
theorem dX2_isOf_7 : decode cX2_isOf 7 = .ok (.if_icmp .ne 17, 3) := by decide +kernel
theorem dX2_isOf_10 : decode cX2_isOf 10 = .ok (.aload_n 0, 1) := by decide +kernel
theorem dX2_isOf_11 : decode cX2_isOf 11 = .ok (.getfield 24, 3) := by decide +kernel
theorem dX2_isOf_14 : decode cX2_isOf 14 = .ok (.iload_n 1, 1) := by decide +kernel
theorem dX2_isOf_15 : decode cX2_isOf 15 = .ok (.iaload, 1) := by decide +kernel
theorem dX2_isOf_16 : decode cX2_isOf 16 = .ok (.iconst (-1), 1) := by decide +kernel
theorem dX2_isOf_17 : decode cX2_isOf 17 = .ok (.if_icmp .ne 7, 3) := by decide +kernel
theorem dX2_isOf_20 : decode cX2_isOf 20 = .ok (.iconst 1, 1) := by decide +kernel
theorem dX2_isOf_21 : decode cX2_isOf 21 = .ok (.goto 4, 3) := by decide +kernel
theorem dX2_isOf_24 : decode cX2_isOf 24 = .ok (.iconst 0, 1) := by decide +kernel
theorem dX2_isOf_25 : decode cX2_isOf 25 = .ok (.ireturn, 1) := by decide +kernel
theorem dX2_lastOf_0 : decode cX2_lastOf 0 = .ok (.aload_n 0, 1) := by decide +kernel
theorem dX2_lastOf_1 : decode cX2_lastOf 1 = .ok (.getfield 30, 3) := by decide +kernel
theorem dX2_lastOf_4 : decode cX2_lastOf 4 = .ok (.iconst 1, 1) := by decide +kernel
theorem dX2_lastOf_5 : decode cX2_lastOf 5 = .ok (.isub, 1) := by decide +kernel
theorem dX2_lastOf_6 : decode cX2_lastOf 6 = .ok (.istore_n 3, 1) := by decide +kernel
theorem dX2_lastOf_7 : decode cX2_lastOf 7 = .ok (.iload_n 3, 1) := by decide +kernel
theorem dX2_lastOf_8 : decode cX2_lastOf 8 = .ok (.ifCond .lt 30, 3) := by decide +kernel
theorem dX2_lastOf_11 : decode cX2_lastOf 11 = .ok (.aload_n 0, 1) := by decide +kernel
theorem dX2_lastOf_12 : decode cX2_lastOf 12 = .ok (.getfield 9, 3) := by decide +kernel
theorem dX2_lastOf_15 : decode cX2_lastOf 15 = .ok (.iload_n 3, 1) := by decide +kernel
theorem dX2_lastOf_16 : decode cX2_lastOf 16 = .ok (.iaload, 1) := by decide +kernel
theorem dX2_lastOf_17 : decode cX2_lastOf 17 = .ok (.iload_n 2, 1) := by decide +kernel
theorem dX2_lastOf_18 : decode cX2_lastOf 18 = .ok (.if_icmp .gt 14, 3) := by decide +kernel
theorem dX2_lastOf_21 : decode cX2_lastOf 21 = .ok (.aload_n 0, 1) := by decide +kernel
theorem dX2_lastOf_22 : decode cX2_lastOf 22 = .ok (.iload_n 3, 1) := by decide +kernel
theorem dX2_lastOf_23 : decode cX2_lastOf 23 = .ok (.iload_n 1, 1) := by decide +kernel
theorem dX2_lastOf_24 : decode cX2_lastOf 24 = .ok (.invokevirtual 34, 3) := by decide +kernel
theorem dX2_lastOf_27 : decode cX2_lastOf 27 = .ok (.ifCond .eq 5, 3) := by decide +kernel
theorem dX2_lastOf_30 : decode cX2_lastOf 30 = .ok (.iload_n 3, 1) := by decide +kernel
theorem dX2_lastOf_31 : decode cX2_lastOf 31 = .ok (.ireturn, 1) := by decide +kernel
theorem dX2_lastOf_32 : decode cX2_lastOf 32 = .ok (.iinc 3 (-1), 3) := by decide +kernel
theorem dX2_lastOf_35 : decode cX2_lastOf 35 = .ok (.goto (-28), 3) := by decide +kernel
theorem dX2_lastOf_38 : decode cX2_lastOf 38 = .ok (.iconst (-1), 1) := by decide +kernel
theorem dX2_lastOf_39 : decode cX2_lastOf 39 = .ok (.ireturn, 1) := by decide +kernel
theorem dX2_find_0 : decode cX2_find 0 = .ok (.iconst 0, 1) := by decide +kernel
theorem dX2_find_1 : decode cX2_find 1 = .ok (.istore_n 3, 1) := by decide +kernel
theorem dX2_find_2 : decode cX2_find 2 = .ok (.iconst 0, 1) := by decide +kernel
theorem dX2_find_3 : decode cX2_find 3 = .ok (.istore 4, 2) := by decide +kernel
theorem dX2_find_5 : decode cX2_find 5 = .ok (.iload 4, 2) := by decide +kernel
theorem dX2_find_7 : decode cX2_find 7 = .ok (.aload_n 0, 1) := by decide +kernel
theorem dX2_find_8 : decode cX2_find 8 = .ok (.getfield 30, 3) := by decide +kernel
theorem dX2_find_11 : decode cX2_find 11 = .ok (.if_icmp .ge 33, 3) := by decide +kernel
theorem dX2_find_14 : decode cX2_find 14 = .ok (.aload_n 0, 1) := by decide +kernel
theorem dX2_find_15 : decode cX2_find 15 = .ok (.iload 4, 2) := by decide +kernel
theorem dX2_find_17 : decode cX2_find 17 = .ok (.iload_n 1, 1) := by decide +kernel
theorem dX2_find_18 : decode cX2_find 18 = .ok (.invokevirtual 34, 3) := by decide +kernel
theorem dX2_find_21 : decode cX2_find 21 = .ok (.ifCond .ne 6, 3) := by decide +kernel
theorem dX2_find_24 : decode cX2_find 24 = .ok (.goto 14, 3) := by decide +kernel
theorem dX2_find_27 : decode cX2_find 27 = .ok (.iload_n 3, 1) := by decide +kernel
theorem dX2_find_28 : decode cX2_find 28 = .ok (.iload_n 2, 1) := by decide +kernel
theorem dX2_find_29 : decode cX2_find 29 = .ok (.if_icmp .ne 6, 3) := by decide +kernel
theorem dX2_find_32 : decode cX2_find 32 = .ok (.iload 4, 2) := by decide +kernel
theorem dX2_find_34 : decode cX2_find 34 = .ok (.ireturn, 1) := by decide +kernel
theorem dX2_find_35 : decode cX2_find 35 = .ok (.iinc 3 1, 3) := by decide +kernel
theorem dX2_find_38 : decode cX2_find 38 = .ok (.iinc 4 1, 3) := by decide +kernel
theorem dX2_find_41 : decode cX2_find 41 = .ok (.goto (-36), 3) := by decide +kernel
theorem dX2_find_44 : decode cX2_find 44 = .ok (.iconst (-1), 1) := by decide +kernel
theorem dX2_find_45 : decode cX2_find 45 = .ok (.ireturn, 1) := by decide +kernel
theorem dX2_load_0 : decode cX2_load 0 = .ok (.aload_n 2, 1) := by decide +kernel
theorem dX2_load_1 : decode cX2_load 1 = .ok (.iconst 0, 1) := by decide +kernel
theorem dX2_load_2 : decode cX2_load 2 = .ok (.invokestatic 38, 3) := by decide +kernel
theorem dX2_load_5 : decode cX2_load 5 = .ok (.aload_n 0, 1) := by decide +kernel
theorem dX2_load_6 : decode cX2_load 6 = .ok (.iconst 0, 1) := by decide +kernel
theorem dX2_load_7 : decode cX2_load 7 = .ok (.iload_n 1, 1) := by decide +kernel
theorem dX2_load_8 : decode cX2_load 8 = .ok (.aload_n 2, 1) := by decide +kernel
theorem dX2_load_9 : decode cX2_load 9 = .ok (.invokevirtual 44, 3) := by decide +kernel
theorem dX2_load_12 : decode cX2_load 12 = .ok (.pop, 1) := by decide +kernel
theorem dX2_load_13 : decode cX2_load 13 = .ok (.return_, 1) := by decide +kernel
theorem dX2_redo_0 : decode cX2_redo 0 = .ok (.iconst 0, 1) := by decide +kernel
theorem dX2_redo_1 : decode cX2_redo 1 = .ok (.istore 4, 2) := by decide +kernel
theorem dX2_redo_3 : decode cX2_redo 3 = .ok (.iconst 0, 1) := by decide +kernel
theorem dX2_redo_4 : decode cX2_redo 4 = .ok (.istore 5, 2) := by decide +kernel
theorem dX2_redo_6 : decode cX2_redo 6 = .ok (.iload 5, 2) := by decide +kernel
theorem dX2_redo_8 : decode cX2_redo 8 = .ok (.aload_n 0, 1) := by decide +kernel
theorem dX2_redo_9 : decode cX2_redo 9 = .ok (.getfield 30, 3) := by decide +kernel
theorem dX2_redo_12 : decode cX2_redo 12 = .ok (.if_icmp .ge 64, 3) := by decide +kernel
theorem dX2_redo_15 : decode cX2_redo 15 = .ok (.aload_n 0, 1) := by decide +kernel
theorem dX2_redo_16 : decode cX2_redo 16 = .ok (.getfield 9, 3) := by decide +kernel
theorem dX2_redo_19 : decode cX2_redo 19 = .ok (.iload 5, 2) := by decide +kernel
theorem dX2_redo_21 : decode cX2_redo 21 = .ok (.iaload, 1) := by decide +kernel
theorem dX2_redo_22 : decode cX2_redo 22 = .ok (.iload_n 2, 1) := by decide +kernel
theorem dX2_redo_23 : decode cX2_redo 23 = .ok (.if_icmp .gt 53, 3) := by decide +kernel
theorem dX2_redo_26 : decode cX2_redo 26 = .ok (.aload_n 0, 1) := by decide +kernel
theorem dX2_redo_27 : decode cX2_redo 27 = .ok (.getfield 9, 3) := by decide +kernel
theorem dX2_redo_30 : decode cX2_redo 30 = .ok (.iload 5, 2) := by decide +kernel
theorem dX2_redo_32 : decode cX2_redo 32 = .ok (.iaload, 1) := by decide +kernel
theorem dX2_redo_33 : decode cX2_redo 33 = .ok (.iload_n 1, 1) := by decide +kernel
theorem dX2_redo_34 : decode cX2_redo 34 = .ok (.if_icmp .le 36, 3) := by decide +kernel
theorem dX2_redo_37 : decode cX2_redo 37 = .ok (.aload_n 0, 1) := by decide +kernel
theorem dX2_redo_38 : decode cX2_redo 38 = .ok (.getfield 24, 3) := by decide +kernel
theorem dX2_redo_41 : decode cX2_redo 41 = .ok (.iload 5, 2) := by decide +kernel
theorem dX2_redo_43 : decode cX2_redo 43 = .ok (.iaload, 1) := by decide +kernel
theorem dX2_redo_44 : decode cX2_redo 44 = .ok (.iconst (-1), 1) := by decide +kernel
theorem dX2_redo_45 : decode cX2_redo 45 = .ok (.if_icmp .eq 6, 3) := by decide +kernel
theorem dX2_redo_48 : decode cX2_redo 48 = .ok (.goto 22, 3) := by decide +kernel
theorem dX2_redo_51 : decode cX2_redo 51 = .ok (.aload_n 3, 1) := by decide +kernel
theorem dX2_redo_52 : decode cX2_redo 52 = .ok (.aload_n 0, 1) := by decide +kernel
theorem dX2_redo_53 : decode cX2_redo 53 = .ok (.getfield 15, 3) := by decide +kernel
theorem dX2_redo_56 : decode cX2_redo 56 = .ok (.iload 5, 2) := by decide +kernel
theorem dX2_redo_58 : decode cX2_redo 58 = .ok (.iaload, 1) := by decide +kernel
theorem dX2_redo_59 : decode cX2_redo 59 = .ok (.aload_n 0, 1) := by decide +kernel
theorem dX2_redo_60 : decode cX2_redo 60 = .ok (.getfield 18, 3) := by decide +kernel
theorem dX2_redo_63 : decode cX2_redo 63 = .ok (.iload 5, 2) := by decide +kernel
theorem dX2_redo_65 : decode cX2_redo 65 = .ok (.iaload, 1) := by decide +kernel
theorem dX2_redo_66 : decode cX2_redo 66 = .ok (.iastore, 1) := by decide +kernel
theorem dX2_redo_67 : decode cX2_redo 67 = .ok (.iinc 4 1, 3) := by decide +kernel
theorem dX2_redo_70 : decode cX2_redo 70 = .ok (.iinc 5 1, 3) := by decide +kernel
theorem dX2_redo_73 : decode cX2_redo 73 = .ok (.goto (-67), 3) := by decide +kernel
theorem dX2_redo_76 : decode cX2_redo 76 = .ok (.iload 4, 2) := by decide +kernel
theorem dX2_redo_78 : decode cX2_redo 78 = .ok (.ireturn, 1) := by decide +kernel
theorem dX2_moveUnneededTo_0 : decode cX2_moveUnneededTo 0 = .ok (.aload_n 0, 1) := by decide +kernel
theorem dX2_moveUnneededTo_1 : decode cX2_moveUnneededTo 1 = .ok (.getfield 27, 3) := by decide +kernel
theorem dX2_moveUnneededTo_4 : decode cX2_moveUnneededTo 4 = .ok (.aload_n 2, 1) := by decide +kernel
theorem dX2_moveUnneededTo_5 : decode cX2_moveUnneededTo 5 = .ok (.getfield 48, 3) := by decide +kernel
theorem dX2_moveUnneededTo_8 : decode cX2_moveUnneededTo 8 = .ok (.iconst 1, 1) := by decide +kernel
theorem dX2_moveUnneededTo_9 : decode cX2_moveUnneededTo 9 = .ok (.iadd, 1) := by decide +kernel
theorem dX2_moveUnneededTo_10 : decode cX2_moveUnneededTo 10 = .ok (.invokestatic 38, 3) := by decide +kernel
theorem dX2_moveUnneededTo_13 : decode cX2_moveUnneededTo 13 = .ok (.aload_n 0, 1) := by decide +kernel
theorem dX2_moveUnneededTo_14 : decode cX2_moveUnneededTo 14 = .ok (.getfield 30, 3) := by decide +kernel
theorem dX2_moveUnneededTo_17 : decode cX2_moveUnneededTo 17 = .ok (.iconst 1, 1) := by decide +kernel
theorem dX2_moveUnneededTo_18 : decode cX2_moveUnneededTo 18 = .ok (.isub, 1) := by decide +kernel
theorem dX2_moveUnneededTo_19 : decode cX2_moveUnneededTo 19 = .ok (.istore_n 3, 1) := by decide +kernel
theorem dX2_moveUnneededTo_20 : decode cX2_moveUnneededTo 20 = .ok (.iload_n 3, 1) := by decide +kernel
theorem dX2_moveUnneededTo_21 : decode cX2_moveUnneededTo 21 = .ok (.ifCond .lt 70, 3) := by decide +kernel
theorem dX2_moveUnneededTo_24 : decode cX2_moveUnneededTo 24 = .ok (.aload_n 0, 1) := by decide +kernel
theorem dX2_moveUnneededTo_25 : decode cX2_moveUnneededTo 25 = .ok (.getfield 24, 3) := by decide +kernel
theorem dX2_moveUnneededTo_28 : decode cX2_moveUnneededTo 28 = .ok (.iload_n 3, 1) := by decide +kernel
theorem dX2_moveUnneededTo_29 : decode cX2_moveUnneededTo 29 = .ok (.iaload, 1) := by decide +kernel
theorem dX2_moveUnneededTo_30 : decode cX2_moveUnneededTo 30 = .ok (.iconst (-1), 1) := by decide +kernel
theorem dX2_moveUnneededTo_31 : decode cX2_moveUnneededTo 31 = .ok (.if_icmp .eq 6, 3) := by decide +kernel
theorem dX2_moveUnneededTo_34 : decode cX2_moveUnneededTo 34 = .ok (.goto 51, 3) := by decide +kernel
theorem dX2_moveUnneededTo_37 : decode cX2_moveUnneededTo 37 = .ok (.aload_n 0, 1) := by decide +kernel
theorem dX2_moveUnneededTo_38 : decode cX2_moveUnneededTo 38 = .ok (.getfield 15, 3) := by decide +kernel
theorem dX2_moveUnneededTo_41 : decode cX2_moveUnneededTo 41 = .ok (.iload_n 3, 1) := by decide +kernel
theorem dX2_moveUnneededTo_42 : decode cX2_moveUnneededTo 42 = .ok (.iaload, 1) := by decide +kernel
theorem dX2_moveUnneededTo_43 : decode cX2_moveUnneededTo 43 = .ok (.istore 4, 2) := by decide +kernel
theorem dX2_moveUnneededTo_45 : decode cX2_moveUnneededTo 45 = .ok (.aload_n 2, 1) := by decide +kernel
theorem dX2_moveUnneededTo_46 : decode cX2_moveUnneededTo 46 = .ok (.aload_n 0, 1) := by decide +kernel
theorem dX2_moveUnneededTo_47 : decode cX2_moveUnneededTo 47 = .ok (.getfield 9, 3) := by decide +kernel
theorem dX2_moveUnneededTo_50 : decode cX2_moveUnneededTo 50 = .ok (.iload_n 3, 1) := by decide +kernel
theorem dX2_moveUnneededTo_51 : decode cX2_moveUnneededTo 51 = .ok (.iaload, 1) := by decide +kernel
theorem dX2_moveUnneededTo_52 : decode cX2_moveUnneededTo 52 = .ok (.aload_n 0, 1) := by decide +kernel
theorem dX2_moveUnneededTo_53 : decode cX2_moveUnneededTo 53 = .ok (.getfield 27, 3) := by decide +kernel
theorem dX2_moveUnneededTo_56 : decode cX2_moveUnneededTo 56 = .ok (.iload 4, 2) := by decide +kernel
theorem dX2_moveUnneededTo_58 : decode cX2_moveUnneededTo 58 = .ok (.iaload, 1) := by decide +kernel
theorem dX2_moveUnneededTo_59 : decode cX2_moveUnneededTo 59 = .ok (.invokevirtual 53, 3) := by decide +kernel
theorem dX2_moveUnneededTo_62 : decode cX2_moveUnneededTo 62 = .ok (.ifCond .ne 10, 3) := by decide +kernel
theorem dX2_moveUnneededTo_65 : decode cX2_moveUnneededTo 65 = .ok (.aload_n 0, 1) := by decide +kernel
theorem dX2_moveUnneededTo_66 : decode cX2_moveUnneededTo 66 = .ok (.getfield 24, 3) := by decide +kernel
theorem dX2_moveUnneededTo_69 : decode cX2_moveUnneededTo 69 = .ok (.iload_n 3, 1) := by decide +kernel
theorem dX2_moveUnneededTo_70 : decode cX2_moveUnneededTo 70 = .ok (.iload_n 1, 1) := by decide +kernel
theorem dX2_moveUnneededTo_71 : decode cX2_moveUnneededTo 71 = .ok (.iastore, 1) := by decide +kernel
theorem dX2_moveUnneededTo_72 : decode cX2_moveUnneededTo 72 = .ok (.aload_n 0, 1) := by decide +kernel
theorem dX2_moveUnneededTo_73 : decode cX2_moveUnneededTo 73 = .ok (.getfield 27, 3) := by decide +kernel
theorem dX2_moveUnneededTo_76 : decode cX2_moveUnneededTo 76 = .ok (.iload 4, 2) := by decide +kernel
theorem dX2_moveUnneededTo_78 : decode cX2_moveUnneededTo 78 = .ok (.aload_n 0, 1) := by decide +kernel
theorem dX2_moveUnneededTo_79 : decode cX2_moveUnneededTo 79 = .ok (.getfield 9, 3) := by decide +kernel
theorem dX2_moveUnneededTo_82 : decode cX2_moveUnneededTo 82 = .ok (.iload_n 3, 1) := by decide +kernel
theorem dX2_moveUnneededTo_83 : decode cX2_moveUnneededTo 83 = .ok (.iaload, 1) := by decide +kernel
theorem dX2_moveUnneededTo_84 : decode cX2_moveUnneededTo 84 = .ok (.iastore, 1) := by decide +kernel
theorem dX2_moveUnneededTo_85 : decode cX2_moveUnneededTo 85 = .ok (.iinc 3 (-1), 3) := by decide +kernel
theorem dX2_moveUnneededTo_88 : decode cX2_moveUnneededTo 88 = .ok (.goto (-68), 3) := by decide +kernel
theorem dX2_moveUnneededTo_91 : decode cX2_moveUnneededTo 91 = .ok (.return_, 1) := by decide +kernel
theorem dX2_takeFrom_0 : decode cX2_takeFrom 0 = .ok (.iconst 0, 1) := by decide +kernel
theorem dX2_takeFrom_1 : decode cX2_takeFrom 1 = .ok (.istore_n 2, 1) := by decide +kernel
theorem dX2_takeFrom_2 : decode cX2_takeFrom 2 = .ok (.iconst 0, 1) := by decide +kernel
theorem dX2_takeFrom_3 : decode cX2_takeFrom 3 = .ok (.istore_n 3, 1) := by decide +kernel
theorem dX2_takeFrom_4 : decode cX2_takeFrom 4 = .ok (.iload_n 3, 1) := by decide +kernel
theorem dX2_takeFrom_5 : decode cX2_takeFrom 5 = .ok (.aload_n 0, 1) := by decide +kernel
theorem dX2_takeFrom_6 : decode cX2_takeFrom 6 = .ok (.getfield 30, 3) := by decide +kernel
theorem dX2_takeFrom_9 : decode cX2_takeFrom 9 = .ok (.if_icmp .ge 32, 3) := by decide +kernel
theorem dX2_takeFrom_12 : decode cX2_takeFrom 12 = .ok (.aload_n 0, 1) := by decide +kernel
theorem dX2_takeFrom_13 : decode cX2_takeFrom 13 = .ok (.getfield 24, 3) := by decide +kernel
theorem dX2_takeFrom_16 : decode cX2_takeFrom 16 = .ok (.iload_n 3, 1) := by decide +kernel
theorem dX2_takeFrom_17 : decode cX2_takeFrom 17 = .ok (.iaload, 1) := by decide +kernel
theorem dX2_takeFrom_18 : decode cX2_takeFrom 18 = .ok (.iload_n 1, 1) := by decide +kernel
theorem dX2_takeFrom_19 : decode cX2_takeFrom 19 = .ok (.if_icmp .eq 6, 3) := by decide +kernel
theorem dX2_takeFrom_22 : decode cX2_takeFrom 22 = .ok (.goto 13, 3) := by decide +kernel
theorem dX2_takeFrom_25 : decode cX2_takeFrom 25 = .ok (.aload_n 0, 1) := by decide +kernel
theorem dX2_takeFrom_26 : decode cX2_takeFrom 26 = .ok (.getfield 24, 3) := by decide +kernel
theorem dX2_takeFrom_29 : decode cX2_takeFrom 29 = .ok (.iload_n 3, 1) := by decide +kernel
theorem dX2_takeFrom_30 : decode cX2_takeFrom 30 = .ok (.iconst (-1), 1) := by decide +kernel
theorem dX2_takeFrom_31 : decode cX2_takeFrom 31 = .ok (.iastore, 1) := by decide +kernel
theorem dX2_takeFrom_32 : decode cX2_takeFrom 32 = .ok (.iinc 2 1, 3) := by decide +kernel
theorem dX2_takeFrom_35 : decode cX2_takeFrom 35 = .ok (.iinc 3 1, 3) := by decide +kernel
theorem dX2_takeFrom_38 : decode cX2_takeFrom 38 = .ok (.goto (-34), 3) := by decide +kernel
theorem dX2_takeFrom_41 : decode cX2_takeFrom 41 = .ok (.iload_n 2, 1) := by decide +kernel
theorem dX2_takeFrom_42 : decode cX2_takeFrom 42 = .ok (.ireturn, 1) := by decide +kernel
theorem dX2_removeArchived_0 : decode cX2_removeArchived 0 = .ok (.iconst 0, 1) := by decide +kernel
theorem dX2_removeArchived_1 : decode cX2_removeArchived 1 = .ok (.istore_n 1, 1) := by decide +kernel
theorem dX2_removeArchived_2 : decode cX2_removeArchived 2 = .ok (.iconst 0, 1) := by decide +kernel
theorem dX2_removeArchived_3 : decode cX2_removeArchived 3 = .ok (.istore_n 2, 1) := by decide +kernel
theorem dX2_removeArchived_4 : decode cX2_removeArchived 4 = .ok (.iload_n 2, 1) := by decide +kernel
theorem dX2_removeArchived_5 : decode cX2_removeArchived 5 = .ok (.aload_n 0, 1) := by decide +kernel
theorem dX2_removeArchived_6 : decode cX2_removeArchived 6 = .ok (.getfield 30, 3) := by decide +kernel
theorem dX2_removeArchived_9 : decode cX2_removeArchived 9 = .ok (.if_icmp .ge 31, 3) := by decide +kernel
theorem dX2_removeArchived_12 : decode cX2_removeArchived 12 = .ok (.aload_n 0, 1) := by decide +kernel
theorem dX2_removeArchived_13 : decode cX2_removeArchived 13 = .ok (.getfield 24, 3) := by decide +kernel
theorem dX2_removeArchived_16 : decode cX2_removeArchived 16 = .ok (.iload_n 2, 1) := by decide +kernel
theorem dX2_removeArchived_17 : decode cX2_removeArchived 17 = .ok (.iaload, 1) := by decide +kernel
theorem dX2_removeArchived_18 : decode cX2_removeArchived 18 = .ok (.iconst (-1), 1) := by decide +kernel
theorem dX2_removeArchived_19 : decode cX2_removeArchived 19 = .ok (.if_icmp .eq 6, 3) := by decide +kernel
theorem dX2_removeArchived_22 : decode cX2_removeArchived 22 = .ok (.goto 12, 3) := by decide +kernel
theorem dX2_removeArchived_25 : decode cX2_removeArchived 25 = .ok (.aload_n 0, 1) := by decide +kernel
theorem dX2_removeArchived_26 : decode cX2_removeArchived 26 = .ok (.iload_n 2, 1) := by decide +kernel
theorem dX2_removeArchived_27 : decode cX2_removeArchived 27 = .ok (.iload_n 1, 1) := by decide +kernel
theorem dX2_removeArchived_28 : decode cX2_removeArchived 28 = .ok (.invokevirtual 56, 3) := by decide +kernel
theorem dX2_removeArchived_31 : decode cX2_removeArchived 31 = .ok (.iinc 1 1, 3) := by decide +kernel
theorem dX2_removeArchived_34 : decode cX2_removeArchived 34 = .ok (.iinc 2 1, 3) := by decide +kernel
theorem dX2_removeArchived_37 : decode cX2_removeArchived 37 = .ok (.goto (-33), 3) := by decide +kernel
theorem dX2_removeArchived_40 : decode cX2_removeArchived 40 = .ok (.aload_n 0, 1) := by decide +kernel
theorem dX2_removeArchived_41 : decode cX2_removeArchived 41 = .ok (.getfield 30, 3) := by decide +kernel
theorem dX2_removeArchived_44 : decode cX2_removeArchived 44 = .ok (.iload_n 1, 1) := by decide +kernel
theorem dX2_removeArchived_45 : decode cX2_removeArchived 45 = .ok (.isub, 1) := by decide +kernel
theorem dX2_removeArchived_46 : decode cX2_removeArchived 46 = .ok (.istore_n 2, 1) := by decide +kernel
theorem dX2_removeArchived_47 : decode cX2_removeArchived 47 = .ok (.aload_n 0, 1) := by decide +kernel
theorem dX2_removeArchived_48 : decode cX2_removeArchived 48 = .ok (.iload_n 1, 1) := by decide +kernel
theorem dX2_removeArchived_49 : decode cX2_removeArchived 49 = .ok (.putfield 30, 3) := by decide +kernel
theorem dX2_removeArchived_52 : decode cX2_removeArchived 52 = .ok (.iload_n 2, 1) := by decide +kernel
theorem dX2_removeArchived_53 : decode cX2_removeArchived 53 = .ok (.ireturn, 1) := by decide +kernel
theorem dX2_removeAbove_0 : decode cX2_removeAbove 0 = .ok (.iconst 0, 1) := by decide +kernel
theorem dX2_removeAbove_1 : decode cX2_removeAbove 1 = .ok (.istore_n 2, 1) := by decide +kernel
theorem dX2_removeAbove_2 : decode cX2_removeAbove 2 = .ok (.iload_n 2, 1) := by decide +kernel
theorem dX2_removeAbove_3 : decode cX2_removeAbove 3 = .ok (.aload_n 0, 1) := by decide +kernel
theorem dX2_removeAbove_4 : decode cX2_removeAbove 4 = .ok (.getfield 30, 3) := by decide +kernel
theorem dX2_removeAbove_7 : decode cX2_removeAbove 7 = .ok (.if_icmp .ge 19, 3) := by decide +kernel
theorem dX2_removeAbove_10 : decode cX2_removeAbove 10 = .ok (.aload_n 0, 1) := by decide +kernel
theorem dX2_removeAbove_11 : decode cX2_removeAbove 11 = .ok (.getfield 9, 3) := by decide +kernel
theorem dX2_removeAbove_14 : decode cX2_removeAbove 14 = .ok (.iload_n 2, 1) := by decide +kernel
theorem dX2_removeAbove_15 : decode cX2_removeAbove 15 = .ok (.iaload, 1) := by decide +kernel
theorem dX2_removeAbove_16 : decode cX2_removeAbove 16 = .ok (.iload_n 1, 1) := by decide +kernel
theorem dX2_removeAbove_17 : decode cX2_removeAbove 17 = .ok (.if_icmp .gt 9, 3) := by decide +kernel
theorem dX2_removeAbove_20 : decode cX2_removeAbove 20 = .ok (.iinc 2 1, 3) := by decide +kernel
theorem dX2_removeAbove_23 : decode cX2_removeAbove 23 = .ok (.goto (-21), 3) := by decide +kernel
theorem dX2_removeAbove_26 : decode cX2_removeAbove 26 = .ok (.aload_n 0, 1) := by decide +kernel
theorem dX2_removeAbove_27 : decode cX2_removeAbove 27 = .ok (.getfield 30, 3) := by decide +kernel
theorem dX2_removeAbove_30 : decode cX2_removeAbove 30 = .ok (.iload_n 2, 1) := by decide +kernel
theorem dX2_removeAbove_31 : decode cX2_removeAbove 31 = .ok (.isub, 1) := by decide +kernel
theorem dX2_removeAbove_32 : decode cX2_removeAbove 32 = .ok (.istore_n 3, 1) := by decide +kernel
theorem dX2_removeAbove_33 : decode cX2_removeAbove 33 = .ok (.aload_n 0, 1) := by decide +kernel
theorem dX2_removeAbove_34 : decode cX2_removeAbove 34 = .ok (.iload_n 2, 1) := by decide +kernel
theorem dX2_removeAbove_35 : decode cX2_removeAbove 35 = .ok (.putfield 30, 3) := by decide +kernel
theorem dX2_removeAbove_38 : decode cX2_removeAbove 38 = .ok (.iload_n 3, 1) := by decide +kernel
theorem dX2_removeAbove_39 : decode cX2_removeAbove 39 = .ok (.ireturn, 1) := by decide +kernel
theorem dX2_countIn_0 : decode cX2_countIn 0 = .ok (.iconst 0, 1) := by decide +kernel
theorem dX2_countIn_1 : decode cX2_countIn 1 = .ok (.istore_n 2, 1) := by decide +kernel
theorem dX2_countIn_2 : decode cX2_countIn 2 = .ok (.iconst 0, 1) := by decide +kernel
theorem dX2_countIn_3 : decode cX2_countIn 3 = .ok (.istore_n 3, 1) := by decide +kernel
theorem dX2_countIn_4 : decode cX2_countIn 4 = .ok (.iload_n 3, 1) := by decide +kernel
theorem dX2_countIn_5 : decode cX2_countIn 5 = .ok (.aload_n 0, 1) := by decide +kernel
theorem dX2_countIn_6 : decode cX2_countIn 6 = .ok (.getfield 30, 3) := by decide +kernel
theorem dX2_countIn_9 : decode cX2_countIn 9 = .ok (.if_icmp .ge 22, 3) := by decide +kernel
theorem dX2_countIn_12 : decode cX2_countIn 12 = .ok (.aload_n 0, 1) := by decide +kernel
theorem dX2_countIn_13 : decode cX2_countIn 13 = .ok (.getfield 24, 3) := by decide +kernel
theorem dX2_countIn_16 : decode cX2_countIn 16 = .ok (.iload_n 3, 1) := by decide +kernel
theorem dX2_countIn_17 : decode cX2_countIn 17 = .ok (.iaload, 1) := by decide +kernel
theorem dX2_countIn_18 : decode cX2_countIn 18 = .ok (.iload_n 1, 1) := by decide +kernel
theorem dX2_countIn_19 : decode cX2_countIn 19 = .ok (.if_icmp .ne 6, 3) := by decide +kernel
theorem dX2_countIn_22 : decode cX2_countIn 22 = .ok (.iinc 2 1, 3) := by decide +kernel
theorem dX2_countIn_25 : decode cX2_countIn 25 = .ok (.iinc 3 1, 3) := by decide +kernel
theorem dX2_countIn_28 : decode cX2_countIn 28 = .ok (.goto (-24), 3) := by decide +kernel
theorem dX2_countIn_31 : decode cX2_countIn 31 = .ok (.iload_n 2, 1) := by decide +kernel
theorem dX2_countIn_32 : decode cX2_countIn 32 = .ok (.ireturn, 1) := by decide +kernel
theorem dX2_copyRow_0 : decode cX2_copyRow 0 = .ok (.aload_n 0, 1) := by decide +kernel
theorem dX2_copyRow_1 : decode cX2_copyRow 1 = .ok (.getfield 9, 3) := by decide +kernel
theorem dX2_copyRow_4 : decode cX2_copyRow 4 = .ok (.iload_n 2, 1) := by decide +kernel
theorem dX2_copyRow_5 : decode cX2_copyRow 5 = .ok (.aload_n 0, 1) := by decide +kernel
theorem dX2_copyRow_6 : decode cX2_copyRow 6 = .ok (.getfield 9, 3) := by decide +kernel
theorem dX2_copyRow_9 : decode cX2_copyRow 9 = .ok (.iload_n 1, 1) := by decide +kernel
theorem dX2_copyRow_10 : decode cX2_copyRow 10 = .ok (.iaload, 1) := by decide +kernel
theorem dX2_copyRow_11 : decode cX2_copyRow 11 = .ok (.iastore, 1) := by decide +kernel
theorem dX2_copyRow_12 : decode cX2_copyRow 12 = .ok (.aload_n 0, 1) := by decide +kernel
theorem dX2_copyRow_13 : decode cX2_copyRow 13 = .ok (.getfield 15, 3) := by decide +kernel
theorem dX2_copyRow_16 : decode cX2_copyRow 16 = .ok (.iload_n 2, 1) := by decide +kernel
theorem dX2_copyRow_17 : decode cX2_copyRow 17 = .ok (.aload_n 0, 1) := by decide +kernel
theorem dX2_copyRow_18 : decode cX2_copyRow 18 = .ok (.getfield 15, 3) := by decide +kernel
theorem dX2_copyRow_21 : decode cX2_copyRow 21 = .ok (.iload_n 1, 1) := by decide +kernel
theorem dX2_copyRow_22 : decode cX2_copyRow 22 = .ok (.iaload, 1) := by decide +kernel
theorem dX2_copyRow_23 : decode cX2_copyRow 23 = .ok (.iastore, 1) := by decide +kernel
theorem dX2_copyRow_24 : decode cX2_copyRow 24 = .ok (.aload_n 0, 1) := by decide +kernel
theorem dX2_copyRow_25 : decode cX2_copyRow 25 = .ok (.getfield 18, 3) := by decide +kernel
theorem dX2_copyRow_28 : decode cX2_copyRow 28 = .ok (.iload_n 2, 1) := by decide +kernel
theorem dX2_copyRow_29 : decode cX2_copyRow 29 = .ok (.aload_n 0, 1) := by decide +kernel
theorem dX2_copyRow_30 : decode cX2_copyRow 30 = .ok (.getfield 18, 3) := by decide +kernel
theorem dX2_copyRow_33 : decode cX2_copyRow 33 = .ok (.iload_n 1, 1) := by decide +kernel
theorem dX2_copyRow_34 : decode cX2_copyRow 34 = .ok (.iaload, 1) := by decide +kernel
theorem dX2_copyRow_35 : decode cX2_copyRow 35 = .ok (.iastore, 1) := by decide +kernel
theorem dX2_copyRow_36 : decode cX2_copyRow 36 = .ok (.aload_n 0, 1) := by decide +kernel
theorem dX2_copyRow_37 : decode cX2_copyRow 37 = .ok (.getfield 21, 3) := by decide +kernel
theorem dX2_copyRow_40 : decode cX2_copyRow 40 = .ok (.iload_n 2, 1) := by decide +kernel
theorem dX2_copyRow_41 : decode cX2_copyRow 41 = .ok (.aload_n 0, 1) := by decide +kernel
theorem dX2_copyRow_42 : decode cX2_copyRow 42 = .ok (.getfield 21, 3) := by decide +kernel
theorem dX2_copyRow_45 : decode cX2_copyRow 45 = .ok (.iload_n 1, 1) := by decide +kernel
theorem dX2_copyRow_46 : decode cX2_copyRow 46 = .ok (.iaload, 1) := by decide +kernel
theorem dX2_copyRow_47 : decode cX2_copyRow 47 = .ok (.iastore, 1) := by decide +kernel
theorem dX2_copyRow_48 : decode cX2_copyRow 48 = .ok (.aload_n 0, 1) := by decide +kernel
theorem dX2_copyRow_49 : decode cX2_copyRow 49 = .ok (.getfield 24, 3) := by decide +kernel
theorem dX2_copyRow_52 : decode cX2_copyRow 52 = .ok (.iload_n 2, 1) := by decide +kernel
theorem dX2_copyRow_53 : decode cX2_copyRow 53 = .ok (.aload_n 0, 1) := by decide +kernel
theorem dX2_copyRow_54 : decode cX2_copyRow 54 = .ok (.getfield 24, 3) := by decide +kernel
theorem dX2_copyRow_57 : decode cX2_copyRow 57 = .ok (.iload_n 1, 1) := by decide +kernel
theorem dX2_copyRow_58 : decode cX2_copyRow 58 = .ok (.iaload, 1) := by decide +kernel
theorem dX2_copyRow_59 : decode cX2_copyRow 59 = .ok (.iastore, 1) := by decide +kernel
theorem dX2_copyRow_60 : decode cX2_copyRow 60 = .ok (.return_, 1) := by decide +kernel
theorem dX3_init_0 : decode cX3_init 0 = .ok (.aload_n 0, 1) := by decide +kernel
theorem dX3_init_1 : decode cX3_init 1 = .ok (.invokespecial 3, 3) := by decide +kernel
theorem dX3_init_4 : decode cX3_init 4 = .ok (.aload_n 0, 1) := by decide +kernel
theorem dX3_init_5 : decode cX3_init 5 = .ok (.bipush 64, 2) := by decide +kernel
theorem dX3_init_7 : decode cX3_init 7 = .ok (.newarray .int, 2) := by decide +kernel
theorem dX3_init_9 : decode cX3_init 9 = .ok (.putfield 9, 3) := by decide +kernel
theorem dX3_init_12 : decode cX3_init 12 = .ok (.return_, 1) := by decide +kernel
theorem dX3_grow_0 : decode cX3_grow 0 = .ok (.iconst 0, 1) := by decide +kernel
theorem dX3_grow_1 : decode cX3_grow 1 = .ok (.istore_n 2, 1) := by decide +kernel
theorem dX3_grow_2 : decode cX3_grow 2 = .ok (.iload_n 2, 1) := by decide +kernel
theorem dX3_grow_3 : decode cX3_grow 3 = .ok (.bipush 32, 2) := by decide +kernel
theorem dX3_grow_5 : decode cX3_grow 5 = .ok (.if_icmp .ge 25, 3) := by decide +kernel
theorem dX3_grow_8 : decode cX3_grow 8 = .ok (.aload_n 0, 1) := by decide +kernel
theorem dX3_grow_9 : decode cX3_grow 9 = .ok (.getfield 9, 3) := by decide +kernel
theorem dX3_grow_12 : decode cX3_grow 12 = .ok (.bipush 32, 2) := by decide +kernel
theorem dX3_grow_14 : decode cX3_grow 14 = .ok (.iload_n 2, 1) := by decide +kernel
theorem dX3_grow_15 : decode cX3_grow 15 = .ok (.iadd, 1) := by decide +kernel
theorem dX3_grow_16 : decode cX3_grow 16 = .ok (.iload_n 2, 1) := by decide +kernel
theorem dX3_grow_17 : decode cX3_grow 17 = .ok (.aload_n 1, 1) := by decide +kernel
theorem dX3_grow_18 : decode cX3_grow 18 = .ok (.iload_n 2, 1) := by decide +kernel
theorem dX3_grow_19 : decode cX3_grow 19 = .ok (.iaload, 1) := by decide +kernel
theorem dX3_grow_20 : decode cX3_grow 20 = .ok (.invokestatic 15, 3) := by decide +kernel
theorem dX3_grow_23 : decode cX3_grow 23 = .ok (.iastore, 1) := by decide +kernel
theorem dX3_grow_24 : decode cX3_grow 24 = .ok (.iinc 2 1, 3) := by decide +kernel
theorem dX3_grow_27 : decode cX3_grow 27 = .ok (.goto (-25), 3) := by decide +kernel
theorem dX3_grow_30 : decode cX3_grow 30 = .ok (.bipush 31, 2) := by decide +kernel
theorem dX3_grow_32 : decode cX3_grow 32 = .ok (.istore_n 2, 1) := by decide +kernel
theorem dX3_grow_33 : decode cX3_grow 33 = .ok (.iload_n 2, 1) := by decide +kernel
theorem dX3_grow_34 : decode cX3_grow 34 = .ok (.iconst 1, 1) := by decide +kernel
theorem dX3_grow_35 : decode cX3_grow 35 = .ok (.if_icmp .lt 36, 3) := by decide +kernel
theorem dX3_grow_38 : decode cX3_grow 38 = .ok (.aload_n 0, 1) := by decide +kernel
theorem dX3_grow_39 : decode cX3_grow 39 = .ok (.getfield 9, 3) := by decide +kernel
theorem dX3_grow_42 : decode cX3_grow 42 = .ok (.iload_n 2, 1) := by decide +kernel
theorem dX3_grow_43 : decode cX3_grow 43 = .ok (.aload_n 0, 1) := by decide +kernel
theorem dX3_grow_44 : decode cX3_grow 44 = .ok (.getfield 9, 3) := by decide +kernel
theorem dX3_grow_47 : decode cX3_grow 47 = .ok (.iconst 2, 1) := by decide +kernel
theorem dX3_grow_48 : decode cX3_grow 48 = .ok (.iload_n 2, 1) := by decide +kernel
theorem dX3_grow_49 : decode cX3_grow 49 = .ok (.imul, 1) := by decide +kernel
theorem dX3_grow_50 : decode cX3_grow 50 = .ok (.iaload, 1) := by decide +kernel
theorem dX3_grow_51 : decode cX3_grow 51 = .ok (.aload_n 0, 1) := by decide +kernel
theorem dX3_grow_52 : decode cX3_grow 52 = .ok (.getfield 9, 3) := by decide +kernel
theorem dX3_grow_55 : decode cX3_grow 55 = .ok (.iconst 2, 1) := by decide +kernel
theorem dX3_grow_56 : decode cX3_grow 56 = .ok (.iload_n 2, 1) := by decide +kernel
theorem dX3_grow_57 : decode cX3_grow 57 = .ok (.imul, 1) := by decide +kernel
theorem dX3_grow_58 : decode cX3_grow 58 = .ok (.iconst 1, 1) := by decide +kernel
theorem dX3_grow_59 : decode cX3_grow 59 = .ok (.iadd, 1) := by decide +kernel
theorem dX3_grow_60 : decode cX3_grow 60 = .ok (.iaload, 1) := by decide +kernel
theorem dX3_grow_61 : decode cX3_grow 61 = .ok (.invokestatic 19, 3) := by decide +kernel
theorem dX3_grow_64 : decode cX3_grow 64 = .ok (.iastore, 1) := by decide +kernel
theorem dX3_grow_65 : decode cX3_grow 65 = .ok (.iinc 2 (-1), 3) := by decide +kernel
theorem dX3_grow_68 : decode cX3_grow 68 = .ok (.goto (-35), 3) := by decide +kernel
theorem dX3_grow_71 : decode cX3_grow 71 = .ok (.aload_n 0, 1) := by decide +kernel
theorem dX3_grow_72 : decode cX3_grow 72 = .ok (.getfield 9, 3) := by decide +kernel
theorem dX3_grow_75 : decode cX3_grow 75 = .ok (.iconst 1, 1) := by decide +kernel
theorem dX3_grow_76 : decode cX3_grow 76 = .ok (.iaload, 1) := by decide +kernel
theorem dX3_grow_77 : decode cX3_grow 77 = .ok (.ireturn, 1) := by decide +kernel
theorem dX3_beside_0 : decode cX3_beside 0 = .ok (.aload_n 0, 1) := by decide +kernel
theorem dX3_beside_1 : decode cX3_beside 1 = .ok (.getfield 9, 3) := by decide +kernel
theorem dX3_beside_4 : decode cX3_beside 4 = .ok (.bipush 32, 2) := by decide +kernel
theorem dX3_beside_6 : decode cX3_beside 6 = .ok (.iload_n 1, 1) := by decide +kernel
theorem dX3_beside_7 : decode cX3_beside 7 = .ok (.iadd, 1) := by decide +kernel
theorem dX3_beside_8 : decode cX3_beside 8 = .ok (.iload_n 2, 1) := by decide +kernel
theorem dX3_beside_9 : decode cX3_beside 9 = .ok (.ishr, 1) := by decide +kernel
theorem dX3_beside_10 : decode cX3_beside 10 = .ok (.iconst 1, 1) := by decide +kernel
theorem dX3_beside_11 : decode cX3_beside 11 = .ok (.ixor, 1) := by decide +kernel
theorem dX3_beside_12 : decode cX3_beside 12 = .ok (.iaload, 1) := by decide +kernel
theorem dX3_beside_13 : decode cX3_beside 13 = .ok (.ireturn, 1) := by decide +kernel
theorem dX3_climb_0 : decode cX3_climb 0 = .ok (.iload_n 0, 1) := by decide +kernel
theorem dX3_climb_1 : decode cX3_climb 1 = .ok (.iload_n 1, 1) := by decide +kernel
theorem dX3_climb_2 : decode cX3_climb 2 = .ok (.invokestatic 15, 3) := by decide +kernel
theorem dX3_climb_5 : decode cX3_climb 5 = .ok (.istore_n 3, 1) := by decide +kernel
theorem dX3_climb_6 : decode cX3_climb 6 = .ok (.iconst 0, 1) := by decide +kernel
theorem dX3_climb_7 : decode cX3_climb 7 = .ok (.istore 4, 2) := by decide +kernel
theorem dX3_climb_9 : decode cX3_climb 9 = .ok (.iload 4, 2) := by decide +kernel
theorem dX3_climb_11 : decode cX3_climb 11 = .ok (.iconst 5, 1) := by decide +kernel
theorem dX3_climb_12 : decode cX3_climb 12 = .ok (.if_icmp .ge 50, 3) := by decide +kernel
theorem dX3_climb_15 : decode cX3_climb 15 = .ok (.iload_n 0, 1) := by decide +kernel
theorem dX3_climb_16 : decode cX3_climb 16 = .ok (.iload 4, 2) := by decide +kernel
theorem dX3_climb_18 : decode cX3_climb 18 = .ok (.ishr, 1) := by decide +kernel
theorem dX3_climb_19 : decode cX3_climb 19 = .ok (.iconst 1, 1) := by decide +kernel
theorem dX3_climb_20 : decode cX3_climb 20 = .ok (.iand, 1) := by decide +kernel
theorem dX3_climb_21 : decode cX3_climb 21 = .ok (.ifCond .ne 7, 3) := by decide +kernel
theorem dX3_climb_24 : decode cX3_climb 24 = .ok (.iconst 1, 1) := by decide +kernel
theorem dX3_climb_25 : decode cX3_climb 25 = .ok (.goto 4, 3) := by decide +kernel
theorem dX3_climb_28 : decode cX3_climb 28 = .ok (.iconst 0, 1) := by decide +kernel
theorem dX3_climb_29 : decode cX3_climb 29 = .ok (.istore 5, 2) := by decide +kernel
theorem dX3_climb_31 : decode cX3_climb 31 = .ok (.iload 5, 2) := by decide +kernel
theorem dX3_climb_33 : decode cX3_climb 33 = .ok (.ifCond .eq 14, 3) := by decide +kernel
theorem dX3_climb_36 : decode cX3_climb 36 = .ok (.iload_n 3, 1) := by decide +kernel
theorem dX3_climb_37 : decode cX3_climb 37 = .ok (.aload_n 2, 1) := by decide +kernel
theorem dX3_climb_38 : decode cX3_climb 38 = .ok (.iload 4, 2) := by decide +kernel
theorem dX3_climb_40 : decode cX3_climb 40 = .ok (.iaload, 1) := by decide +kernel
theorem dX3_climb_41 : decode cX3_climb 41 = .ok (.invokestatic 19, 3) := by decide +kernel
theorem dX3_climb_44 : decode cX3_climb 44 = .ok (.goto 11, 3) := by decide +kernel
theorem dX3_climb_47 : decode cX3_climb 47 = .ok (.aload_n 2, 1) := by decide +kernel
theorem dX3_climb_48 : decode cX3_climb 48 = .ok (.iload 4, 2) := by decide +kernel
theorem dX3_climb_50 : decode cX3_climb 50 = .ok (.iaload, 1) := by decide +kernel
theorem dX3_climb_51 : decode cX3_climb 51 = .ok (.iload_n 3, 1) := by decide +kernel
theorem dX3_climb_52 : decode cX3_climb 52 = .ok (.invokestatic 19, 3) := by decide +kernel
theorem dX3_climb_55 : decode cX3_climb 55 = .ok (.istore_n 3, 1) := by decide +kernel
theorem dX3_climb_56 : decode cX3_climb 56 = .ok (.iinc 4 1, 3) := by decide +kernel
theorem dX3_climb_59 : decode cX3_climb 59 = .ok (.goto (-50), 3) := by decide +kernel
theorem dX3_climb_62 : decode cX3_climb 62 = .ok (.iload_n 3, 1) := by decide +kernel
theorem dX3_climb_63 : decode cX3_climb 63 = .ok (.ireturn, 1) := by decide +kernel
theorem dX3_ofLeaf_0 : decode cX3_ofLeaf 0 = .ok (.bipush 31, 2) := by decide +kernel
theorem dX3_ofLeaf_2 : decode cX3_ofLeaf 2 = .ok (.iload_n 1, 1) := by decide +kernel
theorem dX3_ofLeaf_3 : decode cX3_ofLeaf 3 = .ok (.imul, 1) := by decide +kernel
theorem dX3_ofLeaf_4 : decode cX3_ofLeaf 4 = .ok (.iload_n 0, 1) := by decide +kernel
theorem dX3_ofLeaf_5 : decode cX3_ofLeaf 5 = .ok (.iadd, 1) := by decide +kernel
theorem dX3_ofLeaf_6 : decode cX3_ofLeaf 6 = .ok (.ireturn, 1) := by decide +kernel
theorem dX3_join_0 : decode cX3_join 0 = .ok (.bipush 31, 2) := by decide +kernel
theorem dX3_join_2 : decode cX3_join 2 = .ok (.iload_n 0, 1) := by decide +kernel
theorem dX3_join_3 : decode cX3_join 3 = .ok (.imul, 1) := by decide +kernel
theorem dX3_join_4 : decode cX3_join 4 = .ok (.iload_n 1, 1) := by decide +kernel
theorem dX3_join_5 : decode cX3_join 5 = .ok (.iadd, 1) := by decide +kernel
theorem dX3_join_6 : decode cX3_join 6 = .ok (.istore_n 2, 1) := by decide +kernel
theorem dX3_join_7 : decode cX3_join 7 = .ok (.iload_n 2, 1) := by decide +kernel
theorem dX3_join_8 : decode cX3_join 8 = .ok (.iload_n 2, 1) := by decide +kernel
theorem dX3_join_9 : decode cX3_join 9 = .ok (.bipush 15, 2) := by decide +kernel
theorem dX3_join_11 : decode cX3_join 11 = .ok (.iushr, 1) := by decide +kernel
theorem dX3_join_12 : decode cX3_join 12 = .ok (.ixor, 1) := by decide +kernel
theorem dX3_join_13 : decode cX3_join 13 = .ok (.ldc 22, 2) := by decide +kernel
theorem dX3_join_15 : decode cX3_join 15 = .ok (.imul, 1) := by decide +kernel
theorem dX3_join_16 : decode cX3_join 16 = .ok (.ireturn, 1) := by decide +kernel
theorem dX4_init_0 : decode cX4_init 0 = .ok (.aload_n 0, 1) := by decide +kernel
theorem dX4_init_1 : decode cX4_init 1 = .ok (.invokespecial 3, 3) := by decide +kernel
theorem dX4_init_4 : decode cX4_init 4 = .ok (.aload_n 0, 1) := by decide +kernel
theorem dX4_init_5 : decode cX4_init 5 = .ok (.new 9, 3) := by decide +kernel
theorem dX4_init_8 : decode cX4_init 8 = .ok (.dup, 1) := by decide +kernel
theorem dX4_init_9 : decode cX4_init 9 = .ok (.invokespecial 11, 3) := by decide +kernel
theorem dX4_init_12 : decode cX4_init 12 = .ok (.putfield 12, 3) := by decide +kernel
theorem dX4_init_15 : decode cX4_init 15 = .ok (.aload_n 0, 1) := by decide +kernel
theorem dX4_init_16 : decode cX4_init 16 = .ok (.new 16, 3) := by decide +kernel
theorem dX4_init_19 : decode cX4_init 19 = .ok (.dup, 1) := by decide +kernel
theorem dX4_init_20 : decode cX4_init 20 = .ok (.invokespecial 18, 3) := by decide +kernel
theorem dX4_init_23 : decode cX4_init 23 = .ok (.putfield 19, 3) := by decide +kernel
theorem dX4_init_26 : decode cX4_init 26 = .ok (.aload_n 0, 1) := by decide +kernel
theorem dX4_init_27 : decode cX4_init 27 = .ok (.new 23, 3) := by decide +kernel
theorem dX4_init_30 : decode cX4_init 30 = .ok (.dup, 1) := by decide +kernel
theorem dX4_init_31 : decode cX4_init 31 = .ok (.invokespecial 25, 3) := by decide +kernel
theorem dX4_init_34 : decode cX4_init 34 = .ok (.putfield 26, 3) := by decide +kernel
theorem dX4_init_37 : decode cX4_init 37 = .ok (.aload_n 0, 1) := by decide +kernel
theorem dX4_init_38 : decode cX4_init 38 = .ok (.new 30, 3) := by decide +kernel
theorem dX4_init_41 : decode cX4_init 41 = .ok (.dup, 1) := by decide +kernel
theorem dX4_init_42 : decode cX4_init 42 = .ok (.invokespecial 32, 3) := by decide +kernel
theorem dX4_init_45 : decode cX4_init 45 = .ok (.putfield 33, 3) := by decide +kernel
theorem dX4_init_48 : decode cX4_init 48 = .ok (.aload_n 0, 1) := by decide +kernel
theorem dX4_init_49 : decode cX4_init 49 = .ok (.iconst 5, 1) := by decide +kernel
theorem dX4_init_50 : decode cX4_init 50 = .ok (.newarray .int, 2) := by decide +kernel
theorem dX4_init_52 : decode cX4_init 52 = .ok (.putfield 37, 3) := by decide +kernel
theorem dX4_init_55 : decode cX4_init 55 = .ok (.aload_n 0, 1) := by decide +kernel
theorem dX4_init_56 : decode cX4_init 56 = .ok (.bipush 32, 2) := by decide +kernel
theorem dX4_init_58 : decode cX4_init 58 = .ok (.newarray .int, 2) := by decide +kernel
theorem dX4_init_60 : decode cX4_init 60 = .ok (.putfield 41, 3) := by decide +kernel
theorem dX4_init_63 : decode cX4_init 63 = .ok (.aload_n 0, 1) := by decide +kernel
theorem dX4_init_64 : decode cX4_init 64 = .ok (.bipush 32, 2) := by decide +kernel
theorem dX4_init_66 : decode cX4_init 66 = .ok (.newarray .int, 2) := by decide +kernel
theorem dX4_init_68 : decode cX4_init 68 = .ok (.putfield 44, 3) := by decide +kernel
theorem dX4_init_71 : decode cX4_init 71 = .ok (.aload_n 0, 1) := by decide +kernel
theorem dX4_init_72 : decode cX4_init 72 = .ok (.invokevirtual 47, 3) := by decide +kernel
theorem dX4_init_75 : decode cX4_init 75 = .ok (.return_, 1) := by decide +kernel
theorem dX4_write_0 : decode cX4_write 0 = .ok (.iload_n 2, 1) := by decide +kernel
theorem dX4_write_1 : decode cX4_write 1 = .ok (.invokestatic 50, 3) := by decide +kernel
theorem dX4_write_4 : decode cX4_write 4 = .ok (.ifCond .ne 6, 3) := by decide +kernel
theorem dX4_write_7 : decode cX4_write 7 = .ok (.bipush (-101), 2) := by decide +kernel
theorem dX4_write_9 : decode cX4_write 9 = .ok (.ireturn, 1) := by decide +kernel
theorem dX4_write_10 : decode cX4_write 10 = .ok (.iload_n 1, 1) := by decide +kernel
theorem dX4_write_11 : decode cX4_write 11 = .ok (.ifCond .lt 10, 3) := by decide +kernel
theorem dX4_write_14 : decode cX4_write 14 = .ok (.iload_n 1, 1) := by decide +kernel
theorem dX4_write_15 : decode cX4_write 15 = .ok (.sipush 999, 3) := by decide +kernel
theorem dX4_write_18 : decode cX4_write 18 = .ok (.if_icmp .le 6, 3) := by decide +kernel
theorem dX4_write_21 : decode cX4_write 21 = .ok (.bipush (-102), 2) := by decide +kernel
theorem dX4_write_23 : decode cX4_write 23 = .ok (.ireturn, 1) := by decide +kernel
theorem dX4_write_24 : decode cX4_write 24 = .ok (.iload_n 1, 1) := by decide +kernel
theorem dX4_write_25 : decode cX4_write 25 = .ok (.aload_n 0, 1) := by decide +kernel
theorem dX4_write_26 : decode cX4_write 26 = .ok (.getfield 26, 3) := by decide +kernel
theorem dX4_write_29 : decode cX4_write 29 = .ok (.getfield 54, 3) := by decide +kernel
theorem dX4_write_32 : decode cX4_write 32 = .ok (.if_icmp .ge 6, 3) := by decide +kernel
theorem dX4_write_35 : decode cX4_write 35 = .ok (.bipush (-103), 2) := by decide +kernel
theorem dX4_write_37 : decode cX4_write 37 = .ok (.ireturn, 1) := by decide +kernel
theorem dX4_write_38 : decode cX4_write 38 = .ok (.aload_n 0, 1) := by decide +kernel
theorem dX4_write_39 : decode cX4_write 39 = .ok (.getfield 26, 3) := by decide +kernel
theorem dX4_write_42 : decode cX4_write 42 = .ok (.getfield 58, 3) := by decide +kernel
theorem dX4_write_45 : decode cX4_write 45 = .ok (.bipush 60, 2) := by decide +kernel
theorem dX4_write_47 : decode cX4_write 47 = .ok (.if_icmp .lt 6, 3) := by decide +kernel
theorem dX4_write_50 : decode cX4_write 50 = .ok (.bipush (-105), 2) := by decide +kernel
theorem dX4_write_52 : decode cX4_write 52 = .ok (.ireturn, 1) := by decide +kernel
theorem dX4_write_53 : decode cX4_write 53 = .ok (.aload_n 0, 1) := by decide +kernel
theorem dX4_write_54 : decode cX4_write 54 = .ok (.getfield 26, 3) := by decide +kernel
theorem dX4_write_57 : decode cX4_write 57 = .ok (.iload_n 1, 1) := by decide +kernel
theorem dX4_write_58 : decode cX4_write 58 = .ok (.iload_n 2, 1) := by decide +kernel
theorem dX4_write_59 : decode cX4_write 59 = .ok (.iload_n 3, 1) := by decide +kernel
theorem dX4_write_60 : decode cX4_write 60 = .ok (.invokevirtual 61, 3) := by decide +kernel
theorem dX4_write_63 : decode cX4_write 63 = .ok (.aload_n 0, 1) := by decide +kernel
theorem dX4_write_64 : decode cX4_write 64 = .ok (.getfield 26, 3) := by decide +kernel
theorem dX4_write_67 : decode cX4_write 67 = .ok (.getfield 58, 3) := by decide +kernel
theorem dX4_write_70 : decode cX4_write 70 = .ok (.ireturn, 1) := by decide +kernel
theorem dX4_seal_0 : decode cX4_seal 0 = .ok (.aload_n 0, 1) := by decide +kernel
theorem dX4_seal_1 : decode cX4_seal 1 = .ok (.getfield 19, 3) := by decide +kernel
theorem dX4_seal_4 : decode cX4_seal 4 = .ok (.getfield 65, 3) := by decide +kernel
theorem dX4_seal_7 : decode cX4_seal 7 = .ok (.sipush 200, 3) := by decide +kernel
theorem dX4_seal_10 : decode cX4_seal 10 = .ok (.if_icmp .lt 6, 3) := by decide +kernel
theorem dX4_seal_13 : decode cX4_seal 13 = .ok (.bipush (-105), 2) := by decide +kernel
theorem dX4_seal_15 : decode cX4_seal 15 = .ok (.ireturn, 1) := by decide +kernel
theorem dX4_seal_16 : decode cX4_seal 16 = .ok (.aload_n 0, 1) := by decide +kernel
theorem dX4_seal_17 : decode cX4_seal 17 = .ok (.getfield 12, 3) := by decide +kernel
theorem dX4_seal_20 : decode cX4_seal 20 = .ok (.getfield 68, 3) := by decide +kernel
theorem dX4_seal_23 : decode cX4_seal 23 = .ok (.aload_n 0, 1) := by decide +kernel
theorem dX4_seal_24 : decode cX4_seal 24 = .ok (.getfield 26, 3) := by decide +kernel
theorem dX4_seal_27 : decode cX4_seal 27 = .ok (.invokevirtual 71, 3) := by decide +kernel
theorem dX4_seal_30 : decode cX4_seal 30 = .ok (.iadd, 1) := by decide +kernel
theorem dX4_seal_31 : decode cX4_seal 31 = .ok (.sipush 400, 3) := by decide +kernel
theorem dX4_seal_34 : decode cX4_seal 34 = .ok (.if_icmp .le 6, 3) := by decide +kernel
theorem dX4_seal_37 : decode cX4_seal 37 = .ok (.bipush (-105), 2) := by decide +kernel
theorem dX4_seal_39 : decode cX4_seal 39 = .ok (.ireturn, 1) := by decide +kernel
theorem dX4_seal_40 : decode cX4_seal 40 = .ok (.iconst 0, 1) := by decide +kernel
theorem dX4_seal_41 : decode cX4_seal 41 = .ok (.istore_n 1, 1) := by decide +kernel
theorem dX4_seal_42 : decode cX4_seal 42 = .ok (.iload_n 1, 1) := by decide +kernel
theorem dX4_seal_43 : decode cX4_seal 43 = .ok (.bipush 32, 2) := by decide +kernel
theorem dX4_seal_45 : decode cX4_seal 45 = .ok (.if_icmp .ge 55, 3) := by decide +kernel
theorem dX4_seal_48 : decode cX4_seal 48 = .ok (.aload_n 0, 1) := by decide +kernel
theorem dX4_seal_49 : decode cX4_seal 49 = .ok (.getfield 26, 3) := by decide +kernel
theorem dX4_seal_52 : decode cX4_seal 52 = .ok (.iload_n 1, 1) := by decide +kernel
theorem dX4_seal_53 : decode cX4_seal 53 = .ok (.invokevirtual 75, 3) := by decide +kernel
theorem dX4_seal_56 : decode cX4_seal 56 = .ok (.ifCond .eq 38, 3) := by decide +kernel
theorem dX4_seal_59 : decode cX4_seal 59 = .ok (.aload_n 0, 1) := by decide +kernel
theorem dX4_seal_60 : decode cX4_seal 60 = .ok (.getfield 12, 3) := by decide +kernel
theorem dX4_seal_63 : decode cX4_seal 63 = .ok (.aload_n 0, 1) := by decide +kernel
theorem dX4_seal_64 : decode cX4_seal 64 = .ok (.getfield 19, 3) := by decide +kernel
theorem dX4_seal_67 : decode cX4_seal 67 = .ok (.getfield 65, 3) := by decide +kernel
theorem dX4_seal_70 : decode cX4_seal 70 = .ok (.iconst 1, 1) := by decide +kernel
theorem dX4_seal_71 : decode cX4_seal 71 = .ok (.iadd, 1) := by decide +kernel
theorem dX4_seal_72 : decode cX4_seal 72 = .ok (.iload_n 1, 1) := by decide +kernel
theorem dX4_seal_73 : decode cX4_seal 73 = .ok (.aload_n 0, 1) := by decide +kernel
theorem dX4_seal_74 : decode cX4_seal 74 = .ok (.getfield 26, 3) := by decide +kernel
theorem dX4_seal_77 : decode cX4_seal 77 = .ok (.getfield 78, 3) := by decide +kernel
theorem dX4_seal_80 : decode cX4_seal 80 = .ok (.iload_n 1, 1) := by decide +kernel
theorem dX4_seal_81 : decode cX4_seal 81 = .ok (.iaload, 1) := by decide +kernel
theorem dX4_seal_82 : decode cX4_seal 82 = .ok (.aload_n 0, 1) := by decide +kernel
theorem dX4_seal_83 : decode cX4_seal 83 = .ok (.getfield 26, 3) := by decide +kernel
theorem dX4_seal_86 : decode cX4_seal 86 = .ok (.getfield 81, 3) := by decide +kernel
theorem dX4_seal_89 : decode cX4_seal 89 = .ok (.iload_n 1, 1) := by decide +kernel
theorem dX4_seal_90 : decode cX4_seal 90 = .ok (.iaload, 1) := by decide +kernel
theorem dX4_seal_91 : decode cX4_seal 91 = .ok (.invokevirtual 84, 3) := by decide +kernel
theorem dX4_seal_94 : decode cX4_seal 94 = .ok (.iinc 1 1, 3) := by decide +kernel
theorem dX4_seal_97 : decode cX4_seal 97 = .ok (.goto (-55), 3) := by decide +kernel
theorem dX4_seal_100 : decode cX4_seal 100 = .ok (.aload_n 0, 1) := by decide +kernel
theorem dX4_seal_101 : decode cX4_seal 101 = .ok (.getfield 19, 3) := by decide +kernel
theorem dX4_seal_104 : decode cX4_seal 104 = .ok (.aload_n 0, 1) := by decide +kernel
theorem dX4_seal_105 : decode cX4_seal 105 = .ok (.getfield 33, 3) := by decide +kernel
theorem dX4_seal_108 : decode cX4_seal 108 = .ok (.aload_n 0, 1) := by decide +kernel
theorem dX4_seal_109 : decode cX4_seal 109 = .ok (.getfield 26, 3) := by decide +kernel
theorem dX4_seal_112 : decode cX4_seal 112 = .ok (.getfield 78, 3) := by decide +kernel
theorem dX4_seal_115 : decode cX4_seal 115 = .ok (.invokevirtual 88, 3) := by decide +kernel
theorem dX4_seal_118 : decode cX4_seal 118 = .ok (.invokevirtual 92, 3) := by decide +kernel
theorem dX4_seal_121 : decode cX4_seal 121 = .ok (.aload_n 0, 1) := by decide +kernel
theorem dX4_seal_122 : decode cX4_seal 122 = .ok (.getfield 26, 3) := by decide +kernel
theorem dX4_seal_125 : decode cX4_seal 125 = .ok (.aload_n 0, 1) := by decide +kernel
theorem dX4_seal_126 : decode cX4_seal 126 = .ok (.getfield 26, 3) := by decide +kernel
theorem dX4_seal_129 : decode cX4_seal 129 = .ok (.getfield 78, 3) := by decide +kernel
theorem dX4_seal_132 : decode cX4_seal 132 = .ok (.invokevirtual 96, 3) := by decide +kernel
theorem dX4_seal_135 : decode cX4_seal 135 = .ok (.aload_n 0, 1) := by decide +kernel
theorem dX4_seal_136 : decode cX4_seal 136 = .ok (.getfield 19, 3) := by decide +kernel
theorem dX4_seal_139 : decode cX4_seal 139 = .ok (.getfield 65, 3) := by decide +kernel
theorem dX4_seal_142 : decode cX4_seal 142 = .ok (.ireturn, 1) := by decide +kernel
theorem dX4_drop_0 : decode cX4_drop 0 = .ok (.aload_n 0, 1) := by decide +kernel
theorem dX4_drop_1 : decode cX4_drop 1 = .ok (.getfield 26, 3) := by decide +kernel
theorem dX4_drop_4 : decode cX4_drop 4 = .ok (.getfield 58, 3) := by decide +kernel
theorem dX4_drop_7 : decode cX4_drop 7 = .ok (.istore_n 1, 1) := by decide +kernel
theorem dX4_drop_8 : decode cX4_drop 8 = .ok (.aload_n 0, 1) := by decide +kernel
theorem dX4_drop_9 : decode cX4_drop 9 = .ok (.getfield 26, 3) := by decide +kernel
theorem dX4_drop_12 : decode cX4_drop 12 = .ok (.aload_n 0, 1) := by decide +kernel
theorem dX4_drop_13 : decode cX4_drop 13 = .ok (.getfield 26, 3) := by decide +kernel
theorem dX4_drop_16 : decode cX4_drop 16 = .ok (.getfield 100, 3) := by decide +kernel
theorem dX4_drop_19 : decode cX4_drop 19 = .ok (.invokevirtual 96, 3) := by decide +kernel
theorem dX4_drop_22 : decode cX4_drop 22 = .ok (.iload_n 1, 1) := by decide +kernel
theorem dX4_drop_23 : decode cX4_drop 23 = .ok (.ireturn, 1) := by decide +kernel
theorem dX4_at_0 : decode cX4_at 0 = .ok (.iload_n 1, 1) := by decide +kernel
theorem dX4_at_1 : decode cX4_at 1 = .ok (.invokestatic 50, 3) := by decide +kernel
theorem dX4_at_4 : decode cX4_at 4 = .ok (.ifCond .eq 11, 3) := by decide +kernel
theorem dX4_at_7 : decode cX4_at 7 = .ok (.aload_n 0, 1) := by decide +kernel
theorem dX4_at_8 : decode cX4_at 8 = .ok (.iload_n 2, 1) := by decide +kernel
theorem dX4_at_9 : decode cX4_at 9 = .ok (.invokevirtual 103, 3) := by decide +kernel
theorem dX4_at_12 : decode cX4_at 12 = .ok (.ifCond .ne 9, 3) := by decide +kernel
theorem dX4_at_15 : decode cX4_at 15 = .ok (.bipush (-101), 2) := by decide +kernel
theorem dX4_at_17 : decode cX4_at 17 = .ok (.invokestatic 106, 3) := by decide +kernel
theorem dX4_at_20 : decode cX4_at 20 = .ok (.lreturn, 1) := by decide +kernel
theorem dX4_at_21 : decode cX4_at 21 = .ok (.aload_n 0, 1) := by decide +kernel
theorem dX4_at_22 : decode cX4_at 22 = .ok (.getfield 19, 3) := by decide +kernel
theorem dX4_at_25 : decode cX4_at 25 = .ok (.iload_n 2, 1) := by decide +kernel
theorem dX4_at_26 : decode cX4_at 26 = .ok (.invokevirtual 110, 3) := by decide +kernel
theorem dX4_at_29 : decode cX4_at 29 = .ok (.ifCond .eq 9, 3) := by decide +kernel
theorem dX4_at_32 : decode cX4_at 32 = .ok (.bipush (-104), 2) := by decide +kernel
theorem dX4_at_34 : decode cX4_at 34 = .ok (.invokestatic 106, 3) := by decide +kernel
theorem dX4_at_37 : decode cX4_at 37 = .ok (.lreturn, 1) := by decide +kernel
theorem dX4_at_38 : decode cX4_at 38 = .ok (.aload_n 0, 1) := by decide +kernel
theorem dX4_at_39 : decode cX4_at 39 = .ok (.getfield 12, 3) := by decide +kernel
theorem dX4_at_42 : decode cX4_at 42 = .ok (.iload_n 1, 1) := by decide +kernel
theorem dX4_at_43 : decode cX4_at 43 = .ok (.iload_n 2, 1) := by decide +kernel
theorem dX4_at_44 : decode cX4_at 44 = .ok (.invokevirtual 113, 3) := by decide +kernel
theorem dX4_at_47 : decode cX4_at 47 = .ok (.istore_n 3, 1) := by decide +kernel
theorem dX4_at_48 : decode cX4_at 48 = .ok (.iload_n 3, 1) := by decide +kernel
theorem dX4_at_49 : decode cX4_at 49 = .ok (.iconst (-1), 1) := by decide +kernel
theorem dX4_at_50 : decode cX4_at 50 = .ok (.if_icmp .ne 7, 3) := by decide +kernel
theorem dX4_at_53 : decode cX4_at 53 = .ok (.lconst 0, 1) := by decide +kernel
theorem dX4_at_54 : decode cX4_at 54 = .ok (.goto 13, 3) := by decide +kernel
theorem dX4_at_57 : decode cX4_at 57 = .ok (.aload_n 0, 1) := by decide +kernel
theorem dX4_at_58 : decode cX4_at 58 = .ok (.getfield 12, 3) := by decide +kernel
theorem dX4_at_61 : decode cX4_at 61 = .ok (.getfield 117, 3) := by decide +kernel
theorem dX4_at_64 : decode cX4_at 64 = .ok (.iload_n 3, 1) := by decide +kernel
theorem dX4_at_65 : decode cX4_at 65 = .ok (.iaload, 1) := by decide +kernel
theorem dX4_at_66 : decode cX4_at 66 = .ok (.i2l, 1) := by decide +kernel
theorem dX4_at_67 : decode cX4_at 67 = .ok (.lreturn, 1) := by decide +kernel
theorem dX4_now_0 : decode cX4_now 0 = .ok (.iload_n 1, 1) := by decide +kernel
theorem dX4_now_1 : decode cX4_now 1 = .ok (.invokestatic 50, 3) := by decide +kernel
theorem dX4_now_4 : decode cX4_now 4 = .ok (.ifCond .ne 9, 3) := by decide +kernel
theorem dX4_now_7 : decode cX4_now 7 = .ok (.bipush (-101), 2) := by decide +kernel
theorem dX4_now_9 : decode cX4_now 9 = .ok (.invokestatic 106, 3) := by decide +kernel
theorem dX4_now_12 : decode cX4_now 12 = .ok (.lreturn, 1) := by decide +kernel
theorem dX4_now_13 : decode cX4_now 13 = .ok (.aload_n 0, 1) := by decide +kernel
theorem dX4_now_14 : decode cX4_now 14 = .ok (.getfield 26, 3) := by decide +kernel
theorem dX4_now_17 : decode cX4_now 17 = .ok (.getfield 78, 3) := by decide +kernel
theorem dX4_now_20 : decode cX4_now 20 = .ok (.iload_n 1, 1) := by decide +kernel
theorem dX4_now_21 : decode cX4_now 21 = .ok (.iaload, 1) := by decide +kernel
theorem dX4_now_22 : decode cX4_now 22 = .ok (.i2l, 1) := by decide +kernel
theorem dX4_now_23 : decode cX4_now 23 = .ok (.lreturn, 1) := by decide +kernel
theorem dX4_digest_0 : decode cX4_digest 0 = .ok (.aload_n 0, 1) := by decide +kernel
theorem dX4_digest_1 : decode cX4_digest 1 = .ok (.iload_n 1, 1) := by decide +kernel
theorem dX4_digest_2 : decode cX4_digest 2 = .ok (.invokevirtual 103, 3) := by decide +kernel
theorem dX4_digest_5 : decode cX4_digest 5 = .ok (.ifCond .ne 9, 3) := by decide +kernel
theorem dX4_digest_8 : decode cX4_digest 8 = .ok (.bipush (-101), 2) := by decide +kernel
theorem dX4_digest_10 : decode cX4_digest 10 = .ok (.invokestatic 106, 3) := by decide +kernel
theorem dX4_digest_13 : decode cX4_digest 13 = .ok (.lreturn, 1) := by decide +kernel
theorem dX4_digest_14 : decode cX4_digest 14 = .ok (.aload_n 0, 1) := by decide +kernel
theorem dX4_digest_15 : decode cX4_digest 15 = .ok (.getfield 19, 3) := by decide +kernel
theorem dX4_digest_18 : decode cX4_digest 18 = .ok (.getfield 120, 3) := by decide +kernel
theorem dX4_digest_21 : decode cX4_digest 21 = .ok (.iload_n 1, 1) := by decide +kernel
theorem dX4_digest_22 : decode cX4_digest 22 = .ok (.iaload, 1) := by decide +kernel
theorem dX4_digest_23 : decode cX4_digest 23 = .ok (.i2l, 1) := by decide +kernel
theorem dX4_digest_24 : decode cX4_digest 24 = .ok (.lreturn, 1) := by decide +kernel
theorem dX4_blame_0 : decode cX4_blame 0 = .ok (.iload_n 1, 1) := by decide +kernel
theorem dX4_blame_1 : decode cX4_blame 1 = .ok (.invokestatic 50, 3) := by decide +kernel
theorem dX4_blame_4 : decode cX4_blame 4 = .ok (.ifCond .eq 11, 3) := by decide +kernel
theorem dX4_blame_7 : decode cX4_blame 7 = .ok (.aload_n 0, 1) := by decide +kernel
theorem dX4_blame_8 : decode cX4_blame 8 = .ok (.iload_n 2, 1) := by decide +kernel
theorem dX4_blame_9 : decode cX4_blame 9 = .ok (.invokevirtual 103, 3) := by decide +kernel
theorem dX4_blame_12 : decode cX4_blame 12 = .ok (.ifCond .ne 6, 3) := by decide +kernel
theorem dX4_blame_15 : decode cX4_blame 15 = .ok (.bipush (-101), 2) := by decide +kernel
theorem dX4_blame_17 : decode cX4_blame 17 = .ok (.ireturn, 1) := by decide +kernel
theorem dX4_blame_18 : decode cX4_blame 18 = .ok (.iload_n 3, 1) := by decide +kernel
theorem dX4_blame_19 : decode cX4_blame 19 = .ok (.ifCond .lt 8, 3) := by decide +kernel
theorem dX4_blame_22 : decode cX4_blame 22 = .ok (.iload_n 3, 1) := by decide +kernel
theorem dX4_blame_23 : decode cX4_blame 23 = .ok (.iconst 1, 1) := by decide +kernel
theorem dX4_blame_24 : decode cX4_blame 24 = .ok (.if_icmp .le 6, 3) := by decide +kernel
theorem dX4_blame_27 : decode cX4_blame 27 = .ok (.bipush (-102), 2) := by decide +kernel
theorem dX4_blame_29 : decode cX4_blame 29 = .ok (.ireturn, 1) := by decide +kernel
theorem dX4_blame_30 : decode cX4_blame 30 = .ok (.aload_n 0, 1) := by decide +kernel
theorem dX4_blame_31 : decode cX4_blame 31 = .ok (.getfield 19, 3) := by decide +kernel
theorem dX4_blame_34 : decode cX4_blame 34 = .ok (.iload_n 2, 1) := by decide +kernel
theorem dX4_blame_35 : decode cX4_blame 35 = .ok (.invokevirtual 110, 3) := by decide +kernel
theorem dX4_blame_38 : decode cX4_blame 38 = .ok (.ifCond .eq 6, 3) := by decide +kernel
theorem dX4_blame_41 : decode cX4_blame 41 = .ok (.bipush (-104), 2) := by decide +kernel
theorem dX4_blame_43 : decode cX4_blame 43 = .ok (.ireturn, 1) := by decide +kernel
theorem dX4_blame_44 : decode cX4_blame 44 = .ok (.aload_n 0, 1) := by decide +kernel
theorem dX4_blame_45 : decode cX4_blame 45 = .ok (.getfield 12, 3) := by decide +kernel
theorem dX4_blame_48 : decode cX4_blame 48 = .ok (.iload_n 1, 1) := by decide +kernel
theorem dX4_blame_49 : decode cX4_blame 49 = .ok (.iload_n 2, 1) := by decide +kernel
theorem dX4_blame_50 : decode cX4_blame 50 = .ok (.invokevirtual 113, 3) := by decide +kernel
theorem dX4_blame_53 : decode cX4_blame 53 = .ok (.istore 4, 2) := by decide +kernel
theorem dX4_blame_55 : decode cX4_blame 55 = .ok (.iload 4, 2) := by decide +kernel
theorem dX4_blame_57 : decode cX4_blame 57 = .ok (.iconst (-1), 1) := by decide +kernel
theorem dX4_blame_58 : decode cX4_blame 58 = .ok (.if_icmp .ne 5, 3) := by decide +kernel
theorem dX4_blame_61 : decode cX4_blame 61 = .ok (.iconst (-1), 1) := by decide +kernel
theorem dX4_blame_62 : decode cX4_blame 62 = .ok (.ireturn, 1) := by decide +kernel
theorem dX4_blame_63 : decode cX4_blame 63 = .ok (.iload_n 3, 1) := by decide +kernel
theorem dX4_blame_64 : decode cX4_blame 64 = .ok (.ifCond .ne 16, 3) := by decide +kernel
theorem dX4_blame_67 : decode cX4_blame 67 = .ok (.aload_n 0, 1) := by decide +kernel
theorem dX4_blame_68 : decode cX4_blame 68 = .ok (.getfield 12, 3) := by decide +kernel
theorem dX4_blame_71 : decode cX4_blame 71 = .ok (.getfield 123, 3) := by decide +kernel
theorem dX4_blame_74 : decode cX4_blame 74 = .ok (.iload 4, 2) := by decide +kernel
theorem dX4_blame_76 : decode cX4_blame 76 = .ok (.iaload, 1) := by decide +kernel
theorem dX4_blame_77 : decode cX4_blame 77 = .ok (.goto 13, 3) := by decide +kernel
theorem dX4_blame_80 : decode cX4_blame 80 = .ok (.aload_n 0, 1) := by decide +kernel
theorem dX4_blame_81 : decode cX4_blame 81 = .ok (.getfield 12, 3) := by decide +kernel
theorem dX4_blame_84 : decode cX4_blame 84 = .ok (.getfield 124, 3) := by decide +kernel
theorem dX4_blame_87 : decode cX4_blame 87 = .ok (.iload 4, 2) := by decide +kernel
theorem dX4_blame_89 : decode cX4_blame 89 = .ok (.iaload, 1) := by decide +kernel
theorem dX4_blame_90 : decode cX4_blame 90 = .ok (.ireturn, 1) := by decide +kernel
theorem dX4_first_0 : decode cX4_first 0 = .ok (.iload_n 1, 1) := by decide +kernel
theorem dX4_first_1 : decode cX4_first 1 = .ok (.invokestatic 50, 3) := by decide +kernel
theorem dX4_first_4 : decode cX4_first 4 = .ok (.ifCond .ne 6, 3) := by decide +kernel
theorem dX4_first_7 : decode cX4_first 7 = .ok (.bipush (-101), 2) := by decide +kernel
theorem dX4_first_9 : decode cX4_first 9 = .ok (.ireturn, 1) := by decide +kernel
theorem dX4_first_10 : decode cX4_first 10 = .ok (.iconst 0, 1) := by decide +kernel
theorem dX4_first_11 : decode cX4_first 11 = .ok (.istore_n 3, 1) := by decide +kernel
theorem dX4_first_12 : decode cX4_first 12 = .ok (.iconst 0, 1) := by decide +kernel
theorem dX4_first_13 : decode cX4_first 13 = .ok (.istore 4, 2) := by decide +kernel
theorem dX4_first_15 : decode cX4_first 15 = .ok (.iconst 0, 1) := by decide +kernel
theorem dX4_first_16 : decode cX4_first 16 = .ok (.istore 5, 2) := by decide +kernel
theorem dX4_first_18 : decode cX4_first 18 = .ok (.iload 5, 2) := by decide +kernel
theorem dX4_first_20 : decode cX4_first 20 = .ok (.aload_n 0, 1) := by decide +kernel
theorem dX4_first_21 : decode cX4_first 21 = .ok (.getfield 19, 3) := by decide +kernel
theorem dX4_first_24 : decode cX4_first 24 = .ok (.getfield 65, 3) := by decide +kernel
theorem dX4_first_27 : decode cX4_first 27 = .ok (.if_icmp .gt 86, 3) := by decide +kernel
theorem dX4_first_30 : decode cX4_first 30 = .ok (.iload 4, 2) := by decide +kernel
theorem dX4_first_32 : decode cX4_first 32 = .ok (.aload_n 0, 1) := by decide +kernel
theorem dX4_first_33 : decode cX4_first 33 = .ok (.getfield 12, 3) := by decide +kernel
theorem dX4_first_36 : decode cX4_first 36 = .ok (.getfield 68, 3) := by decide +kernel
theorem dX4_first_39 : decode cX4_first 39 = .ok (.if_icmp .ge 48, 3) := by decide +kernel
theorem dX4_first_42 : decode cX4_first 42 = .ok (.aload_n 0, 1) := by decide +kernel
theorem dX4_first_43 : decode cX4_first 43 = .ok (.getfield 12, 3) := by decide +kernel
theorem dX4_first_46 : decode cX4_first 46 = .ok (.getfield 124, 3) := by decide +kernel
theorem dX4_first_49 : decode cX4_first 49 = .ok (.iload 4, 2) := by decide +kernel
theorem dX4_first_51 : decode cX4_first 51 = .ok (.iaload, 1) := by decide +kernel
theorem dX4_first_52 : decode cX4_first 52 = .ok (.iload 5, 2) := by decide +kernel
theorem dX4_first_54 : decode cX4_first 54 = .ok (.if_icmp .gt 33, 3) := by decide +kernel
theorem dX4_first_57 : decode cX4_first 57 = .ok (.aload_n 0, 1) := by decide +kernel
theorem dX4_first_58 : decode cX4_first 58 = .ok (.getfield 12, 3) := by decide +kernel
theorem dX4_first_61 : decode cX4_first 61 = .ok (.iload 4, 2) := by decide +kernel
theorem dX4_first_63 : decode cX4_first 63 = .ok (.iload_n 1, 1) := by decide +kernel
theorem dX4_first_64 : decode cX4_first 64 = .ok (.invokevirtual 126, 3) := by decide +kernel
theorem dX4_first_67 : decode cX4_first 67 = .ok (.ifCond .eq 14, 3) := by decide +kernel
theorem dX4_first_70 : decode cX4_first 70 = .ok (.aload_n 0, 1) := by decide +kernel
theorem dX4_first_71 : decode cX4_first 71 = .ok (.getfield 12, 3) := by decide +kernel
theorem dX4_first_74 : decode cX4_first 74 = .ok (.getfield 117, 3) := by decide +kernel
theorem dX4_first_77 : decode cX4_first 77 = .ok (.iload 4, 2) := by decide +kernel
theorem dX4_first_79 : decode cX4_first 79 = .ok (.iaload, 1) := by decide +kernel
theorem dX4_first_80 : decode cX4_first 80 = .ok (.istore_n 3, 1) := by decide +kernel
theorem dX4_first_81 : decode cX4_first 81 = .ok (.iinc 4 1, 3) := by decide +kernel
theorem dX4_first_84 : decode cX4_first 84 = .ok (.goto (-54), 3) := by decide +kernel
theorem dX4_first_87 : decode cX4_first 87 = .ok (.iload_n 3, 1) := by decide +kernel
theorem dX4_first_88 : decode cX4_first 88 = .ok (.iload_n 2, 1) := by decide +kernel
theorem dX4_first_89 : decode cX4_first 89 = .ok (.if_icmp .ne 18, 3) := by decide +kernel
theorem dX4_first_92 : decode cX4_first 92 = .ok (.aload_n 0, 1) := by decide +kernel
theorem dX4_first_93 : decode cX4_first 93 = .ok (.getfield 19, 3) := by decide +kernel
theorem dX4_first_96 : decode cX4_first 96 = .ok (.iload 5, 2) := by decide +kernel
theorem dX4_first_98 : decode cX4_first 98 = .ok (.invokevirtual 110, 3) := by decide +kernel
theorem dX4_first_101 : decode cX4_first 101 = .ok (.ifCond .ne 6, 3) := by decide +kernel
theorem dX4_first_104 : decode cX4_first 104 = .ok (.iload 5, 2) := by decide +kernel
theorem dX4_first_106 : decode cX4_first 106 = .ok (.ireturn, 1) := by decide +kernel
theorem dX4_first_107 : decode cX4_first 107 = .ok (.iinc 5 1, 3) := by decide +kernel
theorem dX4_first_110 : decode cX4_first 110 = .ok (.goto (-92), 3) := by decide +kernel
theorem dX4_first_113 : decode cX4_first 113 = .ok (.iconst (-1), 1) := by decide +kernel
theorem dX4_first_114 : decode cX4_first 114 = .ok (.ireturn, 1) := by decide +kernel
theorem dX4_differs_0 : decode cX4_differs 0 = .ok (.aload_n 0, 1) := by decide +kernel
theorem dX4_differs_1 : decode cX4_differs 1 = .ok (.iload_n 1, 1) := by decide +kernel
theorem dX4_differs_2 : decode cX4_differs 2 = .ok (.iload_n 2, 1) := by decide +kernel
theorem dX4_differs_3 : decode cX4_differs 3 = .ok (.invokevirtual 130, 3) := by decide +kernel
theorem dX4_differs_6 : decode cX4_differs 6 = .ok (.istore_n 3, 1) := by decide +kernel
theorem dX4_differs_7 : decode cX4_differs 7 = .ok (.iload_n 3, 1) := by decide +kernel
theorem dX4_differs_8 : decode cX4_differs 8 = .ok (.ifCond .eq 5, 3) := by decide +kernel
theorem dX4_differs_11 : decode cX4_differs 11 = .ok (.iload_n 3, 1) := by decide +kernel
theorem dX4_differs_12 : decode cX4_differs 12 = .ok (.ireturn, 1) := by decide +kernel
theorem dX4_differs_13 : decode cX4_differs 13 = .ok (.aload_n 0, 1) := by decide +kernel
theorem dX4_differs_14 : decode cX4_differs 14 = .ok (.iload_n 1, 1) := by decide +kernel
theorem dX4_differs_15 : decode cX4_differs 15 = .ok (.iload_n 2, 1) := by decide +kernel
theorem dX4_differs_16 : decode cX4_differs 16 = .ok (.invokevirtual 133, 3) := by decide +kernel
theorem dX4_differs_19 : decode cX4_differs 19 = .ok (.iconst 0, 1) := by decide +kernel
theorem dX4_differs_20 : decode cX4_differs 20 = .ok (.istore 4, 2) := by decide +kernel
theorem dX4_differs_22 : decode cX4_differs 22 = .ok (.iconst 0, 1) := by decide +kernel
theorem dX4_differs_23 : decode cX4_differs 23 = .ok (.istore 5, 2) := by decide +kernel
theorem dX4_differs_25 : decode cX4_differs 25 = .ok (.iload 5, 2) := by decide +kernel
theorem dX4_differs_27 : decode cX4_differs 27 = .ok (.bipush 32, 2) := by decide +kernel
theorem dX4_differs_29 : decode cX4_differs 29 = .ok (.if_icmp .ge 29, 3) := by decide +kernel
theorem dX4_differs_32 : decode cX4_differs 32 = .ok (.aload_n 0, 1) := by decide +kernel
theorem dX4_differs_33 : decode cX4_differs 33 = .ok (.getfield 41, 3) := by decide +kernel
theorem dX4_differs_36 : decode cX4_differs 36 = .ok (.iload 5, 2) := by decide +kernel
theorem dX4_differs_38 : decode cX4_differs 38 = .ok (.iaload, 1) := by decide +kernel
theorem dX4_differs_39 : decode cX4_differs 39 = .ok (.aload_n 0, 1) := by decide +kernel
theorem dX4_differs_40 : decode cX4_differs 40 = .ok (.getfield 44, 3) := by decide +kernel
theorem dX4_differs_43 : decode cX4_differs 43 = .ok (.iload 5, 2) := by decide +kernel
theorem dX4_differs_45 : decode cX4_differs 45 = .ok (.iaload, 1) := by decide +kernel
theorem dX4_differs_46 : decode cX4_differs 46 = .ok (.if_icmp .eq 6, 3) := by decide +kernel
theorem dX4_differs_49 : decode cX4_differs 49 = .ok (.iinc 4 1, 3) := by decide +kernel
theorem dX4_differs_52 : decode cX4_differs 52 = .ok (.iinc 5 1, 3) := by decide +kernel
theorem dX4_differs_55 : decode cX4_differs 55 = .ok (.goto (-30), 3) := by decide +kernel
theorem dX4_differs_58 : decode cX4_differs 58 = .ok (.iload 4, 2) := by decide +kernel
theorem dX4_differs_60 : decode cX4_differs 60 = .ok (.ireturn, 1) := by decide +kernel
theorem dX4_difference_0 : decode cX4_difference 0 = .ok (.aload_n 0, 1) := by decide +kernel
theorem dX4_difference_1 : decode cX4_difference 1 = .ok (.iload_n 1, 1) := by decide +kernel
theorem dX4_difference_2 : decode cX4_difference 2 = .ok (.iload_n 2, 1) := by decide +kernel
theorem dX4_difference_3 : decode cX4_difference 3 = .ok (.invokevirtual 130, 3) := by decide +kernel
theorem dX4_difference_6 : decode cX4_difference 6 = .ok (.istore 4, 2) := by decide +kernel
theorem dX4_difference_8 : decode cX4_difference 8 = .ok (.iload 4, 2) := by decide +kernel
theorem dX4_difference_10 : decode cX4_difference 10 = .ok (.ifCond .eq 6, 3) := by decide +kernel
theorem dX4_difference_13 : decode cX4_difference 13 = .ok (.iload 4, 2) := by decide +kernel
theorem dX4_difference_15 : decode cX4_difference 15 = .ok (.ireturn, 1) := by decide +kernel
theorem dX4_difference_16 : decode cX4_difference 16 = .ok (.aload_n 0, 1) := by decide +kernel
theorem dX4_difference_17 : decode cX4_difference 17 = .ok (.iload_n 1, 1) := by decide +kernel
theorem dX4_difference_18 : decode cX4_difference 18 = .ok (.iload_n 2, 1) := by decide +kernel
theorem dX4_difference_19 : decode cX4_difference 19 = .ok (.invokevirtual 133, 3) := by decide +kernel
theorem dX4_difference_22 : decode cX4_difference 22 = .ok (.iconst 0, 1) := by decide +kernel
theorem dX4_difference_23 : decode cX4_difference 23 = .ok (.istore 5, 2) := by decide +kernel
theorem dX4_difference_25 : decode cX4_difference 25 = .ok (.iconst 0, 1) := by decide +kernel
theorem dX4_difference_26 : decode cX4_difference 26 = .ok (.istore 6, 2) := by decide +kernel
theorem dX4_difference_28 : decode cX4_difference 28 = .ok (.iload 6, 2) := by decide +kernel
theorem dX4_difference_30 : decode cX4_difference 30 = .ok (.bipush 32, 2) := by decide +kernel
theorem dX4_difference_32 : decode cX4_difference 32 = .ok (.if_icmp .ge 41, 3) := by decide +kernel
theorem dX4_difference_35 : decode cX4_difference 35 = .ok (.aload_n 0, 1) := by decide +kernel
theorem dX4_difference_36 : decode cX4_difference 36 = .ok (.getfield 41, 3) := by decide +kernel
theorem dX4_difference_39 : decode cX4_difference 39 = .ok (.iload 6, 2) := by decide +kernel
theorem dX4_difference_41 : decode cX4_difference 41 = .ok (.iaload, 1) := by decide +kernel
theorem dX4_difference_42 : decode cX4_difference 42 = .ok (.aload_n 0, 1) := by decide +kernel
theorem dX4_difference_43 : decode cX4_difference 43 = .ok (.getfield 44, 3) := by decide +kernel
theorem dX4_difference_46 : decode cX4_difference 46 = .ok (.iload 6, 2) := by decide +kernel
theorem dX4_difference_48 : decode cX4_difference 48 = .ok (.iaload, 1) := by decide +kernel
theorem dX4_difference_49 : decode cX4_difference 49 = .ok (.if_icmp .ne 6, 3) := by decide +kernel
theorem dX4_difference_52 : decode cX4_difference 52 = .ok (.goto 15, 3) := by decide +kernel
theorem dX4_difference_55 : decode cX4_difference 55 = .ok (.iload 5, 2) := by decide +kernel
theorem dX4_difference_57 : decode cX4_difference 57 = .ok (.iload_n 3, 1) := by decide +kernel
theorem dX4_difference_58 : decode cX4_difference 58 = .ok (.if_icmp .ne 6, 3) := by decide +kernel
theorem dX4_difference_61 : decode cX4_difference 61 = .ok (.iload 6, 2) := by decide +kernel
theorem dX4_difference_63 : decode cX4_difference 63 = .ok (.ireturn, 1) := by decide +kernel
theorem dX4_difference_64 : decode cX4_difference 64 = .ok (.iinc 5 1, 3) := by decide +kernel
theorem dX4_difference_67 : decode cX4_difference 67 = .ok (.iinc 6 1, 3) := by decide +kernel
theorem dX4_difference_70 : decode cX4_difference 70 = .ok (.goto (-42), 3) := by decide +kernel
theorem dX4_difference_73 : decode cX4_difference 73 = .ok (.iconst (-1), 1) := by decide +kernel
theorem dX4_difference_74 : decode cX4_difference 74 = .ok (.ireturn, 1) := by decide +kernel
theorem dX4_rule_0 : decode cX4_rule 0 = .ok (.iload_n 1, 1) := by decide +kernel
theorem dX4_rule_1 : decode cX4_rule 1 = .ok (.ifCond .lt 9, 3) := by decide +kernel
theorem dX4_rule_4 : decode cX4_rule 4 = .ok (.iload_n 1, 1) := by decide +kernel
theorem dX4_rule_5 : decode cX4_rule 5 = .ok (.bipush 100, 2) := by decide +kernel
theorem dX4_rule_7 : decode cX4_rule 7 = .ok (.if_icmp .le 6, 3) := by decide +kernel
theorem dX4_rule_10 : decode cX4_rule 10 = .ok (.bipush (-102), 2) := by decide +kernel
theorem dX4_rule_12 : decode cX4_rule 12 = .ok (.ireturn, 1) := by decide +kernel
theorem dX4_rule_13 : decode cX4_rule 13 = .ok (.aload_n 0, 1) := by decide +kernel
theorem dX4_rule_14 : decode cX4_rule 14 = .ok (.getfield 137, 3) := by decide +kernel
theorem dX4_rule_17 : decode cX4_rule 17 = .ok (.istore_n 2, 1) := by decide +kernel
theorem dX4_rule_18 : decode cX4_rule 18 = .ok (.aload_n 0, 1) := by decide +kernel
theorem dX4_rule_19 : decode cX4_rule 19 = .ok (.iload_n 1, 1) := by decide +kernel
theorem dX4_rule_20 : decode cX4_rule 20 = .ok (.putfield 137, 3) := by decide +kernel
theorem dX4_rule_23 : decode cX4_rule 23 = .ok (.iload_n 2, 1) := by decide +kernel
theorem dX4_rule_24 : decode cX4_rule 24 = .ok (.ireturn, 1) := by decide +kernel
theorem dX4_prune_0 : decode cX4_prune 0 = .ok (.aload_n 0, 1) := by decide +kernel
theorem dX4_prune_1 : decode cX4_prune 1 = .ok (.iload_n 1, 1) := by decide +kernel
theorem dX4_prune_2 : decode cX4_prune 2 = .ok (.invokevirtual 103, 3) := by decide +kernel
theorem dX4_prune_5 : decode cX4_prune 5 = .ok (.ifCond .ne 6, 3) := by decide +kernel
theorem dX4_prune_8 : decode cX4_prune 8 = .ok (.bipush (-101), 2) := by decide +kernel
theorem dX4_prune_10 : decode cX4_prune 10 = .ok (.ireturn, 1) := by decide +kernel
theorem dX4_prune_11 : decode cX4_prune 11 = .ok (.aload_n 0, 1) := by decide +kernel
theorem dX4_prune_12 : decode cX4_prune 12 = .ok (.getfield 19, 3) := by decide +kernel
theorem dX4_prune_15 : decode cX4_prune 15 = .ok (.iload_n 1, 1) := by decide +kernel
theorem dX4_prune_16 : decode cX4_prune 16 = .ok (.aload_n 0, 1) := by decide +kernel
theorem dX4_prune_17 : decode cX4_prune 17 = .ok (.getfield 137, 3) := by decide +kernel
theorem dX4_prune_20 : decode cX4_prune 20 = .ok (.invokevirtual 140, 3) := by decide +kernel
theorem dX4_prune_23 : decode cX4_prune 23 = .ok (.istore_n 2, 1) := by decide +kernel
theorem dX4_prune_24 : decode cX4_prune 24 = .ok (.iload_n 2, 1) := by decide +kernel
theorem dX4_prune_25 : decode cX4_prune 25 = .ok (.ifCond .ne 5, 3) := by decide +kernel
theorem dX4_prune_28 : decode cX4_prune 28 = .ok (.iconst 0, 1) := by decide +kernel
theorem dX4_prune_29 : decode cX4_prune 29 = .ok (.ireturn, 1) := by decide +kernel
theorem dX4_prune_30 : decode cX4_prune 30 = .ok (.aload_n 0, 1) := by decide +kernel
theorem dX4_prune_31 : decode cX4_prune 31 = .ok (.getfield 143, 3) := by decide +kernel
theorem dX4_prune_34 : decode cX4_prune 34 = .ok (.bipush 8, 2) := by decide +kernel
theorem dX4_prune_36 : decode cX4_prune 36 = .ok (.if_icmp .lt 6, 3) := by decide +kernel
theorem dX4_prune_39 : decode cX4_prune 39 = .ok (.bipush (-105), 2) := by decide +kernel
theorem dX4_prune_41 : decode cX4_prune 41 = .ok (.ireturn, 1) := by decide +kernel
theorem dX4_prune_42 : decode cX4_prune 42 = .ok (.aload_n 0, 1) := by decide +kernel
theorem dX4_prune_43 : decode cX4_prune 43 = .ok (.getfield 19, 3) := by decide +kernel
theorem dX4_prune_46 : decode cX4_prune 46 = .ok (.aload_n 0, 1) := by decide +kernel
theorem dX4_prune_47 : decode cX4_prune 47 = .ok (.getfield 143, 3) := by decide +kernel
theorem dX4_prune_50 : decode cX4_prune 50 = .ok (.iload_n 1, 1) := by decide +kernel
theorem dX4_prune_51 : decode cX4_prune 51 = .ok (.aload_n 0, 1) := by decide +kernel
theorem dX4_prune_52 : decode cX4_prune 52 = .ok (.getfield 137, 3) := by decide +kernel
theorem dX4_prune_55 : decode cX4_prune 55 = .ok (.invokevirtual 146, 3) := by decide +kernel
theorem dX4_prune_58 : decode cX4_prune 58 = .ok (.aload_n 0, 1) := by decide +kernel
theorem dX4_prune_59 : decode cX4_prune 59 = .ok (.getfield 12, 3) := by decide +kernel
theorem dX4_prune_62 : decode cX4_prune 62 = .ok (.aload_n 0, 1) := by decide +kernel
theorem dX4_prune_63 : decode cX4_prune 63 = .ok (.getfield 143, 3) := by decide +kernel
theorem dX4_prune_66 : decode cX4_prune 66 = .ok (.aload_n 0, 1) := by decide +kernel
theorem dX4_prune_67 : decode cX4_prune 67 = .ok (.getfield 19, 3) := by decide +kernel
theorem dX4_prune_70 : decode cX4_prune 70 = .ok (.invokevirtual 149, 3) := by decide +kernel
theorem dX4_prune_73 : decode cX4_prune 73 = .ok (.aload_n 0, 1) := by decide +kernel
theorem dX4_prune_74 : decode cX4_prune 74 = .ok (.dup, 1) := by decide +kernel
theorem dX4_prune_75 : decode cX4_prune 75 = .ok (.getfield 143, 3) := by decide +kernel
theorem dX4_prune_78 : decode cX4_prune 78 = .ok (.iconst 1, 1) := by decide +kernel
theorem dX4_prune_79 : decode cX4_prune 79 = .ok (.iadd, 1) := by decide +kernel
theorem dX4_prune_80 : decode cX4_prune 80 = .ok (.putfield 143, 3) := by decide +kernel
theorem dX4_prune_83 : decode cX4_prune 83 = .ok (.iload_n 2, 1) := by decide +kernel
theorem dX4_prune_84 : decode cX4_prune 84 = .ok (.ireturn, 1) := by decide +kernel
theorem dX4_pruned_0 : decode cX4_pruned 0 = .ok (.aload_n 0, 1) := by decide +kernel
theorem dX4_pruned_1 : decode cX4_pruned 1 = .ok (.iload_n 1, 1) := by decide +kernel
theorem dX4_pruned_2 : decode cX4_pruned 2 = .ok (.invokevirtual 103, 3) := by decide +kernel
theorem dX4_pruned_5 : decode cX4_pruned 5 = .ok (.ifCond .ne 6, 3) := by decide +kernel
theorem dX4_pruned_8 : decode cX4_pruned 8 = .ok (.bipush (-101), 2) := by decide +kernel
theorem dX4_pruned_10 : decode cX4_pruned 10 = .ok (.ireturn, 1) := by decide +kernel
theorem dX4_pruned_11 : decode cX4_pruned 11 = .ok (.aload_n 0, 1) := by decide +kernel
theorem dX4_pruned_12 : decode cX4_pruned 12 = .ok (.getfield 19, 3) := by decide +kernel
theorem dX4_pruned_15 : decode cX4_pruned 15 = .ok (.iload_n 1, 1) := by decide +kernel
theorem dX4_pruned_16 : decode cX4_pruned 16 = .ok (.invokevirtual 110, 3) := by decide +kernel
theorem dX4_pruned_19 : decode cX4_pruned 19 = .ok (.ifCond .eq 7, 3) := by decide +kernel
theorem dX4_pruned_22 : decode cX4_pruned 22 = .ok (.iconst 1, 1) := by decide +kernel
theorem dX4_pruned_23 : decode cX4_pruned 23 = .ok (.goto 4, 3) := by decide +kernel
theorem dX4_pruned_26 : decode cX4_pruned 26 = .ok (.iconst 0, 1) := by decide +kernel
theorem dX4_pruned_27 : decode cX4_pruned 27 = .ok (.ireturn, 1) := by decide +kernel
theorem dX4_bring_0 : decode cX4_bring 0 = .ok (.aload_n 0, 1) := by decide +kernel
theorem dX4_bring_1 : decode cX4_bring 1 = .ok (.getfield 143, 3) := by decide +kernel
theorem dX4_bring_4 : decode cX4_bring 4 = .ok (.ifCond .ne 6, 3) := by decide +kernel
theorem dX4_bring_7 : decode cX4_bring 7 = .ok (.bipush (-103), 2) := by decide +kernel
theorem dX4_bring_9 : decode cX4_bring 9 = .ok (.ireturn, 1) := by decide +kernel
theorem dX4_bring_10 : decode cX4_bring 10 = .ok (.aload_n 0, 1) := by decide +kernel
theorem dX4_bring_11 : decode cX4_bring 11 = .ok (.dup, 1) := by decide +kernel
theorem dX4_bring_12 : decode cX4_bring 12 = .ok (.getfield 143, 3) := by decide +kernel
theorem dX4_bring_15 : decode cX4_bring 15 = .ok (.iconst 1, 1) := by decide +kernel
theorem dX4_bring_16 : decode cX4_bring 16 = .ok (.isub, 1) := by decide +kernel
theorem dX4_bring_17 : decode cX4_bring 17 = .ok (.putfield 143, 3) := by decide +kernel
theorem dX4_bring_20 : decode cX4_bring 20 = .ok (.aload_n 0, 1) := by decide +kernel
theorem dX4_bring_21 : decode cX4_bring 21 = .ok (.getfield 19, 3) := by decide +kernel
theorem dX4_bring_24 : decode cX4_bring 24 = .ok (.aload_n 0, 1) := by decide +kernel
theorem dX4_bring_25 : decode cX4_bring 25 = .ok (.getfield 143, 3) := by decide +kernel
theorem dX4_bring_28 : decode cX4_bring 28 = .ok (.iconst (-1), 1) := by decide +kernel
theorem dX4_bring_29 : decode cX4_bring 29 = .ok (.invokevirtual 153, 3) := by decide +kernel
theorem dX4_bring_32 : decode cX4_bring 32 = .ok (.aload_n 0, 1) := by decide +kernel
theorem dX4_bring_33 : decode cX4_bring 33 = .ok (.getfield 12, 3) := by decide +kernel
theorem dX4_bring_36 : decode cX4_bring 36 = .ok (.aload_n 0, 1) := by decide +kernel
theorem dX4_bring_37 : decode cX4_bring 37 = .ok (.getfield 143, 3) := by decide +kernel
theorem dX4_bring_40 : decode cX4_bring 40 = .ok (.invokevirtual 156, 3) := by decide +kernel
theorem dX4_bring_43 : decode cX4_bring 43 = .ok (.ireturn, 1) := by decide +kernel
theorem dX4_forget_0 : decode cX4_forget 0 = .ok (.iconst 0, 1) := by decide +kernel
theorem dX4_forget_1 : decode cX4_forget 1 = .ok (.istore_n 1, 1) := by decide +kernel
theorem dX4_forget_2 : decode cX4_forget 2 = .ok (.iload_n 1, 1) := by decide +kernel
theorem dX4_forget_3 : decode cX4_forget 3 = .ok (.aload_n 0, 1) := by decide +kernel
theorem dX4_forget_4 : decode cX4_forget 4 = .ok (.getfield 143, 3) := by decide +kernel
theorem dX4_forget_7 : decode cX4_forget 7 = .ok (.if_icmp .ge 19, 3) := by decide +kernel
theorem dX4_forget_10 : decode cX4_forget 10 = .ok (.aload_n 0, 1) := by decide +kernel
theorem dX4_forget_11 : decode cX4_forget 11 = .ok (.getfield 19, 3) := by decide +kernel
theorem dX4_forget_14 : decode cX4_forget 14 = .ok (.iload_n 1, 1) := by decide +kernel
theorem dX4_forget_15 : decode cX4_forget 15 = .ok (.bipush 8, 2) := by decide +kernel
theorem dX4_forget_17 : decode cX4_forget 17 = .ok (.invokevirtual 153, 3) := by decide +kernel
theorem dX4_forget_20 : decode cX4_forget 20 = .ok (.iinc 1 1, 3) := by decide +kernel
theorem dX4_forget_23 : decode cX4_forget 23 = .ok (.goto (-21), 3) := by decide +kernel
theorem dX4_forget_26 : decode cX4_forget 26 = .ok (.aload_n 0, 1) := by decide +kernel
theorem dX4_forget_27 : decode cX4_forget 27 = .ok (.iconst 0, 1) := by decide +kernel
theorem dX4_forget_28 : decode cX4_forget 28 = .ok (.putfield 143, 3) := by decide +kernel
theorem dX4_forget_31 : decode cX4_forget 31 = .ok (.aload_n 0, 1) := by decide +kernel
theorem dX4_forget_32 : decode cX4_forget 32 = .ok (.getfield 12, 3) := by decide +kernel
theorem dX4_forget_35 : decode cX4_forget 35 = .ok (.invokevirtual 160, 3) := by decide +kernel
theorem dX4_forget_38 : decode cX4_forget 38 = .ok (.ireturn, 1) := by decide +kernel
theorem dX4_archive_0 : decode cX4_archive 0 = .ok (.iload_n 1, 1) := by decide +kernel
theorem dX4_archive_1 : decode cX4_archive 1 = .ok (.ifCond .lt 11, 3) := by decide +kernel
theorem dX4_archive_4 : decode cX4_archive 4 = .ok (.iload_n 1, 1) := by decide +kernel
theorem dX4_archive_5 : decode cX4_archive 5 = .ok (.aload_n 0, 1) := by decide +kernel
theorem dX4_archive_6 : decode cX4_archive 6 = .ok (.getfield 143, 3) := by decide +kernel
theorem dX4_archive_9 : decode cX4_archive 9 = .ok (.if_icmp .lt 6, 3) := by decide +kernel
theorem dX4_archive_12 : decode cX4_archive 12 = .ok (.bipush (-101), 2) := by decide +kernel
theorem dX4_archive_14 : decode cX4_archive 14 = .ok (.ireturn, 1) := by decide +kernel
theorem dX4_archive_15 : decode cX4_archive 15 = .ok (.iload_n 2, 1) := by decide +kernel
theorem dX4_archive_16 : decode cX4_archive 16 = .ok (.ifCond .lt 8, 3) := by decide +kernel
theorem dX4_archive_19 : decode cX4_archive 19 = .ok (.iload_n 2, 1) := by decide +kernel
theorem dX4_archive_20 : decode cX4_archive 20 = .ok (.iconst 1, 1) := by decide +kernel
theorem dX4_archive_21 : decode cX4_archive 21 = .ok (.if_icmp .le 6, 3) := by decide +kernel
theorem dX4_archive_24 : decode cX4_archive 24 = .ok (.bipush (-102), 2) := by decide +kernel
theorem dX4_archive_26 : decode cX4_archive 26 = .ok (.ireturn, 1) := by decide +kernel
theorem dX4_archive_27 : decode cX4_archive 27 = .ok (.iload_n 2, 1) := by decide +kernel
theorem dX4_archive_28 : decode cX4_archive 28 = .ok (.ifCond .ne 14, 3) := by decide +kernel
theorem dX4_archive_31 : decode cX4_archive 31 = .ok (.aload_n 0, 1) := by decide +kernel
theorem dX4_archive_32 : decode cX4_archive 32 = .ok (.getfield 12, 3) := by decide +kernel
theorem dX4_archive_35 : decode cX4_archive 35 = .ok (.iload_n 1, 1) := by decide +kernel
theorem dX4_archive_36 : decode cX4_archive 36 = .ok (.invokevirtual 163, 3) := by decide +kernel
theorem dX4_archive_39 : decode cX4_archive 39 = .ok (.goto 11, 3) := by decide +kernel
theorem dX4_archive_42 : decode cX4_archive 42 = .ok (.aload_n 0, 1) := by decide +kernel
theorem dX4_archive_43 : decode cX4_archive 43 = .ok (.getfield 19, 3) := by decide +kernel
theorem dX4_archive_46 : decode cX4_archive 46 = .ok (.iload_n 1, 1) := by decide +kernel
theorem dX4_archive_47 : decode cX4_archive 47 = .ok (.invokevirtual 166, 3) := by decide +kernel
theorem dX4_archive_50 : decode cX4_archive 50 = .ok (.ireturn, 1) := by decide +kernel
theorem dX4_replay_0 : decode cX4_replay 0 = .ok (.aload_n 0, 1) := by decide +kernel
theorem dX4_replay_1 : decode cX4_replay 1 = .ok (.iload_n 1, 1) := by decide +kernel
theorem dX4_replay_2 : decode cX4_replay 2 = .ok (.iload_n 2, 1) := by decide +kernel
theorem dX4_replay_3 : decode cX4_replay 3 = .ok (.invokevirtual 167, 3) := by decide +kernel
theorem dX4_replay_6 : decode cX4_replay 6 = .ok (.istore_n 3, 1) := by decide +kernel
theorem dX4_replay_7 : decode cX4_replay 7 = .ok (.iload_n 3, 1) := by decide +kernel
theorem dX4_replay_8 : decode cX4_replay 8 = .ok (.ifCond .eq 8, 3) := by decide +kernel
theorem dX4_replay_11 : decode cX4_replay 11 = .ok (.iload_n 3, 1) := by decide +kernel
theorem dX4_replay_12 : decode cX4_replay 12 = .ok (.invokestatic 106, 3) := by decide +kernel
theorem dX4_replay_15 : decode cX4_replay 15 = .ok (.lreturn, 1) := by decide +kernel
theorem dX4_replay_16 : decode cX4_replay 16 = .ok (.aload_n 0, 1) := by decide +kernel
theorem dX4_replay_17 : decode cX4_replay 17 = .ok (.getfield 12, 3) := by decide +kernel
theorem dX4_replay_20 : decode cX4_replay 20 = .ok (.iload_n 1, 1) := by decide +kernel
theorem dX4_replay_21 : decode cX4_replay 21 = .ok (.aload_n 0, 1) := by decide +kernel
theorem dX4_replay_22 : decode cX4_replay 22 = .ok (.getfield 41, 3) := by decide +kernel
theorem dX4_replay_25 : decode cX4_replay 25 = .ok (.invokevirtual 170, 3) := by decide +kernel
theorem dX4_replay_28 : decode cX4_replay 28 = .ok (.aload_n 0, 1) := by decide +kernel
theorem dX4_replay_29 : decode cX4_replay 29 = .ok (.getfield 12, 3) := by decide +kernel
theorem dX4_replay_32 : decode cX4_replay 32 = .ok (.iload_n 1, 1) := by decide +kernel
theorem dX4_replay_33 : decode cX4_replay 33 = .ok (.iload_n 2, 1) := by decide +kernel
theorem dX4_replay_34 : decode cX4_replay 34 = .ok (.aload_n 0, 1) := by decide +kernel
theorem dX4_replay_35 : decode cX4_replay 35 = .ok (.getfield 41, 3) := by decide +kernel
theorem dX4_replay_38 : decode cX4_replay 38 = .ok (.invokevirtual 174, 3) := by decide +kernel
theorem dX4_replay_41 : decode cX4_replay 41 = .ok (.pop, 1) := by decide +kernel
theorem dX4_replay_42 : decode cX4_replay 42 = .ok (.aload_n 0, 1) := by decide +kernel
theorem dX4_replay_43 : decode cX4_replay 43 = .ok (.getfield 33, 3) := by decide +kernel
theorem dX4_replay_46 : decode cX4_replay 46 = .ok (.aload_n 0, 1) := by decide +kernel
theorem dX4_replay_47 : decode cX4_replay 47 = .ok (.getfield 41, 3) := by decide +kernel
theorem dX4_replay_50 : decode cX4_replay 50 = .ok (.invokevirtual 88, 3) := by decide +kernel
theorem dX4_replay_53 : decode cX4_replay 53 = .ok (.i2l, 1) := by decide +kernel
theorem dX4_replay_54 : decode cX4_replay 54 = .ok (.lreturn, 1) := by decide +kernel
theorem dX4_replayed_0 : decode cX4_replayed 0 = .ok (.aload_n 0, 1) := by decide +kernel
theorem dX4_replayed_1 : decode cX4_replayed 1 = .ok (.iload_n 1, 1) := by decide +kernel
theorem dX4_replayed_2 : decode cX4_replayed 2 = .ok (.iload_n 2, 1) := by decide +kernel
theorem dX4_replayed_3 : decode cX4_replayed 3 = .ok (.invokevirtual 167, 3) := by decide +kernel
theorem dX4_replayed_6 : decode cX4_replayed 6 = .ok (.istore_n 3, 1) := by decide +kernel
theorem dX4_replayed_7 : decode cX4_replayed 7 = .ok (.iload_n 3, 1) := by decide +kernel
theorem dX4_replayed_8 : decode cX4_replayed 8 = .ok (.ifCond .eq 5, 3) := by decide +kernel
theorem dX4_replayed_11 : decode cX4_replayed 11 = .ok (.iload_n 3, 1) := by decide +kernel
theorem dX4_replayed_12 : decode cX4_replayed 12 = .ok (.ireturn, 1) := by decide +kernel
theorem dX4_replayed_13 : decode cX4_replayed 13 = .ok (.aload_n 0, 1) := by decide +kernel
theorem dX4_replayed_14 : decode cX4_replayed 14 = .ok (.getfield 12, 3) := by decide +kernel
theorem dX4_replayed_17 : decode cX4_replayed 17 = .ok (.iload_n 1, 1) := by decide +kernel
theorem dX4_replayed_18 : decode cX4_replayed 18 = .ok (.iload_n 2, 1) := by decide +kernel
theorem dX4_replayed_19 : decode cX4_replayed 19 = .ok (.aload_n 0, 1) := by decide +kernel
theorem dX4_replayed_20 : decode cX4_replayed 20 = .ok (.getfield 41, 3) := by decide +kernel
theorem dX4_replayed_23 : decode cX4_replayed 23 = .ok (.invokevirtual 174, 3) := by decide +kernel
theorem dX4_replayed_26 : decode cX4_replayed 26 = .ok (.ireturn, 1) := by decide +kernel
theorem dX4_proof_0 : decode cX4_proof 0 = .ok (.iload_n 1, 1) := by decide +kernel
theorem dX4_proof_1 : decode cX4_proof 1 = .ok (.invokestatic 50, 3) := by decide +kernel
theorem dX4_proof_4 : decode cX4_proof 4 = .ok (.ifCond .eq 11, 3) := by decide +kernel
theorem dX4_proof_7 : decode cX4_proof 7 = .ok (.aload_n 0, 1) := by decide +kernel
theorem dX4_proof_8 : decode cX4_proof 8 = .ok (.iload_n 2, 1) := by decide +kernel
theorem dX4_proof_9 : decode cX4_proof 9 = .ok (.invokevirtual 103, 3) := by decide +kernel
theorem dX4_proof_12 : decode cX4_proof 12 = .ok (.ifCond .ne 9, 3) := by decide +kernel
theorem dX4_proof_15 : decode cX4_proof 15 = .ok (.bipush (-101), 2) := by decide +kernel
theorem dX4_proof_17 : decode cX4_proof 17 = .ok (.invokestatic 106, 3) := by decide +kernel
theorem dX4_proof_20 : decode cX4_proof 20 = .ok (.lreturn, 1) := by decide +kernel
theorem dX4_proof_21 : decode cX4_proof 21 = .ok (.iload_n 3, 1) := by decide +kernel
theorem dX4_proof_22 : decode cX4_proof 22 = .ok (.ifCond .lt 8, 3) := by decide +kernel
theorem dX4_proof_25 : decode cX4_proof 25 = .ok (.iload_n 3, 1) := by decide +kernel
theorem dX4_proof_26 : decode cX4_proof 26 = .ok (.iconst 5, 1) := by decide +kernel
theorem dX4_proof_27 : decode cX4_proof 27 = .ok (.if_icmp .lt 9, 3) := by decide +kernel
theorem dX4_proof_30 : decode cX4_proof 30 = .ok (.bipush (-102), 2) := by decide +kernel
theorem dX4_proof_32 : decode cX4_proof 32 = .ok (.invokestatic 106, 3) := by decide +kernel
theorem dX4_proof_35 : decode cX4_proof 35 = .ok (.lreturn, 1) := by decide +kernel
theorem dX4_proof_36 : decode cX4_proof 36 = .ok (.aload_n 0, 1) := by decide +kernel
theorem dX4_proof_37 : decode cX4_proof 37 = .ok (.getfield 19, 3) := by decide +kernel
theorem dX4_proof_40 : decode cX4_proof 40 = .ok (.iload_n 2, 1) := by decide +kernel
theorem dX4_proof_41 : decode cX4_proof 41 = .ok (.invokevirtual 110, 3) := by decide +kernel
theorem dX4_proof_44 : decode cX4_proof 44 = .ok (.ifCond .eq 9, 3) := by decide +kernel
theorem dX4_proof_47 : decode cX4_proof 47 = .ok (.bipush (-104), 2) := by decide +kernel
theorem dX4_proof_49 : decode cX4_proof 49 = .ok (.invokestatic 106, 3) := by decide +kernel
theorem dX4_proof_52 : decode cX4_proof 52 = .ok (.lreturn, 1) := by decide +kernel
theorem dX4_proof_53 : decode cX4_proof 53 = .ok (.aload_n 0, 1) := by decide +kernel
theorem dX4_proof_54 : decode cX4_proof 54 = .ok (.getfield 12, 3) := by decide +kernel
theorem dX4_proof_57 : decode cX4_proof 57 = .ok (.iload_n 2, 1) := by decide +kernel
theorem dX4_proof_58 : decode cX4_proof 58 = .ok (.aload_n 0, 1) := by decide +kernel
theorem dX4_proof_59 : decode cX4_proof 59 = .ok (.getfield 41, 3) := by decide +kernel
theorem dX4_proof_62 : decode cX4_proof 62 = .ok (.invokevirtual 170, 3) := by decide +kernel
theorem dX4_proof_65 : decode cX4_proof 65 = .ok (.aload_n 0, 1) := by decide +kernel
theorem dX4_proof_66 : decode cX4_proof 66 = .ok (.getfield 33, 3) := by decide +kernel
theorem dX4_proof_69 : decode cX4_proof 69 = .ok (.aload_n 0, 1) := by decide +kernel
theorem dX4_proof_70 : decode cX4_proof 70 = .ok (.getfield 41, 3) := by decide +kernel
theorem dX4_proof_73 : decode cX4_proof 73 = .ok (.invokevirtual 88, 3) := by decide +kernel
theorem dX4_proof_76 : decode cX4_proof 76 = .ok (.pop, 1) := by decide +kernel
theorem dX4_proof_77 : decode cX4_proof 77 = .ok (.aload_n 0, 1) := by decide +kernel
theorem dX4_proof_78 : decode cX4_proof 78 = .ok (.getfield 33, 3) := by decide +kernel
theorem dX4_proof_81 : decode cX4_proof 81 = .ok (.iload_n 1, 1) := by decide +kernel
theorem dX4_proof_82 : decode cX4_proof 82 = .ok (.iload_n 3, 1) := by decide +kernel
theorem dX4_proof_83 : decode cX4_proof 83 = .ok (.invokevirtual 178, 3) := by decide +kernel
theorem dX4_proof_86 : decode cX4_proof 86 = .ok (.i2l, 1) := by decide +kernel
theorem dX4_proof_87 : decode cX4_proof 87 = .ok (.lreturn, 1) := by decide +kernel
theorem dX4_lay_0 : decode cX4_lay 0 = .ok (.iload_n 1, 1) := by decide +kernel
theorem dX4_lay_1 : decode cX4_lay 1 = .ok (.ifCond .lt 8, 3) := by decide +kernel
theorem dX4_lay_4 : decode cX4_lay 4 = .ok (.iload_n 1, 1) := by decide +kernel
theorem dX4_lay_5 : decode cX4_lay 5 = .ok (.iconst 5, 1) := by decide +kernel
theorem dX4_lay_6 : decode cX4_lay 6 = .ok (.if_icmp .lt 6, 3) := by decide +kernel
theorem dX4_lay_9 : decode cX4_lay 9 = .ok (.bipush (-102), 2) := by decide +kernel
theorem dX4_lay_11 : decode cX4_lay 11 = .ok (.ireturn, 1) := by decide +kernel
theorem dX4_lay_12 : decode cX4_lay 12 = .ok (.aload_n 0, 1) := by decide +kernel
theorem dX4_lay_13 : decode cX4_lay 13 = .ok (.getfield 37, 3) := by decide +kernel
theorem dX4_lay_16 : decode cX4_lay 16 = .ok (.iload_n 1, 1) := by decide +kernel
theorem dX4_lay_17 : decode cX4_lay 17 = .ok (.iaload, 1) := by decide +kernel
theorem dX4_lay_18 : decode cX4_lay 18 = .ok (.istore_n 3, 1) := by decide +kernel
theorem dX4_lay_19 : decode cX4_lay 19 = .ok (.aload_n 0, 1) := by decide +kernel
theorem dX4_lay_20 : decode cX4_lay 20 = .ok (.getfield 37, 3) := by decide +kernel
theorem dX4_lay_23 : decode cX4_lay 23 = .ok (.iload_n 1, 1) := by decide +kernel
theorem dX4_lay_24 : decode cX4_lay 24 = .ok (.iload_n 2, 1) := by decide +kernel
theorem dX4_lay_25 : decode cX4_lay 25 = .ok (.iastore, 1) := by decide +kernel
theorem dX4_lay_26 : decode cX4_lay 26 = .ok (.iload_n 3, 1) := by decide +kernel
theorem dX4_lay_27 : decode cX4_lay 27 = .ok (.ireturn, 1) := by decide +kernel
theorem dX4_proves_0 : decode cX4_proves 0 = .ok (.iload_n 1, 1) := by decide +kernel
theorem dX4_proves_1 : decode cX4_proves 1 = .ok (.invokestatic 50, 3) := by decide +kernel
theorem dX4_proves_4 : decode cX4_proves 4 = .ok (.ifCond .eq 11, 3) := by decide +kernel
theorem dX4_proves_7 : decode cX4_proves 7 = .ok (.aload_n 0, 1) := by decide +kernel
theorem dX4_proves_8 : decode cX4_proves 8 = .ok (.iload_n 3, 1) := by decide +kernel
theorem dX4_proves_9 : decode cX4_proves 9 = .ok (.invokevirtual 103, 3) := by decide +kernel
theorem dX4_proves_12 : decode cX4_proves 12 = .ok (.ifCond .ne 6, 3) := by decide +kernel
theorem dX4_proves_15 : decode cX4_proves 15 = .ok (.bipush (-101), 2) := by decide +kernel
theorem dX4_proves_17 : decode cX4_proves 17 = .ok (.ireturn, 1) := by decide +kernel
theorem dX4_proves_18 : decode cX4_proves 18 = .ok (.iload_n 1, 1) := by decide +kernel
theorem dX4_proves_19 : decode cX4_proves 19 = .ok (.iload_n 2, 1) := by decide +kernel
theorem dX4_proves_20 : decode cX4_proves 20 = .ok (.aload_n 0, 1) := by decide +kernel
theorem dX4_proves_21 : decode cX4_proves 21 = .ok (.getfield 37, 3) := by decide +kernel
theorem dX4_proves_24 : decode cX4_proves 24 = .ok (.invokestatic 181, 3) := by decide +kernel
theorem dX4_proves_27 : decode cX4_proves 27 = .ok (.aload_n 0, 1) := by decide +kernel
theorem dX4_proves_28 : decode cX4_proves 28 = .ok (.getfield 19, 3) := by decide +kernel
theorem dX4_proves_31 : decode cX4_proves 31 = .ok (.getfield 120, 3) := by decide +kernel
theorem dX4_proves_34 : decode cX4_proves 34 = .ok (.iload_n 3, 1) := by decide +kernel
theorem dX4_proves_35 : decode cX4_proves 35 = .ok (.iaload, 1) := by decide +kernel
theorem dX4_proves_36 : decode cX4_proves 36 = .ok (.if_icmp .ne 7, 3) := by decide +kernel
theorem dX4_proves_39 : decode cX4_proves 39 = .ok (.iconst 1, 1) := by decide +kernel
theorem dX4_proves_40 : decode cX4_proves 40 = .ok (.goto 4, 3) := by decide +kernel
theorem dX4_proves_43 : decode cX4_proves 43 = .ok (.iconst 0, 1) := by decide +kernel
theorem dX4_proves_44 : decode cX4_proves 44 = .ok (.ireturn, 1) := by decide +kernel
theorem dX4_back_0 : decode cX4_back 0 = .ok (.aload_n 0, 1) := by decide +kernel
theorem dX4_back_1 : decode cX4_back 1 = .ok (.iload_n 1, 1) := by decide +kernel
theorem dX4_back_2 : decode cX4_back 2 = .ok (.invokevirtual 103, 3) := by decide +kernel
theorem dX4_back_5 : decode cX4_back 5 = .ok (.ifCond .ne 6, 3) := by decide +kernel
theorem dX4_back_8 : decode cX4_back 8 = .ok (.bipush (-101), 2) := by decide +kernel
theorem dX4_back_10 : decode cX4_back 10 = .ok (.ireturn, 1) := by decide +kernel
theorem dX4_back_11 : decode cX4_back 11 = .ok (.aload_n 0, 1) := by decide +kernel
theorem dX4_back_12 : decode cX4_back 12 = .ok (.getfield 143, 3) := by decide +kernel
theorem dX4_back_15 : decode cX4_back 15 = .ok (.ifCond .le 6, 3) := by decide +kernel
theorem dX4_back_18 : decode cX4_back 18 = .ok (.bipush (-103), 2) := by decide +kernel
theorem dX4_back_20 : decode cX4_back 20 = .ok (.ireturn, 1) := by decide +kernel
theorem dX4_back_21 : decode cX4_back 21 = .ok (.aload_n 0, 1) := by decide +kernel
theorem dX4_back_22 : decode cX4_back 22 = .ok (.getfield 19, 3) := by decide +kernel
theorem dX4_back_25 : decode cX4_back 25 = .ok (.iload_n 1, 1) := by decide +kernel
theorem dX4_back_26 : decode cX4_back 26 = .ok (.invokevirtual 110, 3) := by decide +kernel
theorem dX4_back_29 : decode cX4_back 29 = .ok (.ifCond .eq 6, 3) := by decide +kernel
theorem dX4_back_32 : decode cX4_back 32 = .ok (.bipush (-104), 2) := by decide +kernel
theorem dX4_back_34 : decode cX4_back 34 = .ok (.ireturn, 1) := by decide +kernel
theorem dX4_back_35 : decode cX4_back 35 = .ok (.aload_n 0, 1) := by decide +kernel
theorem dX4_back_36 : decode cX4_back 36 = .ok (.getfield 12, 3) := by decide +kernel
theorem dX4_back_39 : decode cX4_back 39 = .ok (.iload_n 1, 1) := by decide +kernel
theorem dX4_back_40 : decode cX4_back 40 = .ok (.invokevirtual 184, 3) := by decide +kernel
theorem dX4_back_43 : decode cX4_back 43 = .ok (.istore_n 2, 1) := by decide +kernel
theorem dX4_back_44 : decode cX4_back 44 = .ok (.aload_n 0, 1) := by decide +kernel
theorem dX4_back_45 : decode cX4_back 45 = .ok (.getfield 19, 3) := by decide +kernel
theorem dX4_back_48 : decode cX4_back 48 = .ok (.iload_n 1, 1) := by decide +kernel
theorem dX4_back_49 : decode cX4_back 49 = .ok (.invokevirtual 187, 3) := by decide +kernel
theorem dX4_back_52 : decode cX4_back 52 = .ok (.aload_n 0, 1) := by decide +kernel
theorem dX4_back_53 : decode cX4_back 53 = .ok (.getfield 12, 3) := by decide +kernel
theorem dX4_back_56 : decode cX4_back 56 = .ok (.iload_n 1, 1) := by decide +kernel
theorem dX4_back_57 : decode cX4_back 57 = .ok (.aload_n 0, 1) := by decide +kernel
theorem dX4_back_58 : decode cX4_back 58 = .ok (.getfield 41, 3) := by decide +kernel
theorem dX4_back_61 : decode cX4_back 61 = .ok (.invokevirtual 170, 3) := by decide +kernel
theorem dX4_back_64 : decode cX4_back 64 = .ok (.aload_n 0, 1) := by decide +kernel
theorem dX4_back_65 : decode cX4_back 65 = .ok (.getfield 26, 3) := by decide +kernel
theorem dX4_back_68 : decode cX4_back 68 = .ok (.aload_n 0, 1) := by decide +kernel
theorem dX4_back_69 : decode cX4_back 69 = .ok (.getfield 41, 3) := by decide +kernel
theorem dX4_back_72 : decode cX4_back 72 = .ok (.invokevirtual 96, 3) := by decide +kernel
theorem dX4_back_75 : decode cX4_back 75 = .ok (.iload_n 2, 1) := by decide +kernel
theorem dX4_back_76 : decode cX4_back 76 = .ok (.ireturn, 1) := by decide +kernel
theorem dX4_row_0 : decode cX4_row 0 = .ok (.iload_n 1, 1) := by decide +kernel
theorem dX4_row_1 : decode cX4_row 1 = .ok (.invokestatic 50, 3) := by decide +kernel
theorem dX4_row_4 : decode cX4_row 4 = .ok (.ifCond .ne 6, 3) := by decide +kernel
theorem dX4_row_7 : decode cX4_row 7 = .ok (.bipush (-101), 2) := by decide +kernel
theorem dX4_row_9 : decode cX4_row 9 = .ok (.ireturn, 1) := by decide +kernel
theorem dX4_row_10 : decode cX4_row 10 = .ok (.iload_n 3, 1) := by decide +kernel
theorem dX4_row_11 : decode cX4_row 11 = .ok (.ifCond .lt 8, 3) := by decide +kernel
theorem dX4_row_14 : decode cX4_row 14 = .ok (.iload_n 3, 1) := by decide +kernel
theorem dX4_row_15 : decode cX4_row 15 = .ok (.iconst 1, 1) := by decide +kernel
theorem dX4_row_16 : decode cX4_row 16 = .ok (.if_icmp .le 6, 3) := by decide +kernel
theorem dX4_row_19 : decode cX4_row 19 = .ok (.bipush (-102), 2) := by decide +kernel
theorem dX4_row_21 : decode cX4_row 21 = .ok (.ireturn, 1) := by decide +kernel
theorem dX4_row_22 : decode cX4_row 22 = .ok (.aload_n 0, 1) := by decide +kernel
theorem dX4_row_23 : decode cX4_row 23 = .ok (.getfield 12, 3) := by decide +kernel
theorem dX4_row_26 : decode cX4_row 26 = .ok (.iload_n 1, 1) := by decide +kernel
theorem dX4_row_27 : decode cX4_row 27 = .ok (.iload_n 2, 1) := by decide +kernel
theorem dX4_row_28 : decode cX4_row 28 = .ok (.invokevirtual 190, 3) := by decide +kernel
theorem dX4_row_31 : decode cX4_row 31 = .ok (.istore 4, 2) := by decide +kernel
theorem dX4_row_33 : decode cX4_row 33 = .ok (.iload 4, 2) := by decide +kernel
theorem dX4_row_35 : decode cX4_row 35 = .ok (.iconst (-1), 1) := by decide +kernel
theorem dX4_row_36 : decode cX4_row 36 = .ok (.if_icmp .ne 5, 3) := by decide +kernel
theorem dX4_row_39 : decode cX4_row 39 = .ok (.iconst (-1), 1) := by decide +kernel
theorem dX4_row_40 : decode cX4_row 40 = .ok (.ireturn, 1) := by decide +kernel
theorem dX4_row_41 : decode cX4_row 41 = .ok (.iload_n 3, 1) := by decide +kernel
theorem dX4_row_42 : decode cX4_row 42 = .ok (.ifCond .ne 16, 3) := by decide +kernel
theorem dX4_row_45 : decode cX4_row 45 = .ok (.aload_n 0, 1) := by decide +kernel
theorem dX4_row_46 : decode cX4_row 46 = .ok (.getfield 12, 3) := by decide +kernel
theorem dX4_row_49 : decode cX4_row 49 = .ok (.getfield 124, 3) := by decide +kernel
theorem dX4_row_52 : decode cX4_row 52 = .ok (.iload 4, 2) := by decide +kernel
theorem dX4_row_54 : decode cX4_row 54 = .ok (.iaload, 1) := by decide +kernel
theorem dX4_row_55 : decode cX4_row 55 = .ok (.goto 13, 3) := by decide +kernel
theorem dX4_row_58 : decode cX4_row 58 = .ok (.aload_n 0, 1) := by decide +kernel
theorem dX4_row_59 : decode cX4_row 59 = .ok (.getfield 12, 3) := by decide +kernel
theorem dX4_row_62 : decode cX4_row 62 = .ok (.getfield 123, 3) := by decide +kernel
theorem dX4_row_65 : decode cX4_row 65 = .ok (.iload 4, 2) := by decide +kernel
theorem dX4_row_67 : decode cX4_row 67 = .ok (.iaload, 1) := by decide +kernel
theorem dX4_row_68 : decode cX4_row 68 = .ok (.ireturn, 1) := by decide +kernel
theorem dX4_count_0 : decode cX4_count 0 = .ok (.iload_n 1, 1) := by decide +kernel
theorem dX4_count_1 : decode cX4_count 1 = .ok (.tableswitch 105 0 5 #[39, 47, 55, 64, 81, 86], 39) := by decide +kernel
theorem dX4_count_40 : decode cX4_count 40 = .ok (.aload_n 0, 1) := by decide +kernel
theorem dX4_count_41 : decode cX4_count 41 = .ok (.getfield 19, 3) := by decide +kernel
theorem dX4_count_44 : decode cX4_count 44 = .ok (.getfield 65, 3) := by decide +kernel
theorem dX4_count_47 : decode cX4_count 47 = .ok (.ireturn, 1) := by decide +kernel
theorem dX4_count_48 : decode cX4_count 48 = .ok (.aload_n 0, 1) := by decide +kernel
theorem dX4_count_49 : decode cX4_count 49 = .ok (.getfield 26, 3) := by decide +kernel
theorem dX4_count_52 : decode cX4_count 52 = .ok (.getfield 58, 3) := by decide +kernel
theorem dX4_count_55 : decode cX4_count 55 = .ok (.ireturn, 1) := by decide +kernel
theorem dX4_count_56 : decode cX4_count 56 = .ok (.aload_n 0, 1) := by decide +kernel
theorem dX4_count_57 : decode cX4_count 57 = .ok (.getfield 12, 3) := by decide +kernel
theorem dX4_count_60 : decode cX4_count 60 = .ok (.iconst (-1), 1) := by decide +kernel
theorem dX4_count_61 : decode cX4_count 61 = .ok (.invokevirtual 163, 3) := by decide +kernel
theorem dX4_count_64 : decode cX4_count 64 = .ok (.ireturn, 1) := by decide +kernel
theorem dX4_count_65 : decode cX4_count 65 = .ok (.aload_n 0, 1) := by decide +kernel
theorem dX4_count_66 : decode cX4_count 66 = .ok (.getfield 12, 3) := by decide +kernel
theorem dX4_count_69 : decode cX4_count 69 = .ok (.getfield 68, 3) := by decide +kernel
theorem dX4_count_72 : decode cX4_count 72 = .ok (.aload_n 0, 1) := by decide +kernel
theorem dX4_count_73 : decode cX4_count 73 = .ok (.getfield 12, 3) := by decide +kernel
theorem dX4_count_76 : decode cX4_count 76 = .ok (.iconst (-1), 1) := by decide +kernel
theorem dX4_count_77 : decode cX4_count 77 = .ok (.invokevirtual 163, 3) := by decide +kernel
theorem dX4_count_80 : decode cX4_count 80 = .ok (.isub, 1) := by decide +kernel
theorem dX4_count_81 : decode cX4_count 81 = .ok (.ireturn, 1) := by decide +kernel
theorem dX4_count_82 : decode cX4_count 82 = .ok (.aload_n 0, 1) := by decide +kernel
theorem dX4_count_83 : decode cX4_count 83 = .ok (.getfield 143, 3) := by decide +kernel
theorem dX4_count_86 : decode cX4_count 86 = .ok (.ireturn, 1) := by decide +kernel
theorem dX4_count_87 : decode cX4_count 87 = .ok (.aload_n 0, 1) := by decide +kernel
theorem dX4_count_88 : decode cX4_count 88 = .ok (.getfield 19, 3) := by decide +kernel
theorem dX4_count_91 : decode cX4_count 91 = .ok (.getfield 65, 3) := by decide +kernel
theorem dX4_count_94 : decode cX4_count 94 = .ok (.iconst 1, 1) := by decide +kernel
theorem dX4_count_95 : decode cX4_count 95 = .ok (.iadd, 1) := by decide +kernel
theorem dX4_count_96 : decode cX4_count 96 = .ok (.aload_n 0, 1) := by decide +kernel
theorem dX4_count_97 : decode cX4_count 97 = .ok (.getfield 19, 3) := by decide +kernel
theorem dX4_count_100 : decode cX4_count 100 = .ok (.iconst (-1), 1) := by decide +kernel
theorem dX4_count_101 : decode cX4_count 101 = .ok (.invokevirtual 166, 3) := by decide +kernel
theorem dX4_count_104 : decode cX4_count 104 = .ok (.isub, 1) := by decide +kernel
theorem dX4_count_105 : decode cX4_count 105 = .ok (.ireturn, 1) := by decide +kernel
theorem dX4_count_106 : decode cX4_count 106 = .ok (.bipush (-102), 2) := by decide +kernel
theorem dX4_count_108 : decode cX4_count 108 = .ok (.ireturn, 1) := by decide +kernel
theorem dX4_clear_0 : decode cX4_clear 0 = .ok (.aload_n 0, 1) := by decide +kernel
theorem dX4_clear_1 : decode cX4_clear 1 = .ok (.getfield 19, 3) := by decide +kernel
theorem dX4_clear_4 : decode cX4_clear 4 = .ok (.getfield 65, 3) := by decide +kernel
theorem dX4_clear_7 : decode cX4_clear 7 = .ok (.istore_n 1, 1) := by decide +kernel
theorem dX4_clear_8 : decode cX4_clear 8 = .ok (.aload_n 0, 1) := by decide +kernel
theorem dX4_clear_9 : decode cX4_clear 9 = .ok (.invokevirtual 47, 3) := by decide +kernel
theorem dX4_clear_12 : decode cX4_clear 12 = .ok (.iload_n 1, 1) := by decide +kernel
theorem dX4_clear_13 : decode cX4_clear 13 = .ok (.ireturn, 1) := by decide +kernel
theorem dX4_begin_0 : decode cX4_begin 0 = .ok (.aload_n 0, 1) := by decide +kernel
theorem dX4_begin_1 : decode cX4_begin 1 = .ok (.iconst 0, 1) := by decide +kernel
theorem dX4_begin_2 : decode cX4_begin 2 = .ok (.putfield 137, 3) := by decide +kernel
theorem dX4_begin_5 : decode cX4_begin 5 = .ok (.aload_n 0, 1) := by decide +kernel
theorem dX4_begin_6 : decode cX4_begin 6 = .ok (.iconst 0, 1) := by decide +kernel
theorem dX4_begin_7 : decode cX4_begin 7 = .ok (.putfield 143, 3) := by decide +kernel
theorem dX4_begin_10 : decode cX4_begin 10 = .ok (.aload_n 0, 1) := by decide +kernel
theorem dX4_begin_11 : decode cX4_begin 11 = .ok (.getfield 12, 3) := by decide +kernel
theorem dX4_begin_14 : decode cX4_begin 14 = .ok (.iconst 0, 1) := by decide +kernel
theorem dX4_begin_15 : decode cX4_begin 15 = .ok (.putfield 68, 3) := by decide +kernel
theorem dX4_begin_18 : decode cX4_begin 18 = .ok (.aload_n 0, 1) := by decide +kernel
theorem dX4_begin_19 : decode cX4_begin 19 = .ok (.getfield 37, 3) := by decide +kernel
theorem dX4_begin_22 : decode cX4_begin 22 = .ok (.iconst 0, 1) := by decide +kernel
theorem dX4_begin_23 : decode cX4_begin 23 = .ok (.invokestatic 193, 3) := by decide +kernel
theorem dX4_begin_26 : decode cX4_begin 26 = .ok (.aload_n 0, 1) := by decide +kernel
theorem dX4_begin_27 : decode cX4_begin 27 = .ok (.getfield 41, 3) := by decide +kernel
theorem dX4_begin_30 : decode cX4_begin 30 = .ok (.iconst 0, 1) := by decide +kernel
theorem dX4_begin_31 : decode cX4_begin 31 = .ok (.invokestatic 193, 3) := by decide +kernel
theorem dX4_begin_34 : decode cX4_begin 34 = .ok (.aload_n 0, 1) := by decide +kernel
theorem dX4_begin_35 : decode cX4_begin 35 = .ok (.getfield 26, 3) := by decide +kernel
theorem dX4_begin_38 : decode cX4_begin 38 = .ok (.aload_n 0, 1) := by decide +kernel
theorem dX4_begin_39 : decode cX4_begin 39 = .ok (.getfield 41, 3) := by decide +kernel
theorem dX4_begin_42 : decode cX4_begin 42 = .ok (.invokevirtual 96, 3) := by decide +kernel
theorem dX4_begin_45 : decode cX4_begin 45 = .ok (.aload_n 0, 1) := by decide +kernel
theorem dX4_begin_46 : decode cX4_begin 46 = .ok (.getfield 19, 3) := by decide +kernel
theorem dX4_begin_49 : decode cX4_begin 49 = .ok (.iconst (-1), 1) := by decide +kernel
theorem dX4_begin_50 : decode cX4_begin 50 = .ok (.putfield 65, 3) := by decide +kernel
theorem dX4_begin_53 : decode cX4_begin 53 = .ok (.aload_n 0, 1) := by decide +kernel
theorem dX4_begin_54 : decode cX4_begin 54 = .ok (.getfield 19, 3) := by decide +kernel
theorem dX4_begin_57 : decode cX4_begin 57 = .ok (.aload_n 0, 1) := by decide +kernel
theorem dX4_begin_58 : decode cX4_begin 58 = .ok (.getfield 33, 3) := by decide +kernel
theorem dX4_begin_61 : decode cX4_begin 61 = .ok (.aload_n 0, 1) := by decide +kernel
theorem dX4_begin_62 : decode cX4_begin 62 = .ok (.getfield 41, 3) := by decide +kernel
theorem dX4_begin_65 : decode cX4_begin 65 = .ok (.invokevirtual 88, 3) := by decide +kernel
theorem dX4_begin_68 : decode cX4_begin 68 = .ok (.invokevirtual 92, 3) := by decide +kernel
theorem dX4_begin_71 : decode cX4_begin 71 = .ok (.return_, 1) := by decide +kernel
theorem dX4_isLeaf_0 : decode cX4_isLeaf 0 = .ok (.iload_n 0, 1) := by decide +kernel
theorem dX4_isLeaf_1 : decode cX4_isLeaf 1 = .ok (.ifCond .lt 13, 3) := by decide +kernel
theorem dX4_isLeaf_4 : decode cX4_isLeaf 4 = .ok (.iload_n 0, 1) := by decide +kernel
theorem dX4_isLeaf_5 : decode cX4_isLeaf 5 = .ok (.bipush 32, 2) := by decide +kernel
theorem dX4_isLeaf_7 : decode cX4_isLeaf 7 = .ok (.if_icmp .ge 7, 3) := by decide +kernel
theorem dX4_isLeaf_10 : decode cX4_isLeaf 10 = .ok (.iconst 1, 1) := by decide +kernel
theorem dX4_isLeaf_11 : decode cX4_isLeaf 11 = .ok (.goto 4, 3) := by decide +kernel
theorem dX4_isLeaf_14 : decode cX4_isLeaf 14 = .ok (.iconst 0, 1) := by decide +kernel
theorem dX4_isLeaf_15 : decode cX4_isLeaf 15 = .ok (.ireturn, 1) := by decide +kernel
theorem dX4_isHeight_0 : decode cX4_isHeight 0 = .ok (.iload_n 1, 1) := by decide +kernel
theorem dX4_isHeight_1 : decode cX4_isHeight 1 = .ok (.ifCond .lt 18, 3) := by decide +kernel
theorem dX4_isHeight_4 : decode cX4_isHeight 4 = .ok (.iload_n 1, 1) := by decide +kernel
theorem dX4_isHeight_5 : decode cX4_isHeight 5 = .ok (.aload_n 0, 1) := by decide +kernel
theorem dX4_isHeight_6 : decode cX4_isHeight 6 = .ok (.getfield 19, 3) := by decide +kernel
theorem dX4_isHeight_9 : decode cX4_isHeight 9 = .ok (.getfield 65, 3) := by decide +kernel
theorem dX4_isHeight_12 : decode cX4_isHeight 12 = .ok (.if_icmp .gt 7, 3) := by decide +kernel
theorem dX4_isHeight_15 : decode cX4_isHeight 15 = .ok (.iconst 1, 1) := by decide +kernel
theorem dX4_isHeight_16 : decode cX4_isHeight 16 = .ok (.goto 4, 3) := by decide +kernel
theorem dX4_isHeight_19 : decode cX4_isHeight 19 = .ok (.iconst 0, 1) := by decide +kernel
theorem dX4_isHeight_20 : decode cX4_isHeight 20 = .ok (.ireturn, 1) := by decide +kernel
theorem dX4_wide_0 : decode cX4_wide 0 = .ok (.iload_n 0, 1) := by decide +kernel
theorem dX4_wide_1 : decode cX4_wide 1 = .ok (.i2l, 1) := by decide +kernel
theorem dX4_wide_2 : decode cX4_wide 2 = .ok (.ldc2_w 199, 3) := by decide +kernel
theorem dX4_wide_5 : decode cX4_wide 5 = .ok (.lsub, 1) := by decide +kernel
theorem dX4_wide_6 : decode cX4_wide 6 = .ok (.lreturn, 1) := by decide +kernel
theorem dX4_refusalOfTwo_0 : decode cX4_refusalOfTwo 0 = .ok (.aload_n 0, 1) := by decide +kernel
theorem dX4_refusalOfTwo_1 : decode cX4_refusalOfTwo 1 = .ok (.iload_n 1, 1) := by decide +kernel
theorem dX4_refusalOfTwo_2 : decode cX4_refusalOfTwo 2 = .ok (.invokevirtual 103, 3) := by decide +kernel
theorem dX4_refusalOfTwo_5 : decode cX4_refusalOfTwo 5 = .ok (.ifCond .eq 11, 3) := by decide +kernel
theorem dX4_refusalOfTwo_8 : decode cX4_refusalOfTwo 8 = .ok (.aload_n 0, 1) := by decide +kernel
theorem dX4_refusalOfTwo_9 : decode cX4_refusalOfTwo 9 = .ok (.iload_n 2, 1) := by decide +kernel
theorem dX4_refusalOfTwo_10 : decode cX4_refusalOfTwo 10 = .ok (.invokevirtual 103, 3) := by decide +kernel
theorem dX4_refusalOfTwo_13 : decode cX4_refusalOfTwo 13 = .ok (.ifCond .ne 6, 3) := by decide +kernel
theorem dX4_refusalOfTwo_16 : decode cX4_refusalOfTwo 16 = .ok (.bipush (-101), 2) := by decide +kernel
theorem dX4_refusalOfTwo_18 : decode cX4_refusalOfTwo 18 = .ok (.ireturn, 1) := by decide +kernel
theorem dX4_refusalOfTwo_19 : decode cX4_refusalOfTwo 19 = .ok (.aload_n 0, 1) := by decide +kernel
theorem dX4_refusalOfTwo_20 : decode cX4_refusalOfTwo 20 = .ok (.getfield 19, 3) := by decide +kernel
theorem dX4_refusalOfTwo_23 : decode cX4_refusalOfTwo 23 = .ok (.iload_n 1, 1) := by decide +kernel
theorem dX4_refusalOfTwo_24 : decode cX4_refusalOfTwo 24 = .ok (.invokevirtual 110, 3) := by decide +kernel
theorem dX4_refusalOfTwo_27 : decode cX4_refusalOfTwo 27 = .ok (.ifCond .ne 14, 3) := by decide +kernel
theorem dX4_refusalOfTwo_30 : decode cX4_refusalOfTwo 30 = .ok (.aload_n 0, 1) := by decide +kernel
theorem dX4_refusalOfTwo_31 : decode cX4_refusalOfTwo 31 = .ok (.getfield 19, 3) := by decide +kernel
theorem dX4_refusalOfTwo_34 : decode cX4_refusalOfTwo 34 = .ok (.iload_n 2, 1) := by decide +kernel
theorem dX4_refusalOfTwo_35 : decode cX4_refusalOfTwo 35 = .ok (.invokevirtual 110, 3) := by decide +kernel
theorem dX4_refusalOfTwo_38 : decode cX4_refusalOfTwo 38 = .ok (.ifCond .eq 6, 3) := by decide +kernel
theorem dX4_refusalOfTwo_41 : decode cX4_refusalOfTwo 41 = .ok (.bipush (-104), 2) := by decide +kernel
theorem dX4_refusalOfTwo_43 : decode cX4_refusalOfTwo 43 = .ok (.ireturn, 1) := by decide +kernel
theorem dX4_refusalOfTwo_44 : decode cX4_refusalOfTwo 44 = .ok (.iconst 0, 1) := by decide +kernel
theorem dX4_refusalOfTwo_45 : decode cX4_refusalOfTwo 45 = .ok (.ireturn, 1) := by decide +kernel
theorem dX4_refusalOfReplay_0 : decode cX4_refusalOfReplay 0 = .ok (.aload_n 0, 1) := by decide +kernel
theorem dX4_refusalOfReplay_1 : decode cX4_refusalOfReplay 1 = .ok (.iload_n 1, 1) := by decide +kernel
theorem dX4_refusalOfReplay_2 : decode cX4_refusalOfReplay 2 = .ok (.invokevirtual 103, 3) := by decide +kernel
theorem dX4_refusalOfReplay_5 : decode cX4_refusalOfReplay 5 = .ok (.ifCond .eq 19, 3) := by decide +kernel
theorem dX4_refusalOfReplay_8 : decode cX4_refusalOfReplay 8 = .ok (.aload_n 0, 1) := by decide +kernel
theorem dX4_refusalOfReplay_9 : decode cX4_refusalOfReplay 9 = .ok (.iload_n 2, 1) := by decide +kernel
theorem dX4_refusalOfReplay_10 : decode cX4_refusalOfReplay 10 = .ok (.invokevirtual 103, 3) := by decide +kernel
theorem dX4_refusalOfReplay_13 : decode cX4_refusalOfReplay 13 = .ok (.ifCond .eq 11, 3) := by decide +kernel
theorem dX4_refusalOfReplay_16 : decode cX4_refusalOfReplay 16 = .ok (.iload_n 2, 1) := by decide +kernel
theorem dX4_refusalOfReplay_17 : decode cX4_refusalOfReplay 17 = .ok (.iload_n 1, 1) := by decide +kernel
theorem dX4_refusalOfReplay_18 : decode cX4_refusalOfReplay 18 = .ok (.if_icmp .ge 6, 3) := by decide +kernel
theorem dX4_refusalOfReplay_21 : decode cX4_refusalOfReplay 21 = .ok (.bipush (-102), 2) := by decide +kernel
theorem dX4_refusalOfReplay_23 : decode cX4_refusalOfReplay 23 = .ok (.ireturn, 1) := by decide +kernel
theorem dX4_refusalOfReplay_24 : decode cX4_refusalOfReplay 24 = .ok (.aload_n 0, 1) := by decide +kernel
theorem dX4_refusalOfReplay_25 : decode cX4_refusalOfReplay 25 = .ok (.iload_n 1, 1) := by decide +kernel
theorem dX4_refusalOfReplay_26 : decode cX4_refusalOfReplay 26 = .ok (.iload_n 2, 1) := by decide +kernel
theorem dX4_refusalOfReplay_27 : decode cX4_refusalOfReplay 27 = .ok (.invokevirtual 130, 3) := by decide +kernel
theorem dX4_refusalOfReplay_30 : decode cX4_refusalOfReplay 30 = .ok (.ireturn, 1) := by decide +kernel
theorem dX4_loadTwo_0 : decode cX4_loadTwo 0 = .ok (.aload_n 0, 1) := by decide +kernel
theorem dX4_loadTwo_1 : decode cX4_loadTwo 1 = .ok (.getfield 12, 3) := by decide +kernel
theorem dX4_loadTwo_4 : decode cX4_loadTwo 4 = .ok (.iload_n 1, 1) := by decide +kernel
theorem dX4_loadTwo_5 : decode cX4_loadTwo 5 = .ok (.aload_n 0, 1) := by decide +kernel
theorem dX4_loadTwo_6 : decode cX4_loadTwo 6 = .ok (.getfield 41, 3) := by decide +kernel
theorem dX4_loadTwo_9 : decode cX4_loadTwo 9 = .ok (.invokevirtual 170, 3) := by decide +kernel
theorem dX4_loadTwo_12 : decode cX4_loadTwo 12 = .ok (.aload_n 0, 1) := by decide +kernel
theorem dX4_loadTwo_13 : decode cX4_loadTwo 13 = .ok (.getfield 12, 3) := by decide +kernel
theorem dX4_loadTwo_16 : decode cX4_loadTwo 16 = .ok (.iload_n 2, 1) := by decide +kernel
theorem dX4_loadTwo_17 : decode cX4_loadTwo 17 = .ok (.aload_n 0, 1) := by decide +kernel
theorem dX4_loadTwo_18 : decode cX4_loadTwo 18 = .ok (.getfield 44, 3) := by decide +kernel
theorem dX4_loadTwo_21 : decode cX4_loadTwo 21 = .ok (.invokevirtual 170, 3) := by decide +kernel
theorem dX4_loadTwo_24 : decode cX4_loadTwo 24 = .ok (.return_, 1) := by decide +kernel
theorem dJ7_fill_53178_0 : decode cJ7_fill_53178 0 = .ok (.iconst 0, 1) := by decide +kernel
theorem dJ7_fill_53178_1 : decode cJ7_fill_53178 1 = .ok (.istore_n 2, 1) := by decide +kernel
theorem dJ7_fill_53178_2 : decode cJ7_fill_53178 2 = .ok (.aload_n 0, 1) := by decide +kernel
theorem dJ7_fill_53178_3 : decode cJ7_fill_53178 3 = .ok (.arraylength, 1) := by decide +kernel
theorem dJ7_fill_53178_4 : decode cJ7_fill_53178 4 = .ok (.istore_n 3, 1) := by decide +kernel
theorem dJ7_fill_53178_5 : decode cJ7_fill_53178 5 = .ok (.iload_n 2, 1) := by decide +kernel
theorem dJ7_fill_53178_6 : decode cJ7_fill_53178 6 = .ok (.iload_n 3, 1) := by decide +kernel
theorem dJ7_fill_53178_7 : decode cJ7_fill_53178 7 = .ok (.if_icmp .ge 13, 3) := by decide +kernel
theorem dJ7_fill_53178_10 : decode cJ7_fill_53178 10 = .ok (.aload_n 0, 1) := by decide +kernel
theorem dJ7_fill_53178_11 : decode cJ7_fill_53178 11 = .ok (.iload_n 2, 1) := by decide +kernel
theorem dJ7_fill_53178_12 : decode cJ7_fill_53178 12 = .ok (.iload_n 1, 1) := by decide +kernel
theorem dJ7_fill_53178_13 : decode cJ7_fill_53178 13 = .ok (.iastore, 1) := by decide +kernel
theorem dJ7_fill_53178_14 : decode cJ7_fill_53178 14 = .ok (.iinc 2 1, 3) := by decide +kernel
theorem dJ7_fill_53178_17 : decode cJ7_fill_53178 17 = .ok (.goto (-12), 3) := by decide +kernel
theorem dJ7_fill_53178_20 : decode cJ7_fill_53178 20 = .ok (.return_, 1) := by decide +kernel
end
section
theorem dX5_init_0 : decode cX5_init 0 = .ok (.aload_n 0, 1) := by decide +kernel
theorem dX5_init_1 : decode cX5_init 1 = .ok (.invokespecial 1, 3) := by decide +kernel
theorem dX5_init_4 : decode cX5_init 4 = .ok (.aload_n 0, 1) := by decide +kernel
theorem dX5_init_5 : decode cX5_init 5 = .ok (.sipush 6432, 3) := by decide +kernel
theorem dX5_init_8 : decode cX5_init 8 = .ok (.newarray .int, 2) := by decide +kernel
theorem dX5_init_10 : decode cX5_init 10 = .ok (.putfield 7, 3) := by decide +kernel
theorem dX5_init_13 : decode cX5_init 13 = .ok (.aload_n 0, 1) := by decide +kernel
theorem dX5_init_14 : decode cX5_init 14 = .ok (.sipush 201, 3) := by decide +kernel
theorem dX5_init_17 : decode cX5_init 17 = .ok (.newarray .int, 2) := by decide +kernel
theorem dX5_init_19 : decode cX5_init 19 = .ok (.putfield 13, 3) := by decide +kernel
theorem dX5_init_22 : decode cX5_init 22 = .ok (.aload_n 0, 1) := by decide +kernel
theorem dX5_init_23 : decode cX5_init 23 = .ok (.sipush 201, 3) := by decide +kernel
theorem dX5_init_26 : decode cX5_init 26 = .ok (.newarray .int, 2) := by decide +kernel
theorem dX5_init_28 : decode cX5_init 28 = .ok (.putfield 16, 3) := by decide +kernel
theorem dX5_init_31 : decode cX5_init 31 = .ok (.aload_n 0, 1) := by decide +kernel
theorem dX5_init_32 : decode cX5_init 32 = .ok (.bipush 60, 2) := by decide +kernel
theorem dX5_init_34 : decode cX5_init 34 = .ok (.newarray .int, 2) := by decide +kernel
theorem dX5_init_36 : decode cX5_init 36 = .ok (.putfield 19, 3) := by decide +kernel
theorem dX5_init_39 : decode cX5_init 39 = .ok (.aload_n 0, 1) := by decide +kernel
theorem dX5_init_40 : decode cX5_init 40 = .ok (.bipush 60, 2) := by decide +kernel
theorem dX5_init_42 : decode cX5_init 42 = .ok (.newarray .int, 2) := by decide +kernel
theorem dX5_init_44 : decode cX5_init 44 = .ok (.putfield 22, 3) := by decide +kernel
theorem dX5_init_47 : decode cX5_init 47 = .ok (.aload_n 0, 1) := by decide +kernel
theorem dX5_init_48 : decode cX5_init 48 = .ok (.bipush 60, 2) := by decide +kernel
theorem dX5_init_50 : decode cX5_init 50 = .ok (.newarray .int, 2) := by decide +kernel
theorem dX5_init_52 : decode cX5_init 52 = .ok (.putfield 25, 3) := by decide +kernel
theorem dX5_init_55 : decode cX5_init 55 = .ok (.aload_n 0, 1) := by decide +kernel
theorem dX5_init_56 : decode cX5_init 56 = .ok (.sipush 400, 3) := by decide +kernel
theorem dX5_init_59 : decode cX5_init 59 = .ok (.newarray .int, 2) := by decide +kernel
theorem dX5_init_61 : decode cX5_init 61 = .ok (.putfield 28, 3) := by decide +kernel
theorem dX5_init_64 : decode cX5_init 64 = .ok (.aload_n 0, 1) := by decide +kernel
theorem dX5_init_65 : decode cX5_init 65 = .ok (.sipush 400, 3) := by decide +kernel
theorem dX5_init_68 : decode cX5_init 68 = .ok (.newarray .int, 2) := by decide +kernel
theorem dX5_init_70 : decode cX5_init 70 = .ok (.putfield 31, 3) := by decide +kernel
theorem dX5_init_73 : decode cX5_init 73 = .ok (.aload_n 0, 1) := by decide +kernel
theorem dX5_init_74 : decode cX5_init 74 = .ok (.sipush 400, 3) := by decide +kernel
theorem dX5_init_77 : decode cX5_init 77 = .ok (.newarray .int, 2) := by decide +kernel
theorem dX5_init_79 : decode cX5_init 79 = .ok (.putfield 34, 3) := by decide +kernel
theorem dX5_init_82 : decode cX5_init 82 = .ok (.aload_n 0, 1) := by decide +kernel
theorem dX5_init_83 : decode cX5_init 83 = .ok (.sipush 400, 3) := by decide +kernel
theorem dX5_init_86 : decode cX5_init 86 = .ok (.newarray .int, 2) := by decide +kernel
theorem dX5_init_88 : decode cX5_init 88 = .ok (.putfield 37, 3) := by decide +kernel
theorem dX5_init_91 : decode cX5_init 91 = .ok (.aload_n 0, 1) := by decide +kernel
theorem dX5_init_92 : decode cX5_init 92 = .ok (.sipush 400, 3) := by decide +kernel
theorem dX5_init_95 : decode cX5_init 95 = .ok (.newarray .int, 2) := by decide +kernel
theorem dX5_init_97 : decode cX5_init 97 = .ok (.putfield 40, 3) := by decide +kernel
theorem dX5_init_100 : decode cX5_init 100 = .ok (.aload_n 0, 1) := by decide +kernel
theorem dX5_init_101 : decode cX5_init 101 = .ok (.iconst 5, 1) := by decide +kernel
theorem dX5_init_102 : decode cX5_init 102 = .ok (.newarray .int, 2) := by decide +kernel
theorem dX5_init_104 : decode cX5_init 104 = .ok (.putfield 43, 3) := by decide +kernel
theorem dX5_init_107 : decode cX5_init 107 = .ok (.aload_n 0, 1) := by decide +kernel
theorem dX5_init_108 : decode cX5_init 108 = .ok (.bipush 64, 2) := by decide +kernel
theorem dX5_init_110 : decode cX5_init 110 = .ok (.newarray .int, 2) := by decide +kernel
theorem dX5_init_112 : decode cX5_init 112 = .ok (.putfield 46, 3) := by decide +kernel
theorem dX5_init_115 : decode cX5_init 115 = .ok (.aload_n 0, 1) := by decide +kernel
theorem dX5_init_116 : decode cX5_init 116 = .ok (.invokevirtual 49, 3) := by decide +kernel
theorem dX5_init_119 : decode cX5_init 119 = .ok (.return_, 1) := by decide +kernel
theorem dX5_in_0 : decode cX5_in 0 = .ok (.iload_n 0, 1) := by decide +kernel
theorem dX5_in_1 : decode cX5_in 1 = .ok (.iload_n 1, 1) := by decide +kernel
theorem dX5_in_2 : decode cX5_in 2 = .ok (.if_icmp .lt 12, 3) := by decide +kernel
theorem dX5_in_5 : decode cX5_in 5 = .ok (.iload_n 0, 1) := by decide +kernel
theorem dX5_in_6 : decode cX5_in 6 = .ok (.iload_n 2, 1) := by decide +kernel
theorem dX5_in_7 : decode cX5_in 7 = .ok (.if_icmp .gt 7, 3) := by decide +kernel
theorem dX5_in_10 : decode cX5_in 10 = .ok (.iconst 1, 1) := by decide +kernel
theorem dX5_in_11 : decode cX5_in 11 = .ok (.goto 4, 3) := by decide +kernel
theorem dX5_in_14 : decode cX5_in 14 = .ok (.iconst 0, 1) := by decide +kernel
theorem dX5_in_15 : decode cX5_in 15 = .ok (.ireturn, 1) := by decide +kernel
theorem dX5_begin_0 : decode cX5_begin 0 = .ok (.aload_n 0, 1) := by decide +kernel
theorem dX5_begin_1 : decode cX5_begin 1 = .ok (.iconst 0, 1) := by decide +kernel
theorem dX5_begin_2 : decode cX5_begin 2 = .ok (.putfield 52, 3) := by decide +kernel
theorem dX5_begin_5 : decode cX5_begin 5 = .ok (.aload_n 0, 1) := by decide +kernel
theorem dX5_begin_6 : decode cX5_begin 6 = .ok (.iconst 0, 1) := by decide +kernel
theorem dX5_begin_7 : decode cX5_begin 7 = .ok (.putfield 56, 3) := by decide +kernel
theorem dX5_begin_10 : decode cX5_begin 10 = .ok (.aload_n 0, 1) := by decide +kernel
theorem dX5_begin_11 : decode cX5_begin 11 = .ok (.iconst 0, 1) := by decide +kernel
theorem dX5_begin_12 : decode cX5_begin 12 = .ok (.putfield 59, 3) := by decide +kernel
theorem dX5_begin_15 : decode cX5_begin 15 = .ok (.aload_n 0, 1) := by decide +kernel
theorem dX5_begin_16 : decode cX5_begin 16 = .ok (.iconst 0, 1) := by decide +kernel
theorem dX5_begin_17 : decode cX5_begin 17 = .ok (.putfield 62, 3) := by decide +kernel
theorem dX5_begin_20 : decode cX5_begin 20 = .ok (.aload_n 0, 1) := by decide +kernel
theorem dX5_begin_21 : decode cX5_begin 21 = .ok (.iconst 0, 1) := by decide +kernel
theorem dX5_begin_22 : decode cX5_begin 22 = .ok (.putfield 65, 3) := by decide +kernel
theorem dX5_begin_25 : decode cX5_begin 25 = .ok (.iconst 0, 1) := by decide +kernel
theorem dX5_begin_26 : decode cX5_begin 26 = .ok (.istore_n 1, 1) := by decide +kernel
theorem dX5_begin_27 : decode cX5_begin 27 = .ok (.iload_n 1, 1) := by decide +kernel
theorem dX5_begin_28 : decode cX5_begin 28 = .ok (.bipush 32, 2) := by decide +kernel
theorem dX5_begin_30 : decode cX5_begin 30 = .ok (.if_icmp .ge 16, 3) := by decide +kernel
theorem dX5_begin_33 : decode cX5_begin 33 = .ok (.aload_n 0, 1) := by decide +kernel
theorem dX5_begin_34 : decode cX5_begin 34 = .ok (.getfield 7, 3) := by decide +kernel
theorem dX5_begin_37 : decode cX5_begin 37 = .ok (.iload_n 1, 1) := by decide +kernel
theorem dX5_begin_38 : decode cX5_begin 38 = .ok (.iconst 0, 1) := by decide +kernel
theorem dX5_begin_39 : decode cX5_begin 39 = .ok (.iastore, 1) := by decide +kernel
theorem dX5_begin_40 : decode cX5_begin 40 = .ok (.iinc 1 1, 3) := by decide +kernel
theorem dX5_begin_43 : decode cX5_begin 43 = .ok (.goto (-16), 3) := by decide +kernel
theorem dX5_begin_46 : decode cX5_begin 46 = .ok (.aload_n 0, 1) := by decide +kernel
theorem dX5_begin_47 : decode cX5_begin 47 = .ok (.getfield 16, 3) := by decide +kernel
theorem dX5_begin_50 : decode cX5_begin 50 = .ok (.iconst 0, 1) := by decide +kernel
theorem dX5_begin_51 : decode cX5_begin 51 = .ok (.iconst 0, 1) := by decide +kernel
theorem dX5_begin_52 : decode cX5_begin 52 = .ok (.iastore, 1) := by decide +kernel
theorem dX5_begin_53 : decode cX5_begin 53 = .ok (.iconst 0, 1) := by decide +kernel
theorem dX5_begin_54 : decode cX5_begin 54 = .ok (.istore_n 1, 1) := by decide +kernel
theorem dX5_begin_55 : decode cX5_begin 55 = .ok (.iload_n 1, 1) := by decide +kernel
theorem dX5_begin_56 : decode cX5_begin 56 = .ok (.iconst 5, 1) := by decide +kernel
theorem dX5_begin_57 : decode cX5_begin 57 = .ok (.if_icmp .ge 16, 3) := by decide +kernel
theorem dX5_begin_60 : decode cX5_begin 60 = .ok (.aload_n 0, 1) := by decide +kernel
theorem dX5_begin_61 : decode cX5_begin 61 = .ok (.getfield 43, 3) := by decide +kernel
theorem dX5_begin_64 : decode cX5_begin 64 = .ok (.iload_n 1, 1) := by decide +kernel
theorem dX5_begin_65 : decode cX5_begin 65 = .ok (.iconst 0, 1) := by decide +kernel
theorem dX5_begin_66 : decode cX5_begin 66 = .ok (.iastore, 1) := by decide +kernel
theorem dX5_begin_67 : decode cX5_begin 67 = .ok (.iinc 1 1, 3) := by decide +kernel
theorem dX5_begin_70 : decode cX5_begin 70 = .ok (.goto (-15), 3) := by decide +kernel
theorem dX5_begin_73 : decode cX5_begin 73 = .ok (.aload_n 0, 1) := by decide +kernel
theorem dX5_begin_74 : decode cX5_begin 74 = .ok (.getfield 13, 3) := by decide +kernel
theorem dX5_begin_77 : decode cX5_begin 77 = .ok (.iconst 0, 1) := by decide +kernel
theorem dX5_begin_78 : decode cX5_begin 78 = .ok (.aload_n 0, 1) := by decide +kernel
theorem dX5_begin_79 : decode cX5_begin 79 = .ok (.iconst 0, 1) := by decide +kernel
theorem dX5_begin_80 : decode cX5_begin 80 = .ok (.invokevirtual 68, 3) := by decide +kernel
theorem dX5_begin_83 : decode cX5_begin 83 = .ok (.iastore, 1) := by decide +kernel
theorem dX5_begin_84 : decode cX5_begin 84 = .ok (.return_, 1) := by decide +kernel
theorem dX5_isLeaf_0 : decode cX5_isLeaf 0 = .ok (.iload_n 0, 1) := by decide +kernel
theorem dX5_isLeaf_1 : decode cX5_isLeaf 1 = .ok (.iconst 0, 1) := by decide +kernel
theorem dX5_isLeaf_2 : decode cX5_isLeaf 2 = .ok (.bipush 31, 2) := by decide +kernel
theorem dX5_isLeaf_4 : decode cX5_isLeaf 4 = .ok (.invokestatic 72, 3) := by decide +kernel
theorem dX5_isLeaf_7 : decode cX5_isLeaf 7 = .ok (.ireturn, 1) := by decide +kernel
theorem dX5_isHeight_0 : decode cX5_isHeight 0 = .ok (.iload_n 1, 1) := by decide +kernel
theorem dX5_isHeight_1 : decode cX5_isHeight 1 = .ok (.iconst 0, 1) := by decide +kernel
theorem dX5_isHeight_2 : decode cX5_isHeight 2 = .ok (.aload_n 0, 1) := by decide +kernel
theorem dX5_isHeight_3 : decode cX5_isHeight 3 = .ok (.getfield 52, 3) := by decide +kernel
theorem dX5_isHeight_6 : decode cX5_isHeight 6 = .ok (.invokestatic 72, 3) := by decide +kernel
theorem dX5_isHeight_9 : decode cX5_isHeight 9 = .ok (.ireturn, 1) := by decide +kernel
theorem dX5_ofLeaf_0 : decode cX5_ofLeaf 0 = .ok (.iload_n 1, 1) := by decide +kernel
theorem dX5_ofLeaf_1 : decode cX5_ofLeaf 1 = .ok (.bipush 31, 2) := by decide +kernel
theorem dX5_ofLeaf_3 : decode cX5_ofLeaf 3 = .ok (.imul, 1) := by decide +kernel
theorem dX5_ofLeaf_4 : decode cX5_ofLeaf 4 = .ok (.iload_n 0, 1) := by decide +kernel
theorem dX5_ofLeaf_5 : decode cX5_ofLeaf 5 = .ok (.iadd, 1) := by decide +kernel
theorem dX5_ofLeaf_6 : decode cX5_ofLeaf 6 = .ok (.ireturn, 1) := by decide +kernel
theorem dX5_ofTwo_0 : decode cX5_ofTwo 0 = .ok (.bipush 31, 2) := by decide +kernel
theorem dX5_ofTwo_2 : decode cX5_ofTwo 2 = .ok (.iload_n 0, 1) := by decide +kernel
theorem dX5_ofTwo_3 : decode cX5_ofTwo 3 = .ok (.imul, 1) := by decide +kernel
theorem dX5_ofTwo_4 : decode cX5_ofTwo 4 = .ok (.iload_n 1, 1) := by decide +kernel
theorem dX5_ofTwo_5 : decode cX5_ofTwo 5 = .ok (.iadd, 1) := by decide +kernel
theorem dX5_ofTwo_6 : decode cX5_ofTwo 6 = .ok (.istore_n 2, 1) := by decide +kernel
theorem dX5_ofTwo_7 : decode cX5_ofTwo 7 = .ok (.iload_n 2, 1) := by decide +kernel
theorem dX5_ofTwo_8 : decode cX5_ofTwo 8 = .ok (.iload_n 2, 1) := by decide +kernel
theorem dX5_ofTwo_9 : decode cX5_ofTwo 9 = .ok (.bipush 15, 2) := by decide +kernel
theorem dX5_ofTwo_11 : decode cX5_ofTwo 11 = .ok (.iushr, 1) := by decide +kernel
theorem dX5_ofTwo_12 : decode cX5_ofTwo 12 = .ok (.ixor, 1) := by decide +kernel
theorem dX5_ofTwo_13 : decode cX5_ofTwo 13 = .ok (.istore_n 2, 1) := by decide +kernel
theorem dX5_ofTwo_14 : decode cX5_ofTwo 14 = .ok (.iload_n 2, 1) := by decide +kernel
theorem dX5_ofTwo_15 : decode cX5_ofTwo 15 = .ok (.ldc 76, 2) := by decide +kernel
theorem dX5_ofTwo_17 : decode cX5_ofTwo 17 = .ok (.imul, 1) := by decide +kernel
theorem dX5_ofTwo_18 : decode cX5_ofTwo 18 = .ok (.ireturn, 1) := by decide +kernel
theorem dX5_digestOf_0 : decode cX5_digestOf 0 = .ok (.iconst 0, 1) := by decide +kernel
theorem dX5_digestOf_1 : decode cX5_digestOf 1 = .ok (.istore_n 2, 1) := by decide +kernel
theorem dX5_digestOf_2 : decode cX5_digestOf 2 = .ok (.iload_n 2, 1) := by decide +kernel
theorem dX5_digestOf_3 : decode cX5_digestOf 3 = .ok (.bipush 32, 2) := by decide +kernel
theorem dX5_digestOf_5 : decode cX5_digestOf 5 = .ok (.if_icmp .ge 33, 3) := by decide +kernel
theorem dX5_digestOf_8 : decode cX5_digestOf 8 = .ok (.aload_n 0, 1) := by decide +kernel
theorem dX5_digestOf_9 : decode cX5_digestOf 9 = .ok (.getfield 46, 3) := by decide +kernel
theorem dX5_digestOf_12 : decode cX5_digestOf 12 = .ok (.bipush 32, 2) := by decide +kernel
theorem dX5_digestOf_14 : decode cX5_digestOf 14 = .ok (.iload_n 2, 1) := by decide +kernel
theorem dX5_digestOf_15 : decode cX5_digestOf 15 = .ok (.iadd, 1) := by decide +kernel
theorem dX5_digestOf_16 : decode cX5_digestOf 16 = .ok (.iload_n 2, 1) := by decide +kernel
theorem dX5_digestOf_17 : decode cX5_digestOf 17 = .ok (.aload_n 0, 1) := by decide +kernel
theorem dX5_digestOf_18 : decode cX5_digestOf 18 = .ok (.getfield 7, 3) := by decide +kernel
theorem dX5_digestOf_21 : decode cX5_digestOf 21 = .ok (.bipush 32, 2) := by decide +kernel
theorem dX5_digestOf_23 : decode cX5_digestOf 23 = .ok (.iload_n 1, 1) := by decide +kernel
theorem dX5_digestOf_24 : decode cX5_digestOf 24 = .ok (.imul, 1) := by decide +kernel
theorem dX5_digestOf_25 : decode cX5_digestOf 25 = .ok (.iload_n 2, 1) := by decide +kernel
theorem dX5_digestOf_26 : decode cX5_digestOf 26 = .ok (.iadd, 1) := by decide +kernel
theorem dX5_digestOf_27 : decode cX5_digestOf 27 = .ok (.iaload, 1) := by decide +kernel
theorem dX5_digestOf_28 : decode cX5_digestOf 28 = .ok (.invokestatic 77, 3) := by decide +kernel
theorem dX5_digestOf_31 : decode cX5_digestOf 31 = .ok (.iastore, 1) := by decide +kernel
theorem dX5_digestOf_32 : decode cX5_digestOf 32 = .ok (.iinc 2 1, 3) := by decide +kernel
theorem dX5_digestOf_35 : decode cX5_digestOf 35 = .ok (.goto (-33), 3) := by decide +kernel
theorem dX5_digestOf_38 : decode cX5_digestOf 38 = .ok (.bipush 31, 2) := by decide +kernel
theorem dX5_digestOf_40 : decode cX5_digestOf 40 = .ok (.istore_n 2, 1) := by decide +kernel
theorem dX5_digestOf_41 : decode cX5_digestOf 41 = .ok (.iload_n 2, 1) := by decide +kernel
theorem dX5_digestOf_42 : decode cX5_digestOf 42 = .ok (.ifCond .le 36, 3) := by decide +kernel
theorem dX5_digestOf_45 : decode cX5_digestOf 45 = .ok (.aload_n 0, 1) := by decide +kernel
theorem dX5_digestOf_46 : decode cX5_digestOf 46 = .ok (.getfield 46, 3) := by decide +kernel
theorem dX5_digestOf_49 : decode cX5_digestOf 49 = .ok (.iload_n 2, 1) := by decide +kernel
theorem dX5_digestOf_50 : decode cX5_digestOf 50 = .ok (.aload_n 0, 1) := by decide +kernel
theorem dX5_digestOf_51 : decode cX5_digestOf 51 = .ok (.getfield 46, 3) := by decide +kernel
theorem dX5_digestOf_54 : decode cX5_digestOf 54 = .ok (.iconst 2, 1) := by decide +kernel
theorem dX5_digestOf_55 : decode cX5_digestOf 55 = .ok (.iload_n 2, 1) := by decide +kernel
theorem dX5_digestOf_56 : decode cX5_digestOf 56 = .ok (.imul, 1) := by decide +kernel
theorem dX5_digestOf_57 : decode cX5_digestOf 57 = .ok (.iaload, 1) := by decide +kernel
theorem dX5_digestOf_58 : decode cX5_digestOf 58 = .ok (.aload_n 0, 1) := by decide +kernel
theorem dX5_digestOf_59 : decode cX5_digestOf 59 = .ok (.getfield 46, 3) := by decide +kernel
theorem dX5_digestOf_62 : decode cX5_digestOf 62 = .ok (.iconst 2, 1) := by decide +kernel
theorem dX5_digestOf_63 : decode cX5_digestOf 63 = .ok (.iload_n 2, 1) := by decide +kernel
theorem dX5_digestOf_64 : decode cX5_digestOf 64 = .ok (.imul, 1) := by decide +kernel
theorem dX5_digestOf_65 : decode cX5_digestOf 65 = .ok (.iconst 1, 1) := by decide +kernel
theorem dX5_digestOf_66 : decode cX5_digestOf 66 = .ok (.iadd, 1) := by decide +kernel
theorem dX5_digestOf_67 : decode cX5_digestOf 67 = .ok (.iaload, 1) := by decide +kernel
theorem dX5_digestOf_68 : decode cX5_digestOf 68 = .ok (.invokestatic 81, 3) := by decide +kernel
theorem dX5_digestOf_71 : decode cX5_digestOf 71 = .ok (.iastore, 1) := by decide +kernel
theorem dX5_digestOf_72 : decode cX5_digestOf 72 = .ok (.iinc 2 (-1), 3) := by decide +kernel
theorem dX5_digestOf_75 : decode cX5_digestOf 75 = .ok (.goto (-34), 3) := by decide +kernel
theorem dX5_digestOf_78 : decode cX5_digestOf 78 = .ok (.aload_n 0, 1) := by decide +kernel
theorem dX5_digestOf_79 : decode cX5_digestOf 79 = .ok (.getfield 46, 3) := by decide +kernel
theorem dX5_digestOf_82 : decode cX5_digestOf 82 = .ok (.iconst 1, 1) := by decide +kernel
theorem dX5_digestOf_83 : decode cX5_digestOf 83 = .ok (.iaload, 1) := by decide +kernel
theorem dX5_digestOf_84 : decode cX5_digestOf 84 = .ok (.ireturn, 1) := by decide +kernel
theorem dX5_write_0 : decode cX5_write 0 = .ok (.iload_n 2, 1) := by decide +kernel
theorem dX5_write_1 : decode cX5_write 1 = .ok (.invokestatic 84, 3) := by decide +kernel
theorem dX5_write_4 : decode cX5_write 4 = .ok (.ifCond .ne 6, 3) := by decide +kernel
theorem dX5_write_7 : decode cX5_write 7 = .ok (.bipush (-101), 2) := by decide +kernel
theorem dX5_write_9 : decode cX5_write 9 = .ok (.ireturn, 1) := by decide +kernel
theorem dX5_write_10 : decode cX5_write 10 = .ok (.iload_n 1, 1) := by decide +kernel
theorem dX5_write_11 : decode cX5_write 11 = .ok (.iconst 0, 1) := by decide +kernel
theorem dX5_write_12 : decode cX5_write 12 = .ok (.sipush 999, 3) := by decide +kernel
theorem dX5_write_15 : decode cX5_write 15 = .ok (.invokestatic 72, 3) := by decide +kernel
theorem dX5_write_18 : decode cX5_write 18 = .ok (.ifCond .ne 6, 3) := by decide +kernel
theorem dX5_write_21 : decode cX5_write 21 = .ok (.bipush (-102), 2) := by decide +kernel
theorem dX5_write_23 : decode cX5_write 23 = .ok (.ireturn, 1) := by decide +kernel
theorem dX5_write_24 : decode cX5_write 24 = .ok (.aload_n 0, 1) := by decide +kernel
theorem dX5_write_25 : decode cX5_write 25 = .ok (.getfield 56, 3) := by decide +kernel
theorem dX5_write_28 : decode cX5_write 28 = .ok (.ifCond .le 21, 3) := by decide +kernel
theorem dX5_write_31 : decode cX5_write 31 = .ok (.iload_n 1, 1) := by decide +kernel
theorem dX5_write_32 : decode cX5_write 32 = .ok (.aload_n 0, 1) := by decide +kernel
theorem dX5_write_33 : decode cX5_write 33 = .ok (.getfield 19, 3) := by decide +kernel
theorem dX5_write_36 : decode cX5_write 36 = .ok (.aload_n 0, 1) := by decide +kernel
theorem dX5_write_37 : decode cX5_write 37 = .ok (.getfield 56, 3) := by decide +kernel
theorem dX5_write_40 : decode cX5_write 40 = .ok (.iconst 1, 1) := by decide +kernel
theorem dX5_write_41 : decode cX5_write 41 = .ok (.isub, 1) := by decide +kernel
theorem dX5_write_42 : decode cX5_write 42 = .ok (.iaload, 1) := by decide +kernel
theorem dX5_write_43 : decode cX5_write 43 = .ok (.if_icmp .ge 6, 3) := by decide +kernel
theorem dX5_write_46 : decode cX5_write 46 = .ok (.bipush (-103), 2) := by decide +kernel
theorem dX5_write_48 : decode cX5_write 48 = .ok (.ireturn, 1) := by decide +kernel
theorem dX5_write_49 : decode cX5_write 49 = .ok (.aload_n 0, 1) := by decide +kernel
theorem dX5_write_50 : decode cX5_write 50 = .ok (.getfield 56, 3) := by decide +kernel
theorem dX5_write_53 : decode cX5_write 53 = .ok (.bipush 60, 2) := by decide +kernel
theorem dX5_write_55 : decode cX5_write 55 = .ok (.if_icmp .ne 6, 3) := by decide +kernel
theorem dX5_write_58 : decode cX5_write 58 = .ok (.bipush (-105), 2) := by decide +kernel
theorem dX5_write_60 : decode cX5_write 60 = .ok (.ireturn, 1) := by decide +kernel
theorem dX5_write_61 : decode cX5_write 61 = .ok (.aload_n 0, 1) := by decide +kernel
theorem dX5_write_62 : decode cX5_write 62 = .ok (.getfield 19, 3) := by decide +kernel
theorem dX5_write_65 : decode cX5_write 65 = .ok (.aload_n 0, 1) := by decide +kernel
theorem dX5_write_66 : decode cX5_write 66 = .ok (.getfield 56, 3) := by decide +kernel
theorem dX5_write_69 : decode cX5_write 69 = .ok (.iload_n 1, 1) := by decide +kernel
theorem dX5_write_70 : decode cX5_write 70 = .ok (.iastore, 1) := by decide +kernel
theorem dX5_write_71 : decode cX5_write 71 = .ok (.aload_n 0, 1) := by decide +kernel
theorem dX5_write_72 : decode cX5_write 72 = .ok (.getfield 22, 3) := by decide +kernel
theorem dX5_write_75 : decode cX5_write 75 = .ok (.aload_n 0, 1) := by decide +kernel
theorem dX5_write_76 : decode cX5_write 76 = .ok (.getfield 56, 3) := by decide +kernel
theorem dX5_write_79 : decode cX5_write 79 = .ok (.iload_n 2, 1) := by decide +kernel
theorem dX5_write_80 : decode cX5_write 80 = .ok (.iastore, 1) := by decide +kernel
theorem dX5_write_81 : decode cX5_write 81 = .ok (.aload_n 0, 1) := by decide +kernel
theorem dX5_write_82 : decode cX5_write 82 = .ok (.getfield 25, 3) := by decide +kernel
theorem dX5_write_85 : decode cX5_write 85 = .ok (.aload_n 0, 1) := by decide +kernel
theorem dX5_write_86 : decode cX5_write 86 = .ok (.getfield 56, 3) := by decide +kernel
theorem dX5_write_89 : decode cX5_write 89 = .ok (.iload_n 3, 1) := by decide +kernel
theorem dX5_write_90 : decode cX5_write 90 = .ok (.iastore, 1) := by decide +kernel
theorem dX5_write_91 : decode cX5_write 91 = .ok (.aload_n 0, 1) := by decide +kernel
theorem dX5_write_92 : decode cX5_write 92 = .ok (.dup, 1) := by decide +kernel
theorem dX5_write_93 : decode cX5_write 93 = .ok (.getfield 56, 3) := by decide +kernel
theorem dX5_write_96 : decode cX5_write 96 = .ok (.iconst 1, 1) := by decide +kernel
theorem dX5_write_97 : decode cX5_write 97 = .ok (.iadd, 1) := by decide +kernel
theorem dX5_write_98 : decode cX5_write 98 = .ok (.putfield 56, 3) := by decide +kernel
theorem dX5_write_101 : decode cX5_write 101 = .ok (.aload_n 0, 1) := by decide +kernel
theorem dX5_write_102 : decode cX5_write 102 = .ok (.getfield 56, 3) := by decide +kernel
theorem dX5_write_105 : decode cX5_write 105 = .ok (.ireturn, 1) := by decide +kernel
theorem dX5_lastOf_0 : decode cX5_lastOf 0 = .ok (.iconst (-1), 1) := by decide +kernel
theorem dX5_lastOf_1 : decode cX5_lastOf 1 = .ok (.istore_n 2, 1) := by decide +kernel
theorem dX5_lastOf_2 : decode cX5_lastOf 2 = .ok (.iconst 0, 1) := by decide +kernel
theorem dX5_lastOf_3 : decode cX5_lastOf 3 = .ok (.istore_n 3, 1) := by decide +kernel
theorem dX5_lastOf_4 : decode cX5_lastOf 4 = .ok (.iload_n 3, 1) := by decide +kernel
theorem dX5_lastOf_5 : decode cX5_lastOf 5 = .ok (.aload_n 0, 1) := by decide +kernel
theorem dX5_lastOf_6 : decode cX5_lastOf 6 = .ok (.getfield 56, 3) := by decide +kernel
theorem dX5_lastOf_9 : decode cX5_lastOf 9 = .ok (.if_icmp .ge 25, 3) := by decide +kernel
theorem dX5_lastOf_12 : decode cX5_lastOf 12 = .ok (.aload_n 0, 1) := by decide +kernel
theorem dX5_lastOf_13 : decode cX5_lastOf 13 = .ok (.getfield 22, 3) := by decide +kernel
theorem dX5_lastOf_16 : decode cX5_lastOf 16 = .ok (.iload_n 3, 1) := by decide +kernel
theorem dX5_lastOf_17 : decode cX5_lastOf 17 = .ok (.iaload, 1) := by decide +kernel
theorem dX5_lastOf_18 : decode cX5_lastOf 18 = .ok (.iload_n 1, 1) := by decide +kernel
theorem dX5_lastOf_19 : decode cX5_lastOf 19 = .ok (.if_icmp .ne 7, 3) := by decide +kernel
theorem dX5_lastOf_22 : decode cX5_lastOf 22 = .ok (.iload_n 3, 1) := by decide +kernel
theorem dX5_lastOf_23 : decode cX5_lastOf 23 = .ok (.goto 4, 3) := by decide +kernel
theorem dX5_lastOf_26 : decode cX5_lastOf 26 = .ok (.iload_n 2, 1) := by decide +kernel
theorem dX5_lastOf_27 : decode cX5_lastOf 27 = .ok (.istore_n 2, 1) := by decide +kernel
theorem dX5_lastOf_28 : decode cX5_lastOf 28 = .ok (.iinc 3 1, 3) := by decide +kernel
theorem dX5_lastOf_31 : decode cX5_lastOf 31 = .ok (.goto (-27), 3) := by decide +kernel
theorem dX5_lastOf_34 : decode cX5_lastOf 34 = .ok (.iload_n 2, 1) := by decide +kernel
theorem dX5_lastOf_35 : decode cX5_lastOf 35 = .ok (.ireturn, 1) := by decide +kernel
theorem dX5_nowOf_0 : decode cX5_nowOf 0 = .ok (.aload_n 0, 1) := by decide +kernel
theorem dX5_nowOf_1 : decode cX5_nowOf 1 = .ok (.iload_n 1, 1) := by decide +kernel
theorem dX5_nowOf_2 : decode cX5_nowOf 2 = .ok (.invokevirtual 88, 3) := by decide +kernel
theorem dX5_nowOf_5 : decode cX5_nowOf 5 = .ok (.istore_n 2, 1) := by decide +kernel
theorem dX5_nowOf_6 : decode cX5_nowOf 6 = .ok (.iload_n 2, 1) := by decide +kernel
theorem dX5_nowOf_7 : decode cX5_nowOf 7 = .ok (.ifCond .ge 20, 3) := by decide +kernel
theorem dX5_nowOf_10 : decode cX5_nowOf 10 = .ok (.aload_n 0, 1) := by decide +kernel
theorem dX5_nowOf_11 : decode cX5_nowOf 11 = .ok (.getfield 7, 3) := by decide +kernel
theorem dX5_nowOf_14 : decode cX5_nowOf 14 = .ok (.bipush 32, 2) := by decide +kernel
theorem dX5_nowOf_16 : decode cX5_nowOf 16 = .ok (.aload_n 0, 1) := by decide +kernel
theorem dX5_nowOf_17 : decode cX5_nowOf 17 = .ok (.getfield 52, 3) := by decide +kernel
theorem dX5_nowOf_20 : decode cX5_nowOf 20 = .ok (.imul, 1) := by decide +kernel
theorem dX5_nowOf_21 : decode cX5_nowOf 21 = .ok (.iload_n 1, 1) := by decide +kernel
theorem dX5_nowOf_22 : decode cX5_nowOf 22 = .ok (.iadd, 1) := by decide +kernel
theorem dX5_nowOf_23 : decode cX5_nowOf 23 = .ok (.iaload, 1) := by decide +kernel
theorem dX5_nowOf_24 : decode cX5_nowOf 24 = .ok (.goto 9, 3) := by decide +kernel
theorem dX5_nowOf_27 : decode cX5_nowOf 27 = .ok (.aload_n 0, 1) := by decide +kernel
theorem dX5_nowOf_28 : decode cX5_nowOf 28 = .ok (.getfield 25, 3) := by decide +kernel
theorem dX5_nowOf_31 : decode cX5_nowOf 31 = .ok (.iload_n 2, 1) := by decide +kernel
theorem dX5_nowOf_32 : decode cX5_nowOf 32 = .ok (.iaload, 1) := by decide +kernel
theorem dX5_nowOf_33 : decode cX5_nowOf 33 = .ok (.ireturn, 1) := by decide +kernel
theorem dX5_seal_0 : decode cX5_seal 0 = .ok (.iconst 0, 1) := by decide +kernel
theorem dX5_seal_1 : decode cX5_seal 1 = .ok (.istore_n 1, 1) := by decide +kernel
theorem dX5_seal_2 : decode cX5_seal 2 = .ok (.iconst 0, 1) := by decide +kernel
theorem dX5_seal_3 : decode cX5_seal 3 = .ok (.istore_n 2, 1) := by decide +kernel
theorem dX5_seal_4 : decode cX5_seal 4 = .ok (.iload_n 2, 1) := by decide +kernel
theorem dX5_seal_5 : decode cX5_seal 5 = .ok (.bipush 32, 2) := by decide +kernel
theorem dX5_seal_7 : decode cX5_seal 7 = .ok (.if_icmp .ge 39, 3) := by decide +kernel
theorem dX5_seal_10 : decode cX5_seal 10 = .ok (.iload_n 1, 1) := by decide +kernel
theorem dX5_seal_11 : decode cX5_seal 11 = .ok (.aload_n 0, 1) := by decide +kernel
theorem dX5_seal_12 : decode cX5_seal 12 = .ok (.iload_n 2, 1) := by decide +kernel
theorem dX5_seal_13 : decode cX5_seal 13 = .ok (.invokevirtual 91, 3) := by decide +kernel
theorem dX5_seal_16 : decode cX5_seal 16 = .ok (.aload_n 0, 1) := by decide +kernel
theorem dX5_seal_17 : decode cX5_seal 17 = .ok (.getfield 7, 3) := by decide +kernel
theorem dX5_seal_20 : decode cX5_seal 20 = .ok (.bipush 32, 2) := by decide +kernel
theorem dX5_seal_22 : decode cX5_seal 22 = .ok (.aload_n 0, 1) := by decide +kernel
theorem dX5_seal_23 : decode cX5_seal 23 = .ok (.getfield 52, 3) := by decide +kernel
theorem dX5_seal_26 : decode cX5_seal 26 = .ok (.imul, 1) := by decide +kernel
theorem dX5_seal_27 : decode cX5_seal 27 = .ok (.iload_n 2, 1) := by decide +kernel
theorem dX5_seal_28 : decode cX5_seal 28 = .ok (.iadd, 1) := by decide +kernel
theorem dX5_seal_29 : decode cX5_seal 29 = .ok (.iaload, 1) := by decide +kernel
theorem dX5_seal_30 : decode cX5_seal 30 = .ok (.if_icmp .eq 7, 3) := by decide +kernel
theorem dX5_seal_33 : decode cX5_seal 33 = .ok (.iconst 1, 1) := by decide +kernel
theorem dX5_seal_34 : decode cX5_seal 34 = .ok (.goto 4, 3) := by decide +kernel
theorem dX5_seal_37 : decode cX5_seal 37 = .ok (.iconst 0, 1) := by decide +kernel
theorem dX5_seal_38 : decode cX5_seal 38 = .ok (.iadd, 1) := by decide +kernel
theorem dX5_seal_39 : decode cX5_seal 39 = .ok (.istore_n 1, 1) := by decide +kernel
theorem dX5_seal_40 : decode cX5_seal 40 = .ok (.iinc 2 1, 3) := by decide +kernel
theorem dX5_seal_43 : decode cX5_seal 43 = .ok (.goto (-39), 3) := by decide +kernel
theorem dX5_seal_46 : decode cX5_seal 46 = .ok (.aload_n 0, 1) := by decide +kernel
theorem dX5_seal_47 : decode cX5_seal 47 = .ok (.getfield 52, 3) := by decide +kernel
theorem dX5_seal_50 : decode cX5_seal 50 = .ok (.sipush 200, 3) := by decide +kernel
theorem dX5_seal_53 : decode cX5_seal 53 = .ok (.if_icmp .eq 15, 3) := by decide +kernel
theorem dX5_seal_56 : decode cX5_seal 56 = .ok (.aload_n 0, 1) := by decide +kernel
theorem dX5_seal_57 : decode cX5_seal 57 = .ok (.getfield 59, 3) := by decide +kernel
theorem dX5_seal_60 : decode cX5_seal 60 = .ok (.iload_n 1, 1) := by decide +kernel
theorem dX5_seal_61 : decode cX5_seal 61 = .ok (.iadd, 1) := by decide +kernel
theorem dX5_seal_62 : decode cX5_seal 62 = .ok (.sipush 400, 3) := by decide +kernel
theorem dX5_seal_65 : decode cX5_seal 65 = .ok (.if_icmp .le 6, 3) := by decide +kernel
theorem dX5_seal_68 : decode cX5_seal 68 = .ok (.bipush (-105), 2) := by decide +kernel
theorem dX5_seal_70 : decode cX5_seal 70 = .ok (.ireturn, 1) := by decide +kernel
theorem dX5_seal_71 : decode cX5_seal 71 = .ok (.aload_n 0, 1) := by decide +kernel
theorem dX5_seal_72 : decode cX5_seal 72 = .ok (.getfield 52, 3) := by decide +kernel
theorem dX5_seal_75 : decode cX5_seal 75 = .ok (.iconst 1, 1) := by decide +kernel
theorem dX5_seal_76 : decode cX5_seal 76 = .ok (.iadd, 1) := by decide +kernel
theorem dX5_seal_77 : decode cX5_seal 77 = .ok (.istore_n 2, 1) := by decide +kernel
theorem dX5_seal_78 : decode cX5_seal 78 = .ok (.iconst 0, 1) := by decide +kernel
theorem dX5_seal_79 : decode cX5_seal 79 = .ok (.istore_n 3, 1) := by decide +kernel
theorem dX5_seal_80 : decode cX5_seal 80 = .ok (.iload_n 3, 1) := by decide +kernel
theorem dX5_seal_81 : decode cX5_seal 81 = .ok (.bipush 32, 2) := by decide +kernel
theorem dX5_seal_83 : decode cX5_seal 83 = .ok (.if_icmp .ge 118, 3) := by decide +kernel
theorem dX5_seal_86 : decode cX5_seal 86 = .ok (.aload_n 0, 1) := by decide +kernel
theorem dX5_seal_87 : decode cX5_seal 87 = .ok (.iload_n 3, 1) := by decide +kernel
theorem dX5_seal_88 : decode cX5_seal 88 = .ok (.invokevirtual 91, 3) := by decide +kernel
theorem dX5_seal_91 : decode cX5_seal 91 = .ok (.istore 4, 2) := by decide +kernel
theorem dX5_seal_93 : decode cX5_seal 93 = .ok (.aload_n 0, 1) := by decide +kernel
theorem dX5_seal_94 : decode cX5_seal 94 = .ok (.getfield 7, 3) := by decide +kernel
theorem dX5_seal_97 : decode cX5_seal 97 = .ok (.bipush 32, 2) := by decide +kernel
theorem dX5_seal_99 : decode cX5_seal 99 = .ok (.iload_n 2, 1) := by decide +kernel
theorem dX5_seal_100 : decode cX5_seal 100 = .ok (.imul, 1) := by decide +kernel
theorem dX5_seal_101 : decode cX5_seal 101 = .ok (.iload_n 3, 1) := by decide +kernel
theorem dX5_seal_102 : decode cX5_seal 102 = .ok (.iadd, 1) := by decide +kernel
theorem dX5_seal_103 : decode cX5_seal 103 = .ok (.iload 4, 2) := by decide +kernel
theorem dX5_seal_105 : decode cX5_seal 105 = .ok (.iastore, 1) := by decide +kernel
theorem dX5_seal_106 : decode cX5_seal 106 = .ok (.iload 4, 2) := by decide +kernel
theorem dX5_seal_108 : decode cX5_seal 108 = .ok (.aload_n 0, 1) := by decide +kernel
theorem dX5_seal_109 : decode cX5_seal 109 = .ok (.getfield 7, 3) := by decide +kernel
theorem dX5_seal_112 : decode cX5_seal 112 = .ok (.bipush 32, 2) := by decide +kernel
theorem dX5_seal_114 : decode cX5_seal 114 = .ok (.aload_n 0, 1) := by decide +kernel
theorem dX5_seal_115 : decode cX5_seal 115 = .ok (.getfield 52, 3) := by decide +kernel
theorem dX5_seal_118 : decode cX5_seal 118 = .ok (.imul, 1) := by decide +kernel
theorem dX5_seal_119 : decode cX5_seal 119 = .ok (.iload_n 3, 1) := by decide +kernel
theorem dX5_seal_120 : decode cX5_seal 120 = .ok (.iadd, 1) := by decide +kernel
theorem dX5_seal_121 : decode cX5_seal 121 = .ok (.iaload, 1) := by decide +kernel
theorem dX5_seal_122 : decode cX5_seal 122 = .ok (.if_icmp .eq 73, 3) := by decide +kernel
theorem dX5_seal_125 : decode cX5_seal 125 = .ok (.aload_n 0, 1) := by decide +kernel
theorem dX5_seal_126 : decode cX5_seal 126 = .ok (.getfield 28, 3) := by decide +kernel
theorem dX5_seal_129 : decode cX5_seal 129 = .ok (.aload_n 0, 1) := by decide +kernel
theorem dX5_seal_130 : decode cX5_seal 130 = .ok (.getfield 59, 3) := by decide +kernel
theorem dX5_seal_133 : decode cX5_seal 133 = .ok (.iload_n 3, 1) := by decide +kernel
theorem dX5_seal_134 : decode cX5_seal 134 = .ok (.iastore, 1) := by decide +kernel
theorem dX5_seal_135 : decode cX5_seal 135 = .ok (.aload_n 0, 1) := by decide +kernel
theorem dX5_seal_136 : decode cX5_seal 136 = .ok (.getfield 31, 3) := by decide +kernel
theorem dX5_seal_139 : decode cX5_seal 139 = .ok (.aload_n 0, 1) := by decide +kernel
theorem dX5_seal_140 : decode cX5_seal 140 = .ok (.getfield 59, 3) := by decide +kernel
theorem dX5_seal_143 : decode cX5_seal 143 = .ok (.iload_n 2, 1) := by decide +kernel
theorem dX5_seal_144 : decode cX5_seal 144 = .ok (.iastore, 1) := by decide +kernel
theorem dX5_seal_145 : decode cX5_seal 145 = .ok (.aload_n 0, 1) := by decide +kernel
theorem dX5_seal_146 : decode cX5_seal 146 = .ok (.getfield 34, 3) := by decide +kernel
theorem dX5_seal_149 : decode cX5_seal 149 = .ok (.aload_n 0, 1) := by decide +kernel
theorem dX5_seal_150 : decode cX5_seal 150 = .ok (.getfield 59, 3) := by decide +kernel
theorem dX5_seal_153 : decode cX5_seal 153 = .ok (.iload 4, 2) := by decide +kernel
theorem dX5_seal_155 : decode cX5_seal 155 = .ok (.iastore, 1) := by decide +kernel
theorem dX5_seal_156 : decode cX5_seal 156 = .ok (.aload_n 0, 1) := by decide +kernel
theorem dX5_seal_157 : decode cX5_seal 157 = .ok (.getfield 37, 3) := by decide +kernel
theorem dX5_seal_160 : decode cX5_seal 160 = .ok (.aload_n 0, 1) := by decide +kernel
theorem dX5_seal_161 : decode cX5_seal 161 = .ok (.getfield 59, 3) := by decide +kernel
theorem dX5_seal_164 : decode cX5_seal 164 = .ok (.aload_n 0, 1) := by decide +kernel
theorem dX5_seal_165 : decode cX5_seal 165 = .ok (.getfield 19, 3) := by decide +kernel
theorem dX5_seal_168 : decode cX5_seal 168 = .ok (.aload_n 0, 1) := by decide +kernel
theorem dX5_seal_169 : decode cX5_seal 169 = .ok (.iload_n 3, 1) := by decide +kernel
theorem dX5_seal_170 : decode cX5_seal 170 = .ok (.invokevirtual 88, 3) := by decide +kernel
theorem dX5_seal_173 : decode cX5_seal 173 = .ok (.iaload, 1) := by decide +kernel
theorem dX5_seal_174 : decode cX5_seal 174 = .ok (.iastore, 1) := by decide +kernel
theorem dX5_seal_175 : decode cX5_seal 175 = .ok (.aload_n 0, 1) := by decide +kernel
theorem dX5_seal_176 : decode cX5_seal 176 = .ok (.getfield 40, 3) := by decide +kernel
theorem dX5_seal_179 : decode cX5_seal 179 = .ok (.aload_n 0, 1) := by decide +kernel
theorem dX5_seal_180 : decode cX5_seal 180 = .ok (.getfield 59, 3) := by decide +kernel
theorem dX5_seal_183 : decode cX5_seal 183 = .ok (.iconst 0, 1) := by decide +kernel
theorem dX5_seal_184 : decode cX5_seal 184 = .ok (.iastore, 1) := by decide +kernel
theorem dX5_seal_185 : decode cX5_seal 185 = .ok (.aload_n 0, 1) := by decide +kernel
theorem dX5_seal_186 : decode cX5_seal 186 = .ok (.dup, 1) := by decide +kernel
theorem dX5_seal_187 : decode cX5_seal 187 = .ok (.getfield 59, 3) := by decide +kernel
theorem dX5_seal_190 : decode cX5_seal 190 = .ok (.iconst 1, 1) := by decide +kernel
theorem dX5_seal_191 : decode cX5_seal 191 = .ok (.iadd, 1) := by decide +kernel
theorem dX5_seal_192 : decode cX5_seal 192 = .ok (.putfield 59, 3) := by decide +kernel
theorem dX5_seal_195 : decode cX5_seal 195 = .ok (.iinc 3 1, 3) := by decide +kernel
theorem dX5_seal_198 : decode cX5_seal 198 = .ok (.goto (-118), 3) := by decide +kernel
theorem dX5_seal_201 : decode cX5_seal 201 = .ok (.aload_n 0, 1) := by decide +kernel
theorem dX5_seal_202 : decode cX5_seal 202 = .ok (.iload_n 2, 1) := by decide +kernel
theorem dX5_seal_203 : decode cX5_seal 203 = .ok (.putfield 52, 3) := by decide +kernel
theorem dX5_seal_206 : decode cX5_seal 206 = .ok (.aload_n 0, 1) := by decide +kernel
theorem dX5_seal_207 : decode cX5_seal 207 = .ok (.iconst 0, 1) := by decide +kernel
theorem dX5_seal_208 : decode cX5_seal 208 = .ok (.putfield 56, 3) := by decide +kernel
theorem dX5_seal_211 : decode cX5_seal 211 = .ok (.aload_n 0, 1) := by decide +kernel
theorem dX5_seal_212 : decode cX5_seal 212 = .ok (.getfield 16, 3) := by decide +kernel
theorem dX5_seal_215 : decode cX5_seal 215 = .ok (.iload_n 2, 1) := by decide +kernel
theorem dX5_seal_216 : decode cX5_seal 216 = .ok (.iconst 0, 1) := by decide +kernel
theorem dX5_seal_217 : decode cX5_seal 217 = .ok (.iastore, 1) := by decide +kernel
theorem dX5_seal_218 : decode cX5_seal 218 = .ok (.aload_n 0, 1) := by decide +kernel
theorem dX5_seal_219 : decode cX5_seal 219 = .ok (.getfield 13, 3) := by decide +kernel
theorem dX5_seal_222 : decode cX5_seal 222 = .ok (.iload_n 2, 1) := by decide +kernel
theorem dX5_seal_223 : decode cX5_seal 223 = .ok (.aload_n 0, 1) := by decide +kernel
theorem dX5_seal_224 : decode cX5_seal 224 = .ok (.iload_n 2, 1) := by decide +kernel
theorem dX5_seal_225 : decode cX5_seal 225 = .ok (.invokevirtual 68, 3) := by decide +kernel
theorem dX5_seal_228 : decode cX5_seal 228 = .ok (.iastore, 1) := by decide +kernel
theorem dX5_seal_229 : decode cX5_seal 229 = .ok (.iload_n 2, 1) := by decide +kernel
theorem dX5_seal_230 : decode cX5_seal 230 = .ok (.ireturn, 1) := by decide +kernel
theorem dX5_drop_0 : decode cX5_drop 0 = .ok (.aload_n 0, 1) := by decide +kernel
theorem dX5_drop_1 : decode cX5_drop 1 = .ok (.getfield 56, 3) := by decide +kernel
theorem dX5_drop_4 : decode cX5_drop 4 = .ok (.istore_n 1, 1) := by decide +kernel
theorem dX5_drop_5 : decode cX5_drop 5 = .ok (.aload_n 0, 1) := by decide +kernel
theorem dX5_drop_6 : decode cX5_drop 6 = .ok (.iconst 0, 1) := by decide +kernel
theorem dX5_drop_7 : decode cX5_drop 7 = .ok (.putfield 56, 3) := by decide +kernel
theorem dX5_drop_10 : decode cX5_drop 10 = .ok (.iload_n 1, 1) := by decide +kernel
theorem dX5_drop_11 : decode cX5_drop 11 = .ok (.ireturn, 1) := by decide +kernel
theorem dX5_at_0 : decode cX5_at 0 = .ok (.iload_n 1, 1) := by decide +kernel
theorem dX5_at_1 : decode cX5_at 1 = .ok (.invokestatic 84, 3) := by decide +kernel
theorem dX5_at_4 : decode cX5_at 4 = .ok (.ifCond .eq 11, 3) := by decide +kernel
theorem dX5_at_7 : decode cX5_at 7 = .ok (.aload_n 0, 1) := by decide +kernel
theorem dX5_at_8 : decode cX5_at 8 = .ok (.iload_n 2, 1) := by decide +kernel
theorem dX5_at_9 : decode cX5_at 9 = .ok (.invokevirtual 94, 3) := by decide +kernel
theorem dX5_at_12 : decode cX5_at 12 = .ok (.ifCond .ne 7, 3) := by decide +kernel
theorem dX5_at_15 : decode cX5_at 15 = .ok (.ldc2_w 97, 3) := by decide +kernel
theorem dX5_at_18 : decode cX5_at 18 = .ok (.lreturn, 1) := by decide +kernel
theorem dX5_at_19 : decode cX5_at 19 = .ok (.aload_n 0, 1) := by decide +kernel
theorem dX5_at_20 : decode cX5_at 20 = .ok (.getfield 16, 3) := by decide +kernel
theorem dX5_at_23 : decode cX5_at 23 = .ok (.iload_n 2, 1) := by decide +kernel
theorem dX5_at_24 : decode cX5_at 24 = .ok (.iaload, 1) := by decide +kernel
theorem dX5_at_25 : decode cX5_at 25 = .ok (.ifCond .le 9, 3) := by decide +kernel
theorem dX5_at_28 : decode cX5_at 28 = .ok (.ldc2_w 99, 3) := by decide +kernel
theorem dX5_at_31 : decode cX5_at 31 = .ok (.goto 15, 3) := by decide +kernel
theorem dX5_at_34 : decode cX5_at 34 = .ok (.aload_n 0, 1) := by decide +kernel
theorem dX5_at_35 : decode cX5_at 35 = .ok (.getfield 7, 3) := by decide +kernel
theorem dX5_at_38 : decode cX5_at 38 = .ok (.bipush 32, 2) := by decide +kernel
theorem dX5_at_40 : decode cX5_at 40 = .ok (.iload_n 2, 1) := by decide +kernel
theorem dX5_at_41 : decode cX5_at 41 = .ok (.imul, 1) := by decide +kernel
theorem dX5_at_42 : decode cX5_at 42 = .ok (.iload_n 1, 1) := by decide +kernel
theorem dX5_at_43 : decode cX5_at 43 = .ok (.iadd, 1) := by decide +kernel
theorem dX5_at_44 : decode cX5_at 44 = .ok (.iaload, 1) := by decide +kernel
theorem dX5_at_45 : decode cX5_at 45 = .ok (.i2l, 1) := by decide +kernel
theorem dX5_at_46 : decode cX5_at 46 = .ok (.lreturn, 1) := by decide +kernel
theorem dX5_now_0 : decode cX5_now 0 = .ok (.iload_n 1, 1) := by decide +kernel
theorem dX5_now_1 : decode cX5_now 1 = .ok (.invokestatic 84, 3) := by decide +kernel
theorem dX5_now_4 : decode cX5_now 4 = .ok (.ifCond .eq 12, 3) := by decide +kernel
theorem dX5_now_7 : decode cX5_now 7 = .ok (.aload_n 0, 1) := by decide +kernel
theorem dX5_now_8 : decode cX5_now 8 = .ok (.iload_n 1, 1) := by decide +kernel
theorem dX5_now_9 : decode cX5_now 9 = .ok (.invokevirtual 91, 3) := by decide +kernel
theorem dX5_now_12 : decode cX5_now 12 = .ok (.i2l, 1) := by decide +kernel
theorem dX5_now_13 : decode cX5_now 13 = .ok (.goto 6, 3) := by decide +kernel
theorem dX5_now_16 : decode cX5_now 16 = .ok (.ldc2_w 97, 3) := by decide +kernel
theorem dX5_now_19 : decode cX5_now 19 = .ok (.lreturn, 1) := by decide +kernel
theorem dX5_digest_0 : decode cX5_digest 0 = .ok (.aload_n 0, 1) := by decide +kernel
theorem dX5_digest_1 : decode cX5_digest 1 = .ok (.iload_n 1, 1) := by decide +kernel
theorem dX5_digest_2 : decode cX5_digest 2 = .ok (.invokevirtual 94, 3) := by decide +kernel
theorem dX5_digest_5 : decode cX5_digest 5 = .ok (.ifCond .eq 13, 3) := by decide +kernel
theorem dX5_digest_8 : decode cX5_digest 8 = .ok (.aload_n 0, 1) := by decide +kernel
theorem dX5_digest_9 : decode cX5_digest 9 = .ok (.getfield 13, 3) := by decide +kernel
theorem dX5_digest_12 : decode cX5_digest 12 = .ok (.iload_n 1, 1) := by decide +kernel
theorem dX5_digest_13 : decode cX5_digest 13 = .ok (.iaload, 1) := by decide +kernel
theorem dX5_digest_14 : decode cX5_digest 14 = .ok (.i2l, 1) := by decide +kernel
theorem dX5_digest_15 : decode cX5_digest 15 = .ok (.goto 6, 3) := by decide +kernel
theorem dX5_digest_18 : decode cX5_digest 18 = .ok (.ldc2_w 97, 3) := by decide +kernel
theorem dX5_digest_21 : decode cX5_digest 21 = .ok (.lreturn, 1) := by decide +kernel
theorem dX5_blame_0 : decode cX5_blame 0 = .ok (.iload_n 1, 1) := by decide +kernel
theorem dX5_blame_1 : decode cX5_blame 1 = .ok (.invokestatic 84, 3) := by decide +kernel
theorem dX5_blame_4 : decode cX5_blame 4 = .ok (.ifCond .eq 11, 3) := by decide +kernel
theorem dX5_blame_7 : decode cX5_blame 7 = .ok (.aload_n 0, 1) := by decide +kernel
theorem dX5_blame_8 : decode cX5_blame 8 = .ok (.iload_n 2, 1) := by decide +kernel
theorem dX5_blame_9 : decode cX5_blame 9 = .ok (.invokevirtual 94, 3) := by decide +kernel
theorem dX5_blame_12 : decode cX5_blame 12 = .ok (.ifCond .ne 6, 3) := by decide +kernel
theorem dX5_blame_15 : decode cX5_blame 15 = .ok (.bipush (-101), 2) := by decide +kernel
theorem dX5_blame_17 : decode cX5_blame 17 = .ok (.ireturn, 1) := by decide +kernel
theorem dX5_blame_18 : decode cX5_blame 18 = .ok (.iload_n 3, 1) := by decide +kernel
theorem dX5_blame_19 : decode cX5_blame 19 = .ok (.iconst 0, 1) := by decide +kernel
theorem dX5_blame_20 : decode cX5_blame 20 = .ok (.iconst 1, 1) := by decide +kernel
theorem dX5_blame_21 : decode cX5_blame 21 = .ok (.invokestatic 72, 3) := by decide +kernel
theorem dX5_blame_24 : decode cX5_blame 24 = .ok (.ifCond .ne 6, 3) := by decide +kernel
theorem dX5_blame_27 : decode cX5_blame 27 = .ok (.bipush (-102), 2) := by decide +kernel
theorem dX5_blame_29 : decode cX5_blame 29 = .ok (.ireturn, 1) := by decide +kernel
theorem dX5_blame_30 : decode cX5_blame 30 = .ok (.aload_n 0, 1) := by decide +kernel
theorem dX5_blame_31 : decode cX5_blame 31 = .ok (.getfield 16, 3) := by decide +kernel
theorem dX5_blame_34 : decode cX5_blame 34 = .ok (.iload_n 2, 1) := by decide +kernel
theorem dX5_blame_35 : decode cX5_blame 35 = .ok (.iaload, 1) := by decide +kernel
theorem dX5_blame_36 : decode cX5_blame 36 = .ok (.ifCond .le 6, 3) := by decide +kernel
theorem dX5_blame_39 : decode cX5_blame 39 = .ok (.bipush (-104), 2) := by decide +kernel
theorem dX5_blame_41 : decode cX5_blame 41 = .ok (.ireturn, 1) := by decide +kernel
theorem dX5_blame_42 : decode cX5_blame 42 = .ok (.iconst (-1), 1) := by decide +kernel
theorem dX5_blame_43 : decode cX5_blame 43 = .ok (.istore 4, 2) := by decide +kernel
theorem dX5_blame_45 : decode cX5_blame 45 = .ok (.iconst 0, 1) := by decide +kernel
theorem dX5_blame_46 : decode cX5_blame 46 = .ok (.istore 5, 2) := by decide +kernel
theorem dX5_blame_48 : decode cX5_blame 48 = .ok (.iload 5, 2) := by decide +kernel
theorem dX5_blame_50 : decode cX5_blame 50 = .ok (.aload_n 0, 1) := by decide +kernel
theorem dX5_blame_51 : decode cX5_blame 51 = .ok (.getfield 59, 3) := by decide +kernel
theorem dX5_blame_54 : decode cX5_blame 54 = .ok (.if_icmp .ge 81, 3) := by decide +kernel
theorem dX5_blame_57 : decode cX5_blame 57 = .ok (.aload_n 0, 1) := by decide +kernel
theorem dX5_blame_58 : decode cX5_blame 58 = .ok (.getfield 40, 3) := by decide +kernel
theorem dX5_blame_61 : decode cX5_blame 61 = .ok (.iload 5, 2) := by decide +kernel
theorem dX5_blame_63 : decode cX5_blame 63 = .ok (.iaload, 1) := by decide +kernel
theorem dX5_blame_64 : decode cX5_blame 64 = .ok (.ifCond .ne 29, 3) := by decide +kernel
theorem dX5_blame_67 : decode cX5_blame 67 = .ok (.aload_n 0, 1) := by decide +kernel
theorem dX5_blame_68 : decode cX5_blame 68 = .ok (.getfield 28, 3) := by decide +kernel
theorem dX5_blame_71 : decode cX5_blame 71 = .ok (.iload 5, 2) := by decide +kernel
theorem dX5_blame_73 : decode cX5_blame 73 = .ok (.iaload, 1) := by decide +kernel
theorem dX5_blame_74 : decode cX5_blame 74 = .ok (.iload_n 1, 1) := by decide +kernel
theorem dX5_blame_75 : decode cX5_blame 75 = .ok (.if_icmp .ne 18, 3) := by decide +kernel
theorem dX5_blame_78 : decode cX5_blame 78 = .ok (.aload_n 0, 1) := by decide +kernel
theorem dX5_blame_79 : decode cX5_blame 79 = .ok (.getfield 31, 3) := by decide +kernel
theorem dX5_blame_82 : decode cX5_blame 82 = .ok (.iload 5, 2) := by decide +kernel
theorem dX5_blame_84 : decode cX5_blame 84 = .ok (.iaload, 1) := by decide +kernel
theorem dX5_blame_85 : decode cX5_blame 85 = .ok (.iload_n 2, 1) := by decide +kernel
theorem dX5_blame_86 : decode cX5_blame 86 = .ok (.if_icmp .gt 7, 3) := by decide +kernel
theorem dX5_blame_89 : decode cX5_blame 89 = .ok (.iconst 1, 1) := by decide +kernel
theorem dX5_blame_90 : decode cX5_blame 90 = .ok (.goto 4, 3) := by decide +kernel
theorem dX5_blame_93 : decode cX5_blame 93 = .ok (.iconst 0, 1) := by decide +kernel
theorem dX5_blame_94 : decode cX5_blame 94 = .ok (.istore 6, 2) := by decide +kernel
theorem dX5_blame_96 : decode cX5_blame 96 = .ok (.iload 6, 2) := by decide +kernel
theorem dX5_blame_98 : decode cX5_blame 98 = .ok (.ifCond .eq 27, 3) := by decide +kernel
theorem dX5_blame_101 : decode cX5_blame 101 = .ok (.iload_n 3, 1) := by decide +kernel
theorem dX5_blame_102 : decode cX5_blame 102 = .ok (.ifCond .ne 13, 3) := by decide +kernel
theorem dX5_blame_105 : decode cX5_blame 105 = .ok (.aload_n 0, 1) := by decide +kernel
theorem dX5_blame_106 : decode cX5_blame 106 = .ok (.getfield 37, 3) := by decide +kernel
theorem dX5_blame_109 : decode cX5_blame 109 = .ok (.iload 5, 2) := by decide +kernel
theorem dX5_blame_111 : decode cX5_blame 111 = .ok (.iaload, 1) := by decide +kernel
theorem dX5_blame_112 : decode cX5_blame 112 = .ok (.goto 15, 3) := by decide +kernel
theorem dX5_blame_115 : decode cX5_blame 115 = .ok (.aload_n 0, 1) := by decide +kernel
theorem dX5_blame_116 : decode cX5_blame 116 = .ok (.getfield 31, 3) := by decide +kernel
theorem dX5_blame_119 : decode cX5_blame 119 = .ok (.iload 5, 2) := by decide +kernel
theorem dX5_blame_121 : decode cX5_blame 121 = .ok (.iaload, 1) := by decide +kernel
theorem dX5_blame_122 : decode cX5_blame 122 = .ok (.goto 5, 3) := by decide +kernel
theorem dX5_blame_125 : decode cX5_blame 125 = .ok (.iload 4, 2) := by decide +kernel
theorem dX5_blame_127 : decode cX5_blame 127 = .ok (.istore 4, 2) := by decide +kernel
theorem dX5_blame_129 : decode cX5_blame 129 = .ok (.iinc 5 1, 3) := by decide +kernel
theorem dX5_blame_132 : decode cX5_blame 132 = .ok (.goto (-84), 3) := by decide +kernel
theorem dX5_blame_135 : decode cX5_blame 135 = .ok (.iload 4, 2) := by decide +kernel
theorem dX5_blame_137 : decode cX5_blame 137 = .ok (.ireturn, 1) := by decide +kernel
theorem dX5_first_0 : decode cX5_first 0 = .ok (.iload_n 1, 1) := by decide +kernel
theorem dX5_first_1 : decode cX5_first 1 = .ok (.invokestatic 84, 3) := by decide +kernel
theorem dX5_first_4 : decode cX5_first 4 = .ok (.ifCond .ne 6, 3) := by decide +kernel
theorem dX5_first_7 : decode cX5_first 7 = .ok (.bipush (-101), 2) := by decide +kernel
theorem dX5_first_9 : decode cX5_first 9 = .ok (.ireturn, 1) := by decide +kernel
theorem dX5_first_10 : decode cX5_first 10 = .ok (.iconst 0, 1) := by decide +kernel
theorem dX5_first_11 : decode cX5_first 11 = .ok (.istore_n 3, 1) := by decide +kernel
theorem dX5_first_12 : decode cX5_first 12 = .ok (.iload_n 3, 1) := by decide +kernel
theorem dX5_first_13 : decode cX5_first 13 = .ok (.aload_n 0, 1) := by decide +kernel
theorem dX5_first_14 : decode cX5_first 14 = .ok (.getfield 52, 3) := by decide +kernel
theorem dX5_first_17 : decode cX5_first 17 = .ok (.if_icmp .gt 35, 3) := by decide +kernel
theorem dX5_first_20 : decode cX5_first 20 = .ok (.aload_n 0, 1) := by decide +kernel
theorem dX5_first_21 : decode cX5_first 21 = .ok (.getfield 16, 3) := by decide +kernel
theorem dX5_first_24 : decode cX5_first 24 = .ok (.iload_n 3, 1) := by decide +kernel
theorem dX5_first_25 : decode cX5_first 25 = .ok (.iaload, 1) := by decide +kernel
theorem dX5_first_26 : decode cX5_first 26 = .ok (.ifCond .ne 20, 3) := by decide +kernel
theorem dX5_first_29 : decode cX5_first 29 = .ok (.aload_n 0, 1) := by decide +kernel
theorem dX5_first_30 : decode cX5_first 30 = .ok (.getfield 7, 3) := by decide +kernel
theorem dX5_first_33 : decode cX5_first 33 = .ok (.bipush 32, 2) := by decide +kernel
theorem dX5_first_35 : decode cX5_first 35 = .ok (.iload_n 3, 1) := by decide +kernel
theorem dX5_first_36 : decode cX5_first 36 = .ok (.imul, 1) := by decide +kernel
theorem dX5_first_37 : decode cX5_first 37 = .ok (.iload_n 1, 1) := by decide +kernel
theorem dX5_first_38 : decode cX5_first 38 = .ok (.iadd, 1) := by decide +kernel
theorem dX5_first_39 : decode cX5_first 39 = .ok (.iaload, 1) := by decide +kernel
theorem dX5_first_40 : decode cX5_first 40 = .ok (.iload_n 2, 1) := by decide +kernel
theorem dX5_first_41 : decode cX5_first 41 = .ok (.if_icmp .ne 5, 3) := by decide +kernel
theorem dX5_first_44 : decode cX5_first 44 = .ok (.iload_n 3, 1) := by decide +kernel
theorem dX5_first_45 : decode cX5_first 45 = .ok (.ireturn, 1) := by decide +kernel
theorem dX5_first_46 : decode cX5_first 46 = .ok (.iinc 3 1, 3) := by decide +kernel
theorem dX5_first_49 : decode cX5_first 49 = .ok (.goto (-37), 3) := by decide +kernel
theorem dX5_first_52 : decode cX5_first 52 = .ok (.iconst (-1), 1) := by decide +kernel
theorem dX5_first_53 : decode cX5_first 53 = .ok (.ireturn, 1) := by decide +kernel
theorem dX5_bars_0 : decode cX5_bars 0 = .ok (.aload_n 0, 1) := by decide +kernel
theorem dX5_bars_1 : decode cX5_bars 1 = .ok (.iload_n 1, 1) := by decide +kernel
theorem dX5_bars_2 : decode cX5_bars 2 = .ok (.invokevirtual 94, 3) := by decide +kernel
theorem dX5_bars_5 : decode cX5_bars 5 = .ok (.ifCond .eq 11, 3) := by decide +kernel
theorem dX5_bars_8 : decode cX5_bars 8 = .ok (.aload_n 0, 1) := by decide +kernel
theorem dX5_bars_9 : decode cX5_bars 9 = .ok (.iload_n 2, 1) := by decide +kernel
theorem dX5_bars_10 : decode cX5_bars 10 = .ok (.invokevirtual 94, 3) := by decide +kernel
theorem dX5_bars_13 : decode cX5_bars 13 = .ok (.ifCond .ne 6, 3) := by decide +kernel
theorem dX5_bars_16 : decode cX5_bars 16 = .ok (.bipush (-101), 2) := by decide +kernel
theorem dX5_bars_18 : decode cX5_bars 18 = .ok (.ireturn, 1) := by decide +kernel
theorem dX5_bars_19 : decode cX5_bars 19 = .ok (.aload_n 0, 1) := by decide +kernel
theorem dX5_bars_20 : decode cX5_bars 20 = .ok (.getfield 16, 3) := by decide +kernel
theorem dX5_bars_23 : decode cX5_bars 23 = .ok (.iload_n 1, 1) := by decide +kernel
theorem dX5_bars_24 : decode cX5_bars 24 = .ok (.iaload, 1) := by decide +kernel
theorem dX5_bars_25 : decode cX5_bars 25 = .ok (.ifCond .gt 12, 3) := by decide +kernel
theorem dX5_bars_28 : decode cX5_bars 28 = .ok (.aload_n 0, 1) := by decide +kernel
theorem dX5_bars_29 : decode cX5_bars 29 = .ok (.getfield 16, 3) := by decide +kernel
theorem dX5_bars_32 : decode cX5_bars 32 = .ok (.iload_n 2, 1) := by decide +kernel
theorem dX5_bars_33 : decode cX5_bars 33 = .ok (.iaload, 1) := by decide +kernel
theorem dX5_bars_34 : decode cX5_bars 34 = .ok (.ifCond .le 8, 3) := by decide +kernel
theorem dX5_bars_37 : decode cX5_bars 37 = .ok (.bipush (-104), 2) := by decide +kernel
theorem dX5_bars_39 : decode cX5_bars 39 = .ok (.goto 4, 3) := by decide +kernel
theorem dX5_bars_42 : decode cX5_bars 42 = .ok (.iconst 0, 1) := by decide +kernel
theorem dX5_bars_43 : decode cX5_bars 43 = .ok (.ireturn, 1) := by decide +kernel
theorem dX5_differs_0 : decode cX5_differs 0 = .ok (.aload_n 0, 1) := by decide +kernel
theorem dX5_differs_1 : decode cX5_differs 1 = .ok (.iload_n 1, 1) := by decide +kernel
theorem dX5_differs_2 : decode cX5_differs 2 = .ok (.iload_n 2, 1) := by decide +kernel
theorem dX5_differs_3 : decode cX5_differs 3 = .ok (.invokevirtual 101, 3) := by decide +kernel
theorem dX5_differs_6 : decode cX5_differs 6 = .ok (.istore_n 3, 1) := by decide +kernel
theorem dX5_differs_7 : decode cX5_differs 7 = .ok (.iload_n 3, 1) := by decide +kernel
theorem dX5_differs_8 : decode cX5_differs 8 = .ok (.ifCond .ge 5, 3) := by decide +kernel
theorem dX5_differs_11 : decode cX5_differs 11 = .ok (.iload_n 3, 1) := by decide +kernel
theorem dX5_differs_12 : decode cX5_differs 12 = .ok (.ireturn, 1) := by decide +kernel
theorem dX5_differs_13 : decode cX5_differs 13 = .ok (.iconst 0, 1) := by decide +kernel
theorem dX5_differs_14 : decode cX5_differs 14 = .ok (.istore 4, 2) := by decide +kernel
theorem dX5_differs_16 : decode cX5_differs 16 = .ok (.iconst 0, 1) := by decide +kernel
theorem dX5_differs_17 : decode cX5_differs 17 = .ok (.istore 5, 2) := by decide +kernel
theorem dX5_differs_19 : decode cX5_differs 19 = .ok (.iload 5, 2) := by decide +kernel
theorem dX5_differs_21 : decode cX5_differs 21 = .ok (.bipush 32, 2) := by decide +kernel
theorem dX5_differs_23 : decode cX5_differs 23 = .ok (.if_icmp .ge 46, 3) := by decide +kernel
theorem dX5_differs_26 : decode cX5_differs 26 = .ok (.iload 4, 2) := by decide +kernel
theorem dX5_differs_28 : decode cX5_differs 28 = .ok (.aload_n 0, 1) := by decide +kernel
theorem dX5_differs_29 : decode cX5_differs 29 = .ok (.getfield 7, 3) := by decide +kernel
theorem dX5_differs_32 : decode cX5_differs 32 = .ok (.bipush 32, 2) := by decide +kernel
theorem dX5_differs_34 : decode cX5_differs 34 = .ok (.iload_n 1, 1) := by decide +kernel
theorem dX5_differs_35 : decode cX5_differs 35 = .ok (.imul, 1) := by decide +kernel
theorem dX5_differs_36 : decode cX5_differs 36 = .ok (.iload 5, 2) := by decide +kernel
theorem dX5_differs_38 : decode cX5_differs 38 = .ok (.iadd, 1) := by decide +kernel
theorem dX5_differs_39 : decode cX5_differs 39 = .ok (.iaload, 1) := by decide +kernel
theorem dX5_differs_40 : decode cX5_differs 40 = .ok (.aload_n 0, 1) := by decide +kernel
theorem dX5_differs_41 : decode cX5_differs 41 = .ok (.getfield 7, 3) := by decide +kernel
theorem dX5_differs_44 : decode cX5_differs 44 = .ok (.bipush 32, 2) := by decide +kernel
theorem dX5_differs_46 : decode cX5_differs 46 = .ok (.iload_n 2, 1) := by decide +kernel
theorem dX5_differs_47 : decode cX5_differs 47 = .ok (.imul, 1) := by decide +kernel
theorem dX5_differs_48 : decode cX5_differs 48 = .ok (.iload 5, 2) := by decide +kernel
theorem dX5_differs_50 : decode cX5_differs 50 = .ok (.iadd, 1) := by decide +kernel
theorem dX5_differs_51 : decode cX5_differs 51 = .ok (.iaload, 1) := by decide +kernel
theorem dX5_differs_52 : decode cX5_differs 52 = .ok (.if_icmp .eq 7, 3) := by decide +kernel
theorem dX5_differs_55 : decode cX5_differs 55 = .ok (.iconst 1, 1) := by decide +kernel
theorem dX5_differs_56 : decode cX5_differs 56 = .ok (.goto 4, 3) := by decide +kernel
theorem dX5_differs_59 : decode cX5_differs 59 = .ok (.iconst 0, 1) := by decide +kernel
theorem dX5_differs_60 : decode cX5_differs 60 = .ok (.iadd, 1) := by decide +kernel
theorem dX5_differs_61 : decode cX5_differs 61 = .ok (.istore 4, 2) := by decide +kernel
theorem dX5_differs_63 : decode cX5_differs 63 = .ok (.iinc 5 1, 3) := by decide +kernel
theorem dX5_differs_66 : decode cX5_differs 66 = .ok (.goto (-47), 3) := by decide +kernel
theorem dX5_differs_69 : decode cX5_differs 69 = .ok (.iload 4, 2) := by decide +kernel
theorem dX5_differs_71 : decode cX5_differs 71 = .ok (.ireturn, 1) := by decide +kernel
theorem dX5_difference_0 : decode cX5_difference 0 = .ok (.aload_n 0, 1) := by decide +kernel
theorem dX5_difference_1 : decode cX5_difference 1 = .ok (.iload_n 1, 1) := by decide +kernel
theorem dX5_difference_2 : decode cX5_difference 2 = .ok (.iload_n 2, 1) := by decide +kernel
theorem dX5_difference_3 : decode cX5_difference 3 = .ok (.invokevirtual 101, 3) := by decide +kernel
theorem dX5_difference_6 : decode cX5_difference 6 = .ok (.istore 4, 2) := by decide +kernel
theorem dX5_difference_8 : decode cX5_difference 8 = .ok (.iload 4, 2) := by decide +kernel
theorem dX5_difference_10 : decode cX5_difference 10 = .ok (.ifCond .ge 6, 3) := by decide +kernel
theorem dX5_difference_13 : decode cX5_difference 13 = .ok (.iload 4, 2) := by decide +kernel
theorem dX5_difference_15 : decode cX5_difference 15 = .ok (.ireturn, 1) := by decide +kernel
theorem dX5_difference_16 : decode cX5_difference 16 = .ok (.iconst 0, 1) := by decide +kernel
theorem dX5_difference_17 : decode cX5_difference 17 = .ok (.istore 5, 2) := by decide +kernel
theorem dX5_difference_19 : decode cX5_difference 19 = .ok (.iconst 0, 1) := by decide +kernel
theorem dX5_difference_20 : decode cX5_difference 20 = .ok (.istore 6, 2) := by decide +kernel
theorem dX5_difference_22 : decode cX5_difference 22 = .ok (.iload 6, 2) := by decide +kernel
theorem dX5_difference_24 : decode cX5_difference 24 = .ok (.bipush 32, 2) := by decide +kernel
theorem dX5_difference_26 : decode cX5_difference 26 = .ok (.if_icmp .ge 48, 3) := by decide +kernel
theorem dX5_difference_29 : decode cX5_difference 29 = .ok (.aload_n 0, 1) := by decide +kernel
theorem dX5_difference_30 : decode cX5_difference 30 = .ok (.getfield 7, 3) := by decide +kernel
theorem dX5_difference_33 : decode cX5_difference 33 = .ok (.bipush 32, 2) := by decide +kernel
theorem dX5_difference_35 : decode cX5_difference 35 = .ok (.iload_n 1, 1) := by decide +kernel
theorem dX5_difference_36 : decode cX5_difference 36 = .ok (.imul, 1) := by decide +kernel
theorem dX5_difference_37 : decode cX5_difference 37 = .ok (.iload 6, 2) := by decide +kernel
theorem dX5_difference_39 : decode cX5_difference 39 = .ok (.iadd, 1) := by decide +kernel
theorem dX5_difference_40 : decode cX5_difference 40 = .ok (.iaload, 1) := by decide +kernel
theorem dX5_difference_41 : decode cX5_difference 41 = .ok (.aload_n 0, 1) := by decide +kernel
theorem dX5_difference_42 : decode cX5_difference 42 = .ok (.getfield 7, 3) := by decide +kernel
theorem dX5_difference_45 : decode cX5_difference 45 = .ok (.bipush 32, 2) := by decide +kernel
theorem dX5_difference_47 : decode cX5_difference 47 = .ok (.iload_n 2, 1) := by decide +kernel
theorem dX5_difference_48 : decode cX5_difference 48 = .ok (.imul, 1) := by decide +kernel
theorem dX5_difference_49 : decode cX5_difference 49 = .ok (.iload 6, 2) := by decide +kernel
theorem dX5_difference_51 : decode cX5_difference 51 = .ok (.iadd, 1) := by decide +kernel
theorem dX5_difference_52 : decode cX5_difference 52 = .ok (.iaload, 1) := by decide +kernel
theorem dX5_difference_53 : decode cX5_difference 53 = .ok (.if_icmp .eq 15, 3) := by decide +kernel
theorem dX5_difference_56 : decode cX5_difference 56 = .ok (.iload 5, 2) := by decide +kernel
theorem dX5_difference_58 : decode cX5_difference 58 = .ok (.iload_n 3, 1) := by decide +kernel
theorem dX5_difference_59 : decode cX5_difference 59 = .ok (.if_icmp .ne 6, 3) := by decide +kernel
theorem dX5_difference_62 : decode cX5_difference 62 = .ok (.iload 6, 2) := by decide +kernel
theorem dX5_difference_64 : decode cX5_difference 64 = .ok (.ireturn, 1) := by decide +kernel
theorem dX5_difference_65 : decode cX5_difference 65 = .ok (.iinc 5 1, 3) := by decide +kernel
theorem dX5_difference_68 : decode cX5_difference 68 = .ok (.iinc 6 1, 3) := by decide +kernel
theorem dX5_difference_71 : decode cX5_difference 71 = .ok (.goto (-49), 3) := by decide +kernel
theorem dX5_difference_74 : decode cX5_difference 74 = .ok (.iconst (-1), 1) := by decide +kernel
theorem dX5_difference_75 : decode cX5_difference 75 = .ok (.ireturn, 1) := by decide +kernel
end
section
theorem dX5_rule_0 : decode cX5_rule 0 = .ok (.iload_n 1, 1) := by decide +kernel
theorem dX5_rule_1 : decode cX5_rule 1 = .ok (.iconst 0, 1) := by decide +kernel
theorem dX5_rule_2 : decode cX5_rule 2 = .ok (.bipush 100, 2) := by decide +kernel
theorem dX5_rule_4 : decode cX5_rule 4 = .ok (.invokestatic 72, 3) := by decide +kernel
theorem dX5_rule_7 : decode cX5_rule 7 = .ok (.ifCond .ne 6, 3) := by decide +kernel
theorem dX5_rule_10 : decode cX5_rule 10 = .ok (.bipush (-102), 2) := by decide +kernel
theorem dX5_rule_12 : decode cX5_rule 12 = .ok (.ireturn, 1) := by decide +kernel
theorem dX5_rule_13 : decode cX5_rule 13 = .ok (.aload_n 0, 1) := by decide +kernel
theorem dX5_rule_14 : decode cX5_rule 14 = .ok (.getfield 65, 3) := by decide +kernel
theorem dX5_rule_17 : decode cX5_rule 17 = .ok (.istore_n 2, 1) := by decide +kernel
theorem dX5_rule_18 : decode cX5_rule 18 = .ok (.aload_n 0, 1) := by decide +kernel
theorem dX5_rule_19 : decode cX5_rule 19 = .ok (.iload_n 1, 1) := by decide +kernel
theorem dX5_rule_20 : decode cX5_rule 20 = .ok (.putfield 65, 3) := by decide +kernel
theorem dX5_rule_23 : decode cX5_rule 23 = .ok (.iload_n 2, 1) := by decide +kernel
theorem dX5_rule_24 : decode cX5_rule 24 = .ok (.ireturn, 1) := by decide +kernel
theorem dX5_goes_0 : decode cX5_goes 0 = .ok (.aload_n 0, 1) := by decide +kernel
theorem dX5_goes_1 : decode cX5_goes 1 = .ok (.getfield 16, 3) := by decide +kernel
theorem dX5_goes_4 : decode cX5_goes 4 = .ok (.iload_n 1, 1) := by decide +kernel
theorem dX5_goes_5 : decode cX5_goes 5 = .ok (.iaload, 1) := by decide +kernel
theorem dX5_goes_6 : decode cX5_goes 6 = .ok (.ifCond .ne 23, 3) := by decide +kernel
theorem dX5_goes_9 : decode cX5_goes 9 = .ok (.aload_n 0, 1) := by decide +kernel
theorem dX5_goes_10 : decode cX5_goes 10 = .ok (.getfield 65, 3) := by decide +kernel
theorem dX5_goes_13 : decode cX5_goes 13 = .ok (.ifCond .eq 12, 3) := by decide +kernel
theorem dX5_goes_16 : decode cX5_goes 16 = .ok (.iload_n 1, 1) := by decide +kernel
theorem dX5_goes_17 : decode cX5_goes 17 = .ok (.aload_n 0, 1) := by decide +kernel
theorem dX5_goes_18 : decode cX5_goes 18 = .ok (.getfield 65, 3) := by decide +kernel
theorem dX5_goes_21 : decode cX5_goes 21 = .ok (.irem, 1) := by decide +kernel
theorem dX5_goes_22 : decode cX5_goes 22 = .ok (.ifCond .eq 7, 3) := by decide +kernel
theorem dX5_goes_25 : decode cX5_goes 25 = .ok (.iconst 1, 1) := by decide +kernel
theorem dX5_goes_26 : decode cX5_goes 26 = .ok (.goto 4, 3) := by decide +kernel
theorem dX5_goes_29 : decode cX5_goes 29 = .ok (.iconst 0, 1) := by decide +kernel
theorem dX5_goes_30 : decode cX5_goes 30 = .ok (.ireturn, 1) := by decide +kernel
theorem dX5_isNeeded_0 : decode cX5_isNeeded 0 = .ok (.aload_n 0, 1) := by decide +kernel
theorem dX5_isNeeded_1 : decode cX5_isNeeded 1 = .ok (.getfield 52, 3) := by decide +kernel
theorem dX5_isNeeded_4 : decode cX5_isNeeded 4 = .ok (.iconst 1, 1) := by decide +kernel
theorem dX5_isNeeded_5 : decode cX5_isNeeded 5 = .ok (.iadd, 1) := by decide +kernel
theorem dX5_isNeeded_6 : decode cX5_isNeeded 6 = .ok (.istore_n 2, 1) := by decide +kernel
theorem dX5_isNeeded_7 : decode cX5_isNeeded 7 = .ok (.iload_n 1, 1) := by decide +kernel
theorem dX5_isNeeded_8 : decode cX5_isNeeded 8 = .ok (.iconst 1, 1) := by decide +kernel
theorem dX5_isNeeded_9 : decode cX5_isNeeded 9 = .ok (.iadd, 1) := by decide +kernel
theorem dX5_isNeeded_10 : decode cX5_isNeeded 10 = .ok (.istore_n 3, 1) := by decide +kernel
theorem dX5_isNeeded_11 : decode cX5_isNeeded 11 = .ok (.iload_n 3, 1) := by decide +kernel
theorem dX5_isNeeded_12 : decode cX5_isNeeded 12 = .ok (.aload_n 0, 1) := by decide +kernel
theorem dX5_isNeeded_13 : decode cX5_isNeeded 13 = .ok (.getfield 59, 3) := by decide +kernel
theorem dX5_isNeeded_16 : decode cX5_isNeeded 16 = .ok (.if_icmp .ge 54, 3) := by decide +kernel
theorem dX5_isNeeded_19 : decode cX5_isNeeded 19 = .ok (.aload_n 0, 1) := by decide +kernel
theorem dX5_isNeeded_20 : decode cX5_isNeeded 20 = .ok (.getfield 40, 3) := by decide +kernel
theorem dX5_isNeeded_23 : decode cX5_isNeeded 23 = .ok (.iload_n 3, 1) := by decide +kernel
theorem dX5_isNeeded_24 : decode cX5_isNeeded 24 = .ok (.iaload, 1) := by decide +kernel
theorem dX5_isNeeded_25 : decode cX5_isNeeded 25 = .ok (.ifCond .ne 37, 3) := by decide +kernel
theorem dX5_isNeeded_28 : decode cX5_isNeeded 28 = .ok (.aload_n 0, 1) := by decide +kernel
theorem dX5_isNeeded_29 : decode cX5_isNeeded 29 = .ok (.getfield 28, 3) := by decide +kernel
theorem dX5_isNeeded_32 : decode cX5_isNeeded 32 = .ok (.iload_n 3, 1) := by decide +kernel
theorem dX5_isNeeded_33 : decode cX5_isNeeded 33 = .ok (.iaload, 1) := by decide +kernel
theorem dX5_isNeeded_34 : decode cX5_isNeeded 34 = .ok (.aload_n 0, 1) := by decide +kernel
theorem dX5_isNeeded_35 : decode cX5_isNeeded 35 = .ok (.getfield 28, 3) := by decide +kernel
theorem dX5_isNeeded_38 : decode cX5_isNeeded 38 = .ok (.iload_n 1, 1) := by decide +kernel
theorem dX5_isNeeded_39 : decode cX5_isNeeded 39 = .ok (.iaload, 1) := by decide +kernel
theorem dX5_isNeeded_40 : decode cX5_isNeeded 40 = .ok (.if_icmp .ne 22, 3) := by decide +kernel
theorem dX5_isNeeded_43 : decode cX5_isNeeded 43 = .ok (.aload_n 0, 1) := by decide +kernel
theorem dX5_isNeeded_44 : decode cX5_isNeeded 44 = .ok (.getfield 31, 3) := by decide +kernel
theorem dX5_isNeeded_47 : decode cX5_isNeeded 47 = .ok (.iload_n 3, 1) := by decide +kernel
theorem dX5_isNeeded_48 : decode cX5_isNeeded 48 = .ok (.iaload, 1) := by decide +kernel
theorem dX5_isNeeded_49 : decode cX5_isNeeded 49 = .ok (.iload_n 2, 1) := by decide +kernel
theorem dX5_isNeeded_50 : decode cX5_isNeeded 50 = .ok (.if_icmp .ge 12, 3) := by decide +kernel
theorem dX5_isNeeded_53 : decode cX5_isNeeded 53 = .ok (.aload_n 0, 1) := by decide +kernel
theorem dX5_isNeeded_54 : decode cX5_isNeeded 54 = .ok (.getfield 31, 3) := by decide +kernel
theorem dX5_isNeeded_57 : decode cX5_isNeeded 57 = .ok (.iload_n 3, 1) := by decide +kernel
theorem dX5_isNeeded_58 : decode cX5_isNeeded 58 = .ok (.iaload, 1) := by decide +kernel
theorem dX5_isNeeded_59 : decode cX5_isNeeded 59 = .ok (.goto 4, 3) := by decide +kernel
theorem dX5_isNeeded_62 : decode cX5_isNeeded 62 = .ok (.iload_n 2, 1) := by decide +kernel
theorem dX5_isNeeded_63 : decode cX5_isNeeded 63 = .ok (.istore_n 2, 1) := by decide +kernel
theorem dX5_isNeeded_64 : decode cX5_isNeeded 64 = .ok (.iinc 3 1, 3) := by decide +kernel
theorem dX5_isNeeded_67 : decode cX5_isNeeded 67 = .ok (.goto (-56), 3) := by decide +kernel
theorem dX5_isNeeded_70 : decode cX5_isNeeded 70 = .ok (.iconst 0, 1) := by decide +kernel
theorem dX5_isNeeded_71 : decode cX5_isNeeded 71 = .ok (.istore_n 3, 1) := by decide +kernel
theorem dX5_isNeeded_72 : decode cX5_isNeeded 72 = .ok (.aload_n 0, 1) := by decide +kernel
theorem dX5_isNeeded_73 : decode cX5_isNeeded 73 = .ok (.getfield 31, 3) := by decide +kernel
theorem dX5_isNeeded_76 : decode cX5_isNeeded 76 = .ok (.iload_n 1, 1) := by decide +kernel
theorem dX5_isNeeded_77 : decode cX5_isNeeded 77 = .ok (.iaload, 1) := by decide +kernel
theorem dX5_isNeeded_78 : decode cX5_isNeeded 78 = .ok (.istore 4, 2) := by decide +kernel
theorem dX5_isNeeded_80 : decode cX5_isNeeded 80 = .ok (.iload 4, 2) := by decide +kernel
theorem dX5_isNeeded_82 : decode cX5_isNeeded 82 = .ok (.iload_n 2, 1) := by decide +kernel
theorem dX5_isNeeded_83 : decode cX5_isNeeded 83 = .ok (.if_icmp .ge 29, 3) := by decide +kernel
theorem dX5_isNeeded_86 : decode cX5_isNeeded 86 = .ok (.iload_n 3, 1) := by decide +kernel
theorem dX5_isNeeded_87 : decode cX5_isNeeded 87 = .ok (.ifCond .ne 13, 3) := by decide +kernel
theorem dX5_isNeeded_90 : decode cX5_isNeeded 90 = .ok (.aload_n 0, 1) := by decide +kernel
theorem dX5_isNeeded_91 : decode cX5_isNeeded 91 = .ok (.getfield 16, 3) := by decide +kernel
theorem dX5_isNeeded_94 : decode cX5_isNeeded 94 = .ok (.iload 4, 2) := by decide +kernel
theorem dX5_isNeeded_96 : decode cX5_isNeeded 96 = .ok (.iaload, 1) := by decide +kernel
theorem dX5_isNeeded_97 : decode cX5_isNeeded 97 = .ok (.ifCond .ne 7, 3) := by decide +kernel
theorem dX5_isNeeded_100 : decode cX5_isNeeded 100 = .ok (.iconst 1, 1) := by decide +kernel
theorem dX5_isNeeded_101 : decode cX5_isNeeded 101 = .ok (.goto 4, 3) := by decide +kernel
theorem dX5_isNeeded_104 : decode cX5_isNeeded 104 = .ok (.iconst 0, 1) := by decide +kernel
theorem dX5_isNeeded_105 : decode cX5_isNeeded 105 = .ok (.istore_n 3, 1) := by decide +kernel
theorem dX5_isNeeded_106 : decode cX5_isNeeded 106 = .ok (.iinc 4 1, 3) := by decide +kernel
theorem dX5_isNeeded_109 : decode cX5_isNeeded 109 = .ok (.goto (-29), 3) := by decide +kernel
theorem dX5_isNeeded_112 : decode cX5_isNeeded 112 = .ok (.iload_n 3, 1) := by decide +kernel
theorem dX5_isNeeded_113 : decode cX5_isNeeded 113 = .ok (.ireturn, 1) := by decide +kernel
theorem dX5_prune_0 : decode cX5_prune 0 = .ok (.aload_n 0, 1) := by decide +kernel
theorem dX5_prune_1 : decode cX5_prune 1 = .ok (.iload_n 1, 1) := by decide +kernel
theorem dX5_prune_2 : decode cX5_prune 2 = .ok (.invokevirtual 94, 3) := by decide +kernel
theorem dX5_prune_5 : decode cX5_prune 5 = .ok (.ifCond .ne 6, 3) := by decide +kernel
theorem dX5_prune_8 : decode cX5_prune 8 = .ok (.bipush (-101), 2) := by decide +kernel
theorem dX5_prune_10 : decode cX5_prune 10 = .ok (.ireturn, 1) := by decide +kernel
theorem dX5_prune_11 : decode cX5_prune 11 = .ok (.iconst 0, 1) := by decide +kernel
theorem dX5_prune_12 : decode cX5_prune 12 = .ok (.istore_n 2, 1) := by decide +kernel
theorem dX5_prune_13 : decode cX5_prune 13 = .ok (.iconst 0, 1) := by decide +kernel
theorem dX5_prune_14 : decode cX5_prune 14 = .ok (.istore_n 3, 1) := by decide +kernel
theorem dX5_prune_15 : decode cX5_prune 15 = .ok (.iload_n 3, 1) := by decide +kernel
theorem dX5_prune_16 : decode cX5_prune 16 = .ok (.iload_n 1, 1) := by decide +kernel
theorem dX5_prune_17 : decode cX5_prune 17 = .ok (.if_icmp .ge 25, 3) := by decide +kernel
theorem dX5_prune_20 : decode cX5_prune 20 = .ok (.iload_n 2, 1) := by decide +kernel
theorem dX5_prune_21 : decode cX5_prune 21 = .ok (.aload_n 0, 1) := by decide +kernel
theorem dX5_prune_22 : decode cX5_prune 22 = .ok (.iload_n 3, 1) := by decide +kernel
theorem dX5_prune_23 : decode cX5_prune 23 = .ok (.invokevirtual 104, 3) := by decide +kernel
theorem dX5_prune_26 : decode cX5_prune 26 = .ok (.ifCond .eq 7, 3) := by decide +kernel
theorem dX5_prune_29 : decode cX5_prune 29 = .ok (.iconst 1, 1) := by decide +kernel
theorem dX5_prune_30 : decode cX5_prune 30 = .ok (.goto 4, 3) := by decide +kernel
theorem dX5_prune_33 : decode cX5_prune 33 = .ok (.iconst 0, 1) := by decide +kernel
theorem dX5_prune_34 : decode cX5_prune 34 = .ok (.iadd, 1) := by decide +kernel
theorem dX5_prune_35 : decode cX5_prune 35 = .ok (.istore_n 2, 1) := by decide +kernel
theorem dX5_prune_36 : decode cX5_prune 36 = .ok (.iinc 3 1, 3) := by decide +kernel
theorem dX5_prune_39 : decode cX5_prune 39 = .ok (.goto (-24), 3) := by decide +kernel
theorem dX5_prune_42 : decode cX5_prune 42 = .ok (.iload_n 2, 1) := by decide +kernel
theorem dX5_prune_43 : decode cX5_prune 43 = .ok (.ifCond .ne 5, 3) := by decide +kernel
theorem dX5_prune_46 : decode cX5_prune 46 = .ok (.iconst 0, 1) := by decide +kernel
theorem dX5_prune_47 : decode cX5_prune 47 = .ok (.ireturn, 1) := by decide +kernel
theorem dX5_prune_48 : decode cX5_prune 48 = .ok (.aload_n 0, 1) := by decide +kernel
theorem dX5_prune_49 : decode cX5_prune 49 = .ok (.getfield 62, 3) := by decide +kernel
theorem dX5_prune_52 : decode cX5_prune 52 = .ok (.bipush 8, 2) := by decide +kernel
theorem dX5_prune_54 : decode cX5_prune 54 = .ok (.if_icmp .ne 6, 3) := by decide +kernel
theorem dX5_prune_57 : decode cX5_prune 57 = .ok (.bipush (-105), 2) := by decide +kernel
theorem dX5_prune_59 : decode cX5_prune 59 = .ok (.ireturn, 1) := by decide +kernel
theorem dX5_prune_60 : decode cX5_prune 60 = .ok (.aload_n 0, 1) := by decide +kernel
theorem dX5_prune_61 : decode cX5_prune 61 = .ok (.dup, 1) := by decide +kernel
theorem dX5_prune_62 : decode cX5_prune 62 = .ok (.getfield 62, 3) := by decide +kernel
theorem dX5_prune_65 : decode cX5_prune 65 = .ok (.iconst 1, 1) := by decide +kernel
theorem dX5_prune_66 : decode cX5_prune 66 = .ok (.iadd, 1) := by decide +kernel
theorem dX5_prune_67 : decode cX5_prune 67 = .ok (.putfield 62, 3) := by decide +kernel
theorem dX5_prune_70 : decode cX5_prune 70 = .ok (.iconst 0, 1) := by decide +kernel
theorem dX5_prune_71 : decode cX5_prune 71 = .ok (.istore_n 3, 1) := by decide +kernel
theorem dX5_prune_72 : decode cX5_prune 72 = .ok (.iload_n 3, 1) := by decide +kernel
theorem dX5_prune_73 : decode cX5_prune 73 = .ok (.iload_n 1, 1) := by decide +kernel
theorem dX5_prune_74 : decode cX5_prune 74 = .ok (.if_icmp .ge 36, 3) := by decide +kernel
theorem dX5_prune_77 : decode cX5_prune 77 = .ok (.aload_n 0, 1) := by decide +kernel
theorem dX5_prune_78 : decode cX5_prune 78 = .ok (.getfield 16, 3) := by decide +kernel
theorem dX5_prune_81 : decode cX5_prune 81 = .ok (.iload_n 3, 1) := by decide +kernel
theorem dX5_prune_82 : decode cX5_prune 82 = .ok (.aload_n 0, 1) := by decide +kernel
theorem dX5_prune_83 : decode cX5_prune 83 = .ok (.iload_n 3, 1) := by decide +kernel
theorem dX5_prune_84 : decode cX5_prune 84 = .ok (.invokevirtual 104, 3) := by decide +kernel
theorem dX5_prune_87 : decode cX5_prune 87 = .ok (.ifCond .eq 10, 3) := by decide +kernel
theorem dX5_prune_90 : decode cX5_prune 90 = .ok (.aload_n 0, 1) := by decide +kernel
theorem dX5_prune_91 : decode cX5_prune 91 = .ok (.getfield 62, 3) := by decide +kernel
theorem dX5_prune_94 : decode cX5_prune 94 = .ok (.goto 9, 3) := by decide +kernel
theorem dX5_prune_97 : decode cX5_prune 97 = .ok (.aload_n 0, 1) := by decide +kernel
theorem dX5_prune_98 : decode cX5_prune 98 = .ok (.getfield 16, 3) := by decide +kernel
theorem dX5_prune_101 : decode cX5_prune 101 = .ok (.iload_n 3, 1) := by decide +kernel
theorem dX5_prune_102 : decode cX5_prune 102 = .ok (.iaload, 1) := by decide +kernel
theorem dX5_prune_103 : decode cX5_prune 103 = .ok (.iastore, 1) := by decide +kernel
theorem dX5_prune_104 : decode cX5_prune 104 = .ok (.iinc 3 1, 3) := by decide +kernel
theorem dX5_prune_107 : decode cX5_prune 107 = .ok (.goto (-35), 3) := by decide +kernel
theorem dX5_prune_110 : decode cX5_prune 110 = .ok (.iconst 0, 1) := by decide +kernel
theorem dX5_prune_111 : decode cX5_prune 111 = .ok (.istore_n 3, 1) := by decide +kernel
theorem dX5_prune_112 : decode cX5_prune 112 = .ok (.iload_n 3, 1) := by decide +kernel
theorem dX5_prune_113 : decode cX5_prune 113 = .ok (.aload_n 0, 1) := by decide +kernel
theorem dX5_prune_114 : decode cX5_prune 114 = .ok (.getfield 59, 3) := by decide +kernel
theorem dX5_prune_117 : decode cX5_prune 117 = .ok (.if_icmp .ge 36, 3) := by decide +kernel
theorem dX5_prune_120 : decode cX5_prune 120 = .ok (.aload_n 0, 1) := by decide +kernel
theorem dX5_prune_121 : decode cX5_prune 121 = .ok (.getfield 40, 3) := by decide +kernel
theorem dX5_prune_124 : decode cX5_prune 124 = .ok (.iload_n 3, 1) := by decide +kernel
theorem dX5_prune_125 : decode cX5_prune 125 = .ok (.iaload, 1) := by decide +kernel
theorem dX5_prune_126 : decode cX5_prune 126 = .ok (.ifCond .ne 21, 3) := by decide +kernel
theorem dX5_prune_129 : decode cX5_prune 129 = .ok (.aload_n 0, 1) := by decide +kernel
theorem dX5_prune_130 : decode cX5_prune 130 = .ok (.iload_n 3, 1) := by decide +kernel
theorem dX5_prune_131 : decode cX5_prune 131 = .ok (.invokevirtual 107, 3) := by decide +kernel
theorem dX5_prune_134 : decode cX5_prune 134 = .ok (.ifCond .ne 13, 3) := by decide +kernel
theorem dX5_prune_137 : decode cX5_prune 137 = .ok (.aload_n 0, 1) := by decide +kernel
theorem dX5_prune_138 : decode cX5_prune 138 = .ok (.getfield 40, 3) := by decide +kernel
theorem dX5_prune_141 : decode cX5_prune 141 = .ok (.iload_n 3, 1) := by decide +kernel
theorem dX5_prune_142 : decode cX5_prune 142 = .ok (.aload_n 0, 1) := by decide +kernel
theorem dX5_prune_143 : decode cX5_prune 143 = .ok (.getfield 62, 3) := by decide +kernel
theorem dX5_prune_146 : decode cX5_prune 146 = .ok (.iastore, 1) := by decide +kernel
theorem dX5_prune_147 : decode cX5_prune 147 = .ok (.iinc 3 1, 3) := by decide +kernel
theorem dX5_prune_150 : decode cX5_prune 150 = .ok (.goto (-38), 3) := by decide +kernel
theorem dX5_prune_153 : decode cX5_prune 153 = .ok (.iload_n 2, 1) := by decide +kernel
theorem dX5_prune_154 : decode cX5_prune 154 = .ok (.ireturn, 1) := by decide +kernel
theorem dX5_pruned_0 : decode cX5_pruned 0 = .ok (.aload_n 0, 1) := by decide +kernel
theorem dX5_pruned_1 : decode cX5_pruned 1 = .ok (.iload_n 1, 1) := by decide +kernel
theorem dX5_pruned_2 : decode cX5_pruned 2 = .ok (.invokevirtual 94, 3) := by decide +kernel
theorem dX5_pruned_5 : decode cX5_pruned 5 = .ok (.ifCond .ne 8, 3) := by decide +kernel
theorem dX5_pruned_8 : decode cX5_pruned 8 = .ok (.bipush (-101), 2) := by decide +kernel
theorem dX5_pruned_10 : decode cX5_pruned 10 = .ok (.goto 17, 3) := by decide +kernel
theorem dX5_pruned_13 : decode cX5_pruned 13 = .ok (.aload_n 0, 1) := by decide +kernel
theorem dX5_pruned_14 : decode cX5_pruned 14 = .ok (.getfield 16, 3) := by decide +kernel
theorem dX5_pruned_17 : decode cX5_pruned 17 = .ok (.iload_n 1, 1) := by decide +kernel
theorem dX5_pruned_18 : decode cX5_pruned 18 = .ok (.iaload, 1) := by decide +kernel
theorem dX5_pruned_19 : decode cX5_pruned 19 = .ok (.ifCond .le 7, 3) := by decide +kernel
theorem dX5_pruned_22 : decode cX5_pruned 22 = .ok (.iconst 1, 1) := by decide +kernel
theorem dX5_pruned_23 : decode cX5_pruned 23 = .ok (.goto 4, 3) := by decide +kernel
theorem dX5_pruned_26 : decode cX5_pruned 26 = .ok (.iconst 0, 1) := by decide +kernel
theorem dX5_pruned_27 : decode cX5_pruned 27 = .ok (.ireturn, 1) := by decide +kernel
theorem dX5_rowsIn_0 : decode cX5_rowsIn 0 = .ok (.iconst 0, 1) := by decide +kernel
theorem dX5_rowsIn_1 : decode cX5_rowsIn 1 = .ok (.istore_n 2, 1) := by decide +kernel
theorem dX5_rowsIn_2 : decode cX5_rowsIn 2 = .ok (.iconst 0, 1) := by decide +kernel
theorem dX5_rowsIn_3 : decode cX5_rowsIn 3 = .ok (.istore_n 3, 1) := by decide +kernel
theorem dX5_rowsIn_4 : decode cX5_rowsIn 4 = .ok (.iload_n 3, 1) := by decide +kernel
theorem dX5_rowsIn_5 : decode cX5_rowsIn 5 = .ok (.aload_n 0, 1) := by decide +kernel
theorem dX5_rowsIn_6 : decode cX5_rowsIn 6 = .ok (.getfield 59, 3) := by decide +kernel
theorem dX5_rowsIn_9 : decode cX5_rowsIn 9 = .ok (.if_icmp .ge 27, 3) := by decide +kernel
theorem dX5_rowsIn_12 : decode cX5_rowsIn 12 = .ok (.iload_n 2, 1) := by decide +kernel
theorem dX5_rowsIn_13 : decode cX5_rowsIn 13 = .ok (.aload_n 0, 1) := by decide +kernel
theorem dX5_rowsIn_14 : decode cX5_rowsIn 14 = .ok (.getfield 40, 3) := by decide +kernel
theorem dX5_rowsIn_17 : decode cX5_rowsIn 17 = .ok (.iload_n 3, 1) := by decide +kernel
theorem dX5_rowsIn_18 : decode cX5_rowsIn 18 = .ok (.iaload, 1) := by decide +kernel
theorem dX5_rowsIn_19 : decode cX5_rowsIn 19 = .ok (.iload_n 1, 1) := by decide +kernel
theorem dX5_rowsIn_20 : decode cX5_rowsIn 20 = .ok (.if_icmp .ne 7, 3) := by decide +kernel
theorem dX5_rowsIn_23 : decode cX5_rowsIn 23 = .ok (.iconst 1, 1) := by decide +kernel
theorem dX5_rowsIn_24 : decode cX5_rowsIn 24 = .ok (.goto 4, 3) := by decide +kernel
theorem dX5_rowsIn_27 : decode cX5_rowsIn 27 = .ok (.iconst 0, 1) := by decide +kernel
theorem dX5_rowsIn_28 : decode cX5_rowsIn 28 = .ok (.iadd, 1) := by decide +kernel
theorem dX5_rowsIn_29 : decode cX5_rowsIn 29 = .ok (.istore_n 2, 1) := by decide +kernel
theorem dX5_rowsIn_30 : decode cX5_rowsIn 30 = .ok (.iinc 3 1, 3) := by decide +kernel
theorem dX5_rowsIn_33 : decode cX5_rowsIn 33 = .ok (.goto (-29), 3) := by decide +kernel
theorem dX5_rowsIn_36 : decode cX5_rowsIn 36 = .ok (.iload_n 2, 1) := by decide +kernel
theorem dX5_rowsIn_37 : decode cX5_rowsIn 37 = .ok (.ireturn, 1) := by decide +kernel
theorem dX5_heightsBy_0 : decode cX5_heightsBy 0 = .ok (.iconst 0, 1) := by decide +kernel
theorem dX5_heightsBy_1 : decode cX5_heightsBy 1 = .ok (.istore_n 2, 1) := by decide +kernel
theorem dX5_heightsBy_2 : decode cX5_heightsBy 2 = .ok (.iconst 0, 1) := by decide +kernel
theorem dX5_heightsBy_3 : decode cX5_heightsBy 3 = .ok (.istore_n 3, 1) := by decide +kernel
theorem dX5_heightsBy_4 : decode cX5_heightsBy 4 = .ok (.iload_n 3, 1) := by decide +kernel
theorem dX5_heightsBy_5 : decode cX5_heightsBy 5 = .ok (.aload_n 0, 1) := by decide +kernel
theorem dX5_heightsBy_6 : decode cX5_heightsBy 6 = .ok (.getfield 52, 3) := by decide +kernel
theorem dX5_heightsBy_9 : decode cX5_heightsBy 9 = .ok (.if_icmp .gt 27, 3) := by decide +kernel
theorem dX5_heightsBy_12 : decode cX5_heightsBy 12 = .ok (.iload_n 2, 1) := by decide +kernel
theorem dX5_heightsBy_13 : decode cX5_heightsBy 13 = .ok (.aload_n 0, 1) := by decide +kernel
theorem dX5_heightsBy_14 : decode cX5_heightsBy 14 = .ok (.getfield 16, 3) := by decide +kernel
theorem dX5_heightsBy_17 : decode cX5_heightsBy 17 = .ok (.iload_n 3, 1) := by decide +kernel
theorem dX5_heightsBy_18 : decode cX5_heightsBy 18 = .ok (.iaload, 1) := by decide +kernel
theorem dX5_heightsBy_19 : decode cX5_heightsBy 19 = .ok (.iload_n 1, 1) := by decide +kernel
theorem dX5_heightsBy_20 : decode cX5_heightsBy 20 = .ok (.if_icmp .ne 7, 3) := by decide +kernel
theorem dX5_heightsBy_23 : decode cX5_heightsBy 23 = .ok (.iconst 1, 1) := by decide +kernel
theorem dX5_heightsBy_24 : decode cX5_heightsBy 24 = .ok (.goto 4, 3) := by decide +kernel
theorem dX5_heightsBy_27 : decode cX5_heightsBy 27 = .ok (.iconst 0, 1) := by decide +kernel
theorem dX5_heightsBy_28 : decode cX5_heightsBy 28 = .ok (.iadd, 1) := by decide +kernel
theorem dX5_heightsBy_29 : decode cX5_heightsBy 29 = .ok (.istore_n 2, 1) := by decide +kernel
theorem dX5_heightsBy_30 : decode cX5_heightsBy 30 = .ok (.iinc 3 1, 3) := by decide +kernel
theorem dX5_heightsBy_33 : decode cX5_heightsBy 33 = .ok (.goto (-29), 3) := by decide +kernel
theorem dX5_heightsBy_36 : decode cX5_heightsBy 36 = .ok (.iload_n 2, 1) := by decide +kernel
theorem dX5_heightsBy_37 : decode cX5_heightsBy 37 = .ok (.ireturn, 1) := by decide +kernel
theorem dX5_bring_0 : decode cX5_bring 0 = .ok (.aload_n 0, 1) := by decide +kernel
theorem dX5_bring_1 : decode cX5_bring 1 = .ok (.getfield 62, 3) := by decide +kernel
theorem dX5_bring_4 : decode cX5_bring 4 = .ok (.ifCond .ne 6, 3) := by decide +kernel
theorem dX5_bring_7 : decode cX5_bring 7 = .ok (.bipush (-103), 2) := by decide +kernel
theorem dX5_bring_9 : decode cX5_bring 9 = .ok (.ireturn, 1) := by decide +kernel
theorem dX5_bring_10 : decode cX5_bring 10 = .ok (.iconst 0, 1) := by decide +kernel
theorem dX5_bring_11 : decode cX5_bring 11 = .ok (.istore_n 1, 1) := by decide +kernel
theorem dX5_bring_12 : decode cX5_bring 12 = .ok (.iconst 0, 1) := by decide +kernel
theorem dX5_bring_13 : decode cX5_bring 13 = .ok (.istore_n 2, 1) := by decide +kernel
theorem dX5_bring_14 : decode cX5_bring 14 = .ok (.iload_n 2, 1) := by decide +kernel
theorem dX5_bring_15 : decode cX5_bring 15 = .ok (.aload_n 0, 1) := by decide +kernel
theorem dX5_bring_16 : decode cX5_bring 16 = .ok (.getfield 59, 3) := by decide +kernel
theorem dX5_bring_19 : decode cX5_bring 19 = .ok (.if_icmp .ge 32, 3) := by decide +kernel
theorem dX5_bring_22 : decode cX5_bring 22 = .ok (.aload_n 0, 1) := by decide +kernel
theorem dX5_bring_23 : decode cX5_bring 23 = .ok (.getfield 40, 3) := by decide +kernel
theorem dX5_bring_26 : decode cX5_bring 26 = .ok (.iload_n 2, 1) := by decide +kernel
theorem dX5_bring_27 : decode cX5_bring 27 = .ok (.iaload, 1) := by decide +kernel
theorem dX5_bring_28 : decode cX5_bring 28 = .ok (.aload_n 0, 1) := by decide +kernel
theorem dX5_bring_29 : decode cX5_bring 29 = .ok (.getfield 62, 3) := by decide +kernel
theorem dX5_bring_32 : decode cX5_bring 32 = .ok (.if_icmp .ne 13, 3) := by decide +kernel
theorem dX5_bring_35 : decode cX5_bring 35 = .ok (.aload_n 0, 1) := by decide +kernel
theorem dX5_bring_36 : decode cX5_bring 36 = .ok (.getfield 40, 3) := by decide +kernel
theorem dX5_bring_39 : decode cX5_bring 39 = .ok (.iload_n 2, 1) := by decide +kernel
theorem dX5_bring_40 : decode cX5_bring 40 = .ok (.iconst 0, 1) := by decide +kernel
theorem dX5_bring_41 : decode cX5_bring 41 = .ok (.iastore, 1) := by decide +kernel
theorem dX5_bring_42 : decode cX5_bring 42 = .ok (.iinc 1 1, 3) := by decide +kernel
theorem dX5_bring_45 : decode cX5_bring 45 = .ok (.iinc 2 1, 3) := by decide +kernel
theorem dX5_bring_48 : decode cX5_bring 48 = .ok (.goto (-34), 3) := by decide +kernel
theorem dX5_bring_51 : decode cX5_bring 51 = .ok (.iconst 0, 1) := by decide +kernel
theorem dX5_bring_52 : decode cX5_bring 52 = .ok (.istore_n 2, 1) := by decide +kernel
theorem dX5_bring_53 : decode cX5_bring 53 = .ok (.iload_n 2, 1) := by decide +kernel
theorem dX5_bring_54 : decode cX5_bring 54 = .ok (.aload_n 0, 1) := by decide +kernel
theorem dX5_bring_55 : decode cX5_bring 55 = .ok (.getfield 52, 3) := by decide +kernel
theorem dX5_bring_58 : decode cX5_bring 58 = .ok (.if_icmp .gt 38, 3) := by decide +kernel
theorem dX5_bring_61 : decode cX5_bring 61 = .ok (.aload_n 0, 1) := by decide +kernel
theorem dX5_bring_62 : decode cX5_bring 62 = .ok (.getfield 16, 3) := by decide +kernel
theorem dX5_bring_65 : decode cX5_bring 65 = .ok (.iload_n 2, 1) := by decide +kernel
theorem dX5_bring_66 : decode cX5_bring 66 = .ok (.aload_n 0, 1) := by decide +kernel
theorem dX5_bring_67 : decode cX5_bring 67 = .ok (.getfield 16, 3) := by decide +kernel
theorem dX5_bring_70 : decode cX5_bring 70 = .ok (.iload_n 2, 1) := by decide +kernel
theorem dX5_bring_71 : decode cX5_bring 71 = .ok (.iaload, 1) := by decide +kernel
theorem dX5_bring_72 : decode cX5_bring 72 = .ok (.aload_n 0, 1) := by decide +kernel
theorem dX5_bring_73 : decode cX5_bring 73 = .ok (.getfield 62, 3) := by decide +kernel
theorem dX5_bring_76 : decode cX5_bring 76 = .ok (.if_icmp .ne 7, 3) := by decide +kernel
theorem dX5_bring_79 : decode cX5_bring 79 = .ok (.iconst 0, 1) := by decide +kernel
theorem dX5_bring_80 : decode cX5_bring 80 = .ok (.goto 9, 3) := by decide +kernel
theorem dX5_bring_83 : decode cX5_bring 83 = .ok (.aload_n 0, 1) := by decide +kernel
theorem dX5_bring_84 : decode cX5_bring 84 = .ok (.getfield 16, 3) := by decide +kernel
theorem dX5_bring_87 : decode cX5_bring 87 = .ok (.iload_n 2, 1) := by decide +kernel
theorem dX5_bring_88 : decode cX5_bring 88 = .ok (.iaload, 1) := by decide +kernel
theorem dX5_bring_89 : decode cX5_bring 89 = .ok (.iastore, 1) := by decide +kernel
theorem dX5_bring_90 : decode cX5_bring 90 = .ok (.iinc 2 1, 3) := by decide +kernel
theorem dX5_bring_93 : decode cX5_bring 93 = .ok (.goto (-40), 3) := by decide +kernel
theorem dX5_bring_96 : decode cX5_bring 96 = .ok (.aload_n 0, 1) := by decide +kernel
theorem dX5_bring_97 : decode cX5_bring 97 = .ok (.dup, 1) := by decide +kernel
theorem dX5_bring_98 : decode cX5_bring 98 = .ok (.getfield 62, 3) := by decide +kernel
theorem dX5_bring_101 : decode cX5_bring 101 = .ok (.iconst 1, 1) := by decide +kernel
theorem dX5_bring_102 : decode cX5_bring 102 = .ok (.isub, 1) := by decide +kernel
theorem dX5_bring_103 : decode cX5_bring 103 = .ok (.putfield 62, 3) := by decide +kernel
theorem dX5_bring_106 : decode cX5_bring 106 = .ok (.iload_n 1, 1) := by decide +kernel
theorem dX5_bring_107 : decode cX5_bring 107 = .ok (.ireturn, 1) := by decide +kernel
theorem dX5_squeeze_0 : decode cX5_squeeze 0 = .ok (.iconst 0, 1) := by decide +kernel
theorem dX5_squeeze_1 : decode cX5_squeeze 1 = .ok (.istore_n 2, 1) := by decide +kernel
theorem dX5_squeeze_2 : decode cX5_squeeze 2 = .ok (.iconst 0, 1) := by decide +kernel
theorem dX5_squeeze_3 : decode cX5_squeeze 3 = .ok (.istore_n 3, 1) := by decide +kernel
theorem dX5_squeeze_4 : decode cX5_squeeze 4 = .ok (.iload_n 3, 1) := by decide +kernel
theorem dX5_squeeze_5 : decode cX5_squeeze 5 = .ok (.aload_n 0, 1) := by decide +kernel
theorem dX5_squeeze_6 : decode cX5_squeeze 6 = .ok (.getfield 59, 3) := by decide +kernel
theorem dX5_squeeze_9 : decode cX5_squeeze 9 = .ok (.if_icmp .ge 86, 3) := by decide +kernel
theorem dX5_squeeze_12 : decode cX5_squeeze 12 = .ok (.aload_n 0, 1) := by decide +kernel
theorem dX5_squeeze_13 : decode cX5_squeeze 13 = .ok (.getfield 40, 3) := by decide +kernel
theorem dX5_squeeze_16 : decode cX5_squeeze 16 = .ok (.iload_n 3, 1) := by decide +kernel
theorem dX5_squeeze_17 : decode cX5_squeeze 17 = .ok (.iaload, 1) := by decide +kernel
theorem dX5_squeeze_18 : decode cX5_squeeze 18 = .ok (.ifCond .ne 71, 3) := by decide +kernel
theorem dX5_squeeze_21 : decode cX5_squeeze 21 = .ok (.aload_n 0, 1) := by decide +kernel
theorem dX5_squeeze_22 : decode cX5_squeeze 22 = .ok (.getfield 31, 3) := by decide +kernel
theorem dX5_squeeze_25 : decode cX5_squeeze 25 = .ok (.iload_n 3, 1) := by decide +kernel
theorem dX5_squeeze_26 : decode cX5_squeeze 26 = .ok (.iaload, 1) := by decide +kernel
theorem dX5_squeeze_27 : decode cX5_squeeze 27 = .ok (.iload_n 1, 1) := by decide +kernel
theorem dX5_squeeze_28 : decode cX5_squeeze 28 = .ok (.if_icmp .gt 61, 3) := by decide +kernel
theorem dX5_squeeze_31 : decode cX5_squeeze 31 = .ok (.aload_n 0, 1) := by decide +kernel
theorem dX5_squeeze_32 : decode cX5_squeeze 32 = .ok (.getfield 28, 3) := by decide +kernel
theorem dX5_squeeze_35 : decode cX5_squeeze 35 = .ok (.iload_n 2, 1) := by decide +kernel
theorem dX5_squeeze_36 : decode cX5_squeeze 36 = .ok (.aload_n 0, 1) := by decide +kernel
theorem dX5_squeeze_37 : decode cX5_squeeze 37 = .ok (.getfield 28, 3) := by decide +kernel
theorem dX5_squeeze_40 : decode cX5_squeeze 40 = .ok (.iload_n 3, 1) := by decide +kernel
theorem dX5_squeeze_41 : decode cX5_squeeze 41 = .ok (.iaload, 1) := by decide +kernel
theorem dX5_squeeze_42 : decode cX5_squeeze 42 = .ok (.iastore, 1) := by decide +kernel
theorem dX5_squeeze_43 : decode cX5_squeeze 43 = .ok (.aload_n 0, 1) := by decide +kernel
theorem dX5_squeeze_44 : decode cX5_squeeze 44 = .ok (.getfield 31, 3) := by decide +kernel
theorem dX5_squeeze_47 : decode cX5_squeeze 47 = .ok (.iload_n 2, 1) := by decide +kernel
theorem dX5_squeeze_48 : decode cX5_squeeze 48 = .ok (.aload_n 0, 1) := by decide +kernel
theorem dX5_squeeze_49 : decode cX5_squeeze 49 = .ok (.getfield 31, 3) := by decide +kernel
theorem dX5_squeeze_52 : decode cX5_squeeze 52 = .ok (.iload_n 3, 1) := by decide +kernel
theorem dX5_squeeze_53 : decode cX5_squeeze 53 = .ok (.iaload, 1) := by decide +kernel
theorem dX5_squeeze_54 : decode cX5_squeeze 54 = .ok (.iastore, 1) := by decide +kernel
theorem dX5_squeeze_55 : decode cX5_squeeze 55 = .ok (.aload_n 0, 1) := by decide +kernel
theorem dX5_squeeze_56 : decode cX5_squeeze 56 = .ok (.getfield 34, 3) := by decide +kernel
theorem dX5_squeeze_59 : decode cX5_squeeze 59 = .ok (.iload_n 2, 1) := by decide +kernel
theorem dX5_squeeze_60 : decode cX5_squeeze 60 = .ok (.aload_n 0, 1) := by decide +kernel
theorem dX5_squeeze_61 : decode cX5_squeeze 61 = .ok (.getfield 34, 3) := by decide +kernel
theorem dX5_squeeze_64 : decode cX5_squeeze 64 = .ok (.iload_n 3, 1) := by decide +kernel
theorem dX5_squeeze_65 : decode cX5_squeeze 65 = .ok (.iaload, 1) := by decide +kernel
theorem dX5_squeeze_66 : decode cX5_squeeze 66 = .ok (.iastore, 1) := by decide +kernel
theorem dX5_squeeze_67 : decode cX5_squeeze 67 = .ok (.aload_n 0, 1) := by decide +kernel
theorem dX5_squeeze_68 : decode cX5_squeeze 68 = .ok (.getfield 37, 3) := by decide +kernel
theorem dX5_squeeze_71 : decode cX5_squeeze 71 = .ok (.iload_n 2, 1) := by decide +kernel
theorem dX5_squeeze_72 : decode cX5_squeeze 72 = .ok (.aload_n 0, 1) := by decide +kernel
theorem dX5_squeeze_73 : decode cX5_squeeze 73 = .ok (.getfield 37, 3) := by decide +kernel
theorem dX5_squeeze_76 : decode cX5_squeeze 76 = .ok (.iload_n 3, 1) := by decide +kernel
theorem dX5_squeeze_77 : decode cX5_squeeze 77 = .ok (.iaload, 1) := by decide +kernel
theorem dX5_squeeze_78 : decode cX5_squeeze 78 = .ok (.iastore, 1) := by decide +kernel
theorem dX5_squeeze_79 : decode cX5_squeeze 79 = .ok (.aload_n 0, 1) := by decide +kernel
theorem dX5_squeeze_80 : decode cX5_squeeze 80 = .ok (.getfield 40, 3) := by decide +kernel
theorem dX5_squeeze_83 : decode cX5_squeeze 83 = .ok (.iload_n 2, 1) := by decide +kernel
theorem dX5_squeeze_84 : decode cX5_squeeze 84 = .ok (.iconst 0, 1) := by decide +kernel
theorem dX5_squeeze_85 : decode cX5_squeeze 85 = .ok (.iastore, 1) := by decide +kernel
theorem dX5_squeeze_86 : decode cX5_squeeze 86 = .ok (.iinc 2 1, 3) := by decide +kernel
theorem dX5_squeeze_89 : decode cX5_squeeze 89 = .ok (.iinc 3 1, 3) := by decide +kernel
theorem dX5_squeeze_92 : decode cX5_squeeze 92 = .ok (.goto (-88), 3) := by decide +kernel
theorem dX5_squeeze_95 : decode cX5_squeeze 95 = .ok (.aload_n 0, 1) := by decide +kernel
theorem dX5_squeeze_96 : decode cX5_squeeze 96 = .ok (.getfield 59, 3) := by decide +kernel
theorem dX5_squeeze_99 : decode cX5_squeeze 99 = .ok (.iload_n 2, 1) := by decide +kernel
theorem dX5_squeeze_100 : decode cX5_squeeze 100 = .ok (.isub, 1) := by decide +kernel
theorem dX5_squeeze_101 : decode cX5_squeeze 101 = .ok (.istore_n 3, 1) := by decide +kernel
theorem dX5_squeeze_102 : decode cX5_squeeze 102 = .ok (.aload_n 0, 1) := by decide +kernel
theorem dX5_squeeze_103 : decode cX5_squeeze 103 = .ok (.iload_n 2, 1) := by decide +kernel
theorem dX5_squeeze_104 : decode cX5_squeeze 104 = .ok (.putfield 59, 3) := by decide +kernel
theorem dX5_squeeze_107 : decode cX5_squeeze 107 = .ok (.iload_n 3, 1) := by decide +kernel
theorem dX5_squeeze_108 : decode cX5_squeeze 108 = .ok (.ireturn, 1) := by decide +kernel
theorem dX5_forget_0 : decode cX5_forget 0 = .ok (.iconst 0, 1) := by decide +kernel
theorem dX5_forget_1 : decode cX5_forget 1 = .ok (.istore_n 1, 1) := by decide +kernel
theorem dX5_forget_2 : decode cX5_forget 2 = .ok (.iload_n 1, 1) := by decide +kernel
theorem dX5_forget_3 : decode cX5_forget 3 = .ok (.aload_n 0, 1) := by decide +kernel
theorem dX5_forget_4 : decode cX5_forget 4 = .ok (.getfield 52, 3) := by decide +kernel
theorem dX5_forget_7 : decode cX5_forget 7 = .ok (.if_icmp .gt 30, 3) := by decide +kernel
theorem dX5_forget_10 : decode cX5_forget 10 = .ok (.aload_n 0, 1) := by decide +kernel
theorem dX5_forget_11 : decode cX5_forget 11 = .ok (.getfield 16, 3) := by decide +kernel
theorem dX5_forget_14 : decode cX5_forget 14 = .ok (.iload_n 1, 1) := by decide +kernel
theorem dX5_forget_15 : decode cX5_forget 15 = .ok (.aload_n 0, 1) := by decide +kernel
theorem dX5_forget_16 : decode cX5_forget 16 = .ok (.getfield 16, 3) := by decide +kernel
theorem dX5_forget_19 : decode cX5_forget 19 = .ok (.iload_n 1, 1) := by decide +kernel
theorem dX5_forget_20 : decode cX5_forget 20 = .ok (.iaload, 1) := by decide +kernel
theorem dX5_forget_21 : decode cX5_forget 21 = .ok (.ifCond .le 8, 3) := by decide +kernel
theorem dX5_forget_24 : decode cX5_forget 24 = .ok (.bipush 9, 2) := by decide +kernel
theorem dX5_forget_26 : decode cX5_forget 26 = .ok (.goto 4, 3) := by decide +kernel
theorem dX5_forget_29 : decode cX5_forget 29 = .ok (.iconst 0, 1) := by decide +kernel
theorem dX5_forget_30 : decode cX5_forget 30 = .ok (.iastore, 1) := by decide +kernel
theorem dX5_forget_31 : decode cX5_forget 31 = .ok (.iinc 1 1, 3) := by decide +kernel
theorem dX5_forget_34 : decode cX5_forget 34 = .ok (.goto (-32), 3) := by decide +kernel
theorem dX5_forget_37 : decode cX5_forget 37 = .ok (.aload_n 0, 1) := by decide +kernel
theorem dX5_forget_38 : decode cX5_forget 38 = .ok (.iconst 0, 1) := by decide +kernel
theorem dX5_forget_39 : decode cX5_forget 39 = .ok (.putfield 62, 3) := by decide +kernel
theorem dX5_forget_42 : decode cX5_forget 42 = .ok (.aload_n 0, 1) := by decide +kernel
theorem dX5_forget_43 : decode cX5_forget 43 = .ok (.aload_n 0, 1) := by decide +kernel
theorem dX5_forget_44 : decode cX5_forget 44 = .ok (.getfield 52, 3) := by decide +kernel
theorem dX5_forget_47 : decode cX5_forget 47 = .ok (.invokevirtual 110, 3) := by decide +kernel
theorem dX5_forget_50 : decode cX5_forget 50 = .ok (.ireturn, 1) := by decide +kernel
theorem dX5_archive_0 : decode cX5_archive 0 = .ok (.iload_n 1, 1) := by decide +kernel
theorem dX5_archive_1 : decode cX5_archive 1 = .ok (.iconst 0, 1) := by decide +kernel
theorem dX5_archive_2 : decode cX5_archive 2 = .ok (.aload_n 0, 1) := by decide +kernel
theorem dX5_archive_3 : decode cX5_archive 3 = .ok (.getfield 62, 3) := by decide +kernel
theorem dX5_archive_6 : decode cX5_archive 6 = .ok (.iconst 1, 1) := by decide +kernel
theorem dX5_archive_7 : decode cX5_archive 7 = .ok (.isub, 1) := by decide +kernel
theorem dX5_archive_8 : decode cX5_archive 8 = .ok (.invokestatic 72, 3) := by decide +kernel
theorem dX5_archive_11 : decode cX5_archive 11 = .ok (.ifCond .ne 6, 3) := by decide +kernel
theorem dX5_archive_14 : decode cX5_archive 14 = .ok (.bipush (-101), 2) := by decide +kernel
theorem dX5_archive_16 : decode cX5_archive 16 = .ok (.ireturn, 1) := by decide +kernel
theorem dX5_archive_17 : decode cX5_archive 17 = .ok (.iload_n 2, 1) := by decide +kernel
theorem dX5_archive_18 : decode cX5_archive 18 = .ok (.ifCond .ne 13, 3) := by decide +kernel
theorem dX5_archive_21 : decode cX5_archive 21 = .ok (.aload_n 0, 1) := by decide +kernel
theorem dX5_archive_22 : decode cX5_archive 22 = .ok (.iconst 1, 1) := by decide +kernel
theorem dX5_archive_23 : decode cX5_archive 23 = .ok (.iload_n 1, 1) := by decide +kernel
theorem dX5_archive_24 : decode cX5_archive 24 = .ok (.iadd, 1) := by decide +kernel
theorem dX5_archive_25 : decode cX5_archive 25 = .ok (.invokevirtual 113, 3) := by decide +kernel
theorem dX5_archive_28 : decode cX5_archive 28 = .ok (.goto 20, 3) := by decide +kernel
theorem dX5_archive_31 : decode cX5_archive 31 = .ok (.iload_n 2, 1) := by decide +kernel
theorem dX5_archive_32 : decode cX5_archive 32 = .ok (.iconst 1, 1) := by decide +kernel
theorem dX5_archive_33 : decode cX5_archive 33 = .ok (.if_icmp .ne 13, 3) := by decide +kernel
theorem dX5_archive_36 : decode cX5_archive 36 = .ok (.aload_n 0, 1) := by decide +kernel
theorem dX5_archive_37 : decode cX5_archive 37 = .ok (.iconst 1, 1) := by decide +kernel
theorem dX5_archive_38 : decode cX5_archive 38 = .ok (.iload_n 1, 1) := by decide +kernel
theorem dX5_archive_39 : decode cX5_archive 39 = .ok (.iadd, 1) := by decide +kernel
theorem dX5_archive_40 : decode cX5_archive 40 = .ok (.invokevirtual 116, 3) := by decide +kernel
theorem dX5_archive_43 : decode cX5_archive 43 = .ok (.goto 5, 3) := by decide +kernel
theorem dX5_archive_46 : decode cX5_archive 46 = .ok (.bipush (-102), 2) := by decide +kernel
theorem dX5_archive_48 : decode cX5_archive 48 = .ok (.ireturn, 1) := by decide +kernel
theorem dX5_barsReplay_0 : decode cX5_barsReplay 0 = .ok (.aload_n 0, 1) := by decide +kernel
theorem dX5_barsReplay_1 : decode cX5_barsReplay 1 = .ok (.iload_n 1, 1) := by decide +kernel
theorem dX5_barsReplay_2 : decode cX5_barsReplay 2 = .ok (.invokevirtual 94, 3) := by decide +kernel
theorem dX5_barsReplay_5 : decode cX5_barsReplay 5 = .ok (.ifCond .eq 11, 3) := by decide +kernel
theorem dX5_barsReplay_8 : decode cX5_barsReplay 8 = .ok (.aload_n 0, 1) := by decide +kernel
theorem dX5_barsReplay_9 : decode cX5_barsReplay 9 = .ok (.iload_n 2, 1) := by decide +kernel
theorem dX5_barsReplay_10 : decode cX5_barsReplay 10 = .ok (.invokevirtual 94, 3) := by decide +kernel
theorem dX5_barsReplay_13 : decode cX5_barsReplay 13 = .ok (.ifCond .ne 6, 3) := by decide +kernel
theorem dX5_barsReplay_16 : decode cX5_barsReplay 16 = .ok (.bipush (-101), 2) := by decide +kernel
theorem dX5_barsReplay_18 : decode cX5_barsReplay 18 = .ok (.ireturn, 1) := by decide +kernel
theorem dX5_barsReplay_19 : decode cX5_barsReplay 19 = .ok (.iload_n 2, 1) := by decide +kernel
theorem dX5_barsReplay_20 : decode cX5_barsReplay 20 = .ok (.iload_n 1, 1) := by decide +kernel
theorem dX5_barsReplay_21 : decode cX5_barsReplay 21 = .ok (.if_icmp .ge 8, 3) := by decide +kernel
theorem dX5_barsReplay_24 : decode cX5_barsReplay 24 = .ok (.bipush (-102), 2) := by decide +kernel
theorem dX5_barsReplay_26 : decode cX5_barsReplay 26 = .ok (.goto 9, 3) := by decide +kernel
theorem dX5_barsReplay_29 : decode cX5_barsReplay 29 = .ok (.aload_n 0, 1) := by decide +kernel
theorem dX5_barsReplay_30 : decode cX5_barsReplay 30 = .ok (.iload_n 1, 1) := by decide +kernel
theorem dX5_barsReplay_31 : decode cX5_barsReplay 31 = .ok (.iload_n 2, 1) := by decide +kernel
theorem dX5_barsReplay_32 : decode cX5_barsReplay 32 = .ok (.invokevirtual 101, 3) := by decide +kernel
theorem dX5_barsReplay_35 : decode cX5_barsReplay 35 = .ok (.ireturn, 1) := by decide +kernel
theorem dX5_replay_0 : decode cX5_replay 0 = .ok (.aload_n 0, 1) := by decide +kernel
theorem dX5_replay_1 : decode cX5_replay 1 = .ok (.iload_n 1, 1) := by decide +kernel
theorem dX5_replay_2 : decode cX5_replay 2 = .ok (.iload_n 2, 1) := by decide +kernel
theorem dX5_replay_3 : decode cX5_replay 3 = .ok (.invokevirtual 119, 3) := by decide +kernel
theorem dX5_replay_6 : decode cX5_replay 6 = .ok (.istore_n 3, 1) := by decide +kernel
theorem dX5_replay_7 : decode cX5_replay 7 = .ok (.iload_n 3, 1) := by decide +kernel
theorem dX5_replay_8 : decode cX5_replay 8 = .ok (.ifCond .ge 10, 3) := by decide +kernel
theorem dX5_replay_11 : decode cX5_replay 11 = .ok (.iload_n 3, 1) := by decide +kernel
theorem dX5_replay_12 : decode cX5_replay 12 = .ok (.i2l, 1) := by decide +kernel
theorem dX5_replay_13 : decode cX5_replay 13 = .ok (.ldc2_w 122, 3) := by decide +kernel
theorem dX5_replay_16 : decode cX5_replay 16 = .ok (.lsub, 1) := by decide +kernel
theorem dX5_replay_17 : decode cX5_replay 17 = .ok (.lreturn, 1) := by decide +kernel
theorem dX5_replay_18 : decode cX5_replay 18 = .ok (.iconst 0, 1) := by decide +kernel
theorem dX5_replay_19 : decode cX5_replay 19 = .ok (.istore 4, 2) := by decide +kernel
theorem dX5_replay_21 : decode cX5_replay 21 = .ok (.iload 4, 2) := by decide +kernel
theorem dX5_replay_23 : decode cX5_replay 23 = .ok (.bipush 32, 2) := by decide +kernel
theorem dX5_replay_25 : decode cX5_replay 25 = .ok (.if_icmp .ge 31, 3) := by decide +kernel
theorem dX5_replay_28 : decode cX5_replay 28 = .ok (.aload_n 0, 1) := by decide +kernel
theorem dX5_replay_29 : decode cX5_replay 29 = .ok (.getfield 46, 3) := by decide +kernel
theorem dX5_replay_32 : decode cX5_replay 32 = .ok (.bipush 32, 2) := by decide +kernel
theorem dX5_replay_34 : decode cX5_replay 34 = .ok (.iload 4, 2) := by decide +kernel
theorem dX5_replay_36 : decode cX5_replay 36 = .ok (.iadd, 1) := by decide +kernel
theorem dX5_replay_37 : decode cX5_replay 37 = .ok (.aload_n 0, 1) := by decide +kernel
theorem dX5_replay_38 : decode cX5_replay 38 = .ok (.getfield 7, 3) := by decide +kernel
theorem dX5_replay_41 : decode cX5_replay 41 = .ok (.bipush 32, 2) := by decide +kernel
theorem dX5_replay_43 : decode cX5_replay 43 = .ok (.iload_n 1, 1) := by decide +kernel
theorem dX5_replay_44 : decode cX5_replay 44 = .ok (.imul, 1) := by decide +kernel
theorem dX5_replay_45 : decode cX5_replay 45 = .ok (.iload 4, 2) := by decide +kernel
theorem dX5_replay_47 : decode cX5_replay 47 = .ok (.iadd, 1) := by decide +kernel
theorem dX5_replay_48 : decode cX5_replay 48 = .ok (.iaload, 1) := by decide +kernel
theorem dX5_replay_49 : decode cX5_replay 49 = .ok (.iastore, 1) := by decide +kernel
theorem dX5_replay_50 : decode cX5_replay 50 = .ok (.iinc 4 1, 3) := by decide +kernel
theorem dX5_replay_53 : decode cX5_replay 53 = .ok (.goto (-32), 3) := by decide +kernel
theorem dX5_replay_56 : decode cX5_replay 56 = .ok (.iconst 0, 1) := by decide +kernel
theorem dX5_replay_57 : decode cX5_replay 57 = .ok (.istore 4, 2) := by decide +kernel
theorem dX5_replay_59 : decode cX5_replay 59 = .ok (.iload 4, 2) := by decide +kernel
theorem dX5_replay_61 : decode cX5_replay 61 = .ok (.aload_n 0, 1) := by decide +kernel
theorem dX5_replay_62 : decode cX5_replay 62 = .ok (.getfield 59, 3) := by decide +kernel
theorem dX5_replay_65 : decode cX5_replay 65 = .ok (.if_icmp .ge 58, 3) := by decide +kernel
theorem dX5_replay_68 : decode cX5_replay 68 = .ok (.aload_n 0, 1) := by decide +kernel
theorem dX5_replay_69 : decode cX5_replay 69 = .ok (.getfield 40, 3) := by decide +kernel
theorem dX5_replay_72 : decode cX5_replay 72 = .ok (.iload 4, 2) := by decide +kernel
theorem dX5_replay_74 : decode cX5_replay 74 = .ok (.iaload, 1) := by decide +kernel
theorem dX5_replay_75 : decode cX5_replay 75 = .ok (.ifCond .ne 42, 3) := by decide +kernel
theorem dX5_replay_78 : decode cX5_replay 78 = .ok (.aload_n 0, 1) := by decide +kernel
theorem dX5_replay_79 : decode cX5_replay 79 = .ok (.getfield 31, 3) := by decide +kernel
theorem dX5_replay_82 : decode cX5_replay 82 = .ok (.iload 4, 2) := by decide +kernel
theorem dX5_replay_84 : decode cX5_replay 84 = .ok (.iaload, 1) := by decide +kernel
theorem dX5_replay_85 : decode cX5_replay 85 = .ok (.iload_n 1, 1) := by decide +kernel
theorem dX5_replay_86 : decode cX5_replay 86 = .ok (.iconst 1, 1) := by decide +kernel
theorem dX5_replay_87 : decode cX5_replay 87 = .ok (.iadd, 1) := by decide +kernel
theorem dX5_replay_88 : decode cX5_replay 88 = .ok (.iload_n 2, 1) := by decide +kernel
theorem dX5_replay_89 : decode cX5_replay 89 = .ok (.invokestatic 72, 3) := by decide +kernel
theorem dX5_replay_92 : decode cX5_replay 92 = .ok (.ifCond .eq 25, 3) := by decide +kernel
theorem dX5_replay_95 : decode cX5_replay 95 = .ok (.aload_n 0, 1) := by decide +kernel
theorem dX5_replay_96 : decode cX5_replay 96 = .ok (.getfield 46, 3) := by decide +kernel
theorem dX5_replay_99 : decode cX5_replay 99 = .ok (.bipush 32, 2) := by decide +kernel
theorem dX5_replay_101 : decode cX5_replay 101 = .ok (.aload_n 0, 1) := by decide +kernel
theorem dX5_replay_102 : decode cX5_replay 102 = .ok (.getfield 28, 3) := by decide +kernel
theorem dX5_replay_105 : decode cX5_replay 105 = .ok (.iload 4, 2) := by decide +kernel
theorem dX5_replay_107 : decode cX5_replay 107 = .ok (.iaload, 1) := by decide +kernel
theorem dX5_replay_108 : decode cX5_replay 108 = .ok (.iadd, 1) := by decide +kernel
theorem dX5_replay_109 : decode cX5_replay 109 = .ok (.aload_n 0, 1) := by decide +kernel
theorem dX5_replay_110 : decode cX5_replay 110 = .ok (.getfield 34, 3) := by decide +kernel
theorem dX5_replay_113 : decode cX5_replay 113 = .ok (.iload 4, 2) := by decide +kernel
theorem dX5_replay_115 : decode cX5_replay 115 = .ok (.iaload, 1) := by decide +kernel
theorem dX5_replay_116 : decode cX5_replay 116 = .ok (.iastore, 1) := by decide +kernel
theorem dX5_replay_117 : decode cX5_replay 117 = .ok (.iinc 4 1, 3) := by decide +kernel
theorem dX5_replay_120 : decode cX5_replay 120 = .ok (.goto (-61), 3) := by decide +kernel
theorem dX5_replay_123 : decode cX5_replay 123 = .ok (.iconst 0, 1) := by decide +kernel
theorem dX5_replay_124 : decode cX5_replay 124 = .ok (.istore 4, 2) := by decide +kernel
theorem dX5_replay_126 : decode cX5_replay 126 = .ok (.iload 4, 2) := by decide +kernel
theorem dX5_replay_128 : decode cX5_replay 128 = .ok (.bipush 32, 2) := by decide +kernel
theorem dX5_replay_130 : decode cX5_replay 130 = .ok (.if_icmp .ge 34, 3) := by decide +kernel
theorem dX5_replay_133 : decode cX5_replay 133 = .ok (.aload_n 0, 1) := by decide +kernel
theorem dX5_replay_134 : decode cX5_replay 134 = .ok (.getfield 46, 3) := by decide +kernel
theorem dX5_replay_137 : decode cX5_replay 137 = .ok (.bipush 32, 2) := by decide +kernel
theorem dX5_replay_139 : decode cX5_replay 139 = .ok (.iload 4, 2) := by decide +kernel
theorem dX5_replay_141 : decode cX5_replay 141 = .ok (.iadd, 1) := by decide +kernel
theorem dX5_replay_142 : decode cX5_replay 142 = .ok (.iload 4, 2) := by decide +kernel
theorem dX5_replay_144 : decode cX5_replay 144 = .ok (.aload_n 0, 1) := by decide +kernel
theorem dX5_replay_145 : decode cX5_replay 145 = .ok (.getfield 46, 3) := by decide +kernel
theorem dX5_replay_148 : decode cX5_replay 148 = .ok (.bipush 32, 2) := by decide +kernel
theorem dX5_replay_150 : decode cX5_replay 150 = .ok (.iload 4, 2) := by decide +kernel
theorem dX5_replay_152 : decode cX5_replay 152 = .ok (.iadd, 1) := by decide +kernel
theorem dX5_replay_153 : decode cX5_replay 153 = .ok (.iaload, 1) := by decide +kernel
theorem dX5_replay_154 : decode cX5_replay 154 = .ok (.invokestatic 77, 3) := by decide +kernel
theorem dX5_replay_157 : decode cX5_replay 157 = .ok (.iastore, 1) := by decide +kernel
theorem dX5_replay_158 : decode cX5_replay 158 = .ok (.iinc 4 1, 3) := by decide +kernel
theorem dX5_replay_161 : decode cX5_replay 161 = .ok (.goto (-35), 3) := by decide +kernel
theorem dX5_replay_164 : decode cX5_replay 164 = .ok (.bipush 31, 2) := by decide +kernel
theorem dX5_replay_166 : decode cX5_replay 166 = .ok (.istore 4, 2) := by decide +kernel
theorem dX5_replay_168 : decode cX5_replay 168 = .ok (.iload 4, 2) := by decide +kernel
theorem dX5_replay_170 : decode cX5_replay 170 = .ok (.ifCond .le 39, 3) := by decide +kernel
theorem dX5_replay_173 : decode cX5_replay 173 = .ok (.aload_n 0, 1) := by decide +kernel
theorem dX5_replay_174 : decode cX5_replay 174 = .ok (.getfield 46, 3) := by decide +kernel
theorem dX5_replay_177 : decode cX5_replay 177 = .ok (.iload 4, 2) := by decide +kernel
theorem dX5_replay_179 : decode cX5_replay 179 = .ok (.aload_n 0, 1) := by decide +kernel
theorem dX5_replay_180 : decode cX5_replay 180 = .ok (.getfield 46, 3) := by decide +kernel
theorem dX5_replay_183 : decode cX5_replay 183 = .ok (.iconst 2, 1) := by decide +kernel
theorem dX5_replay_184 : decode cX5_replay 184 = .ok (.iload 4, 2) := by decide +kernel
theorem dX5_replay_186 : decode cX5_replay 186 = .ok (.imul, 1) := by decide +kernel
theorem dX5_replay_187 : decode cX5_replay 187 = .ok (.iaload, 1) := by decide +kernel
theorem dX5_replay_188 : decode cX5_replay 188 = .ok (.aload_n 0, 1) := by decide +kernel
theorem dX5_replay_189 : decode cX5_replay 189 = .ok (.getfield 46, 3) := by decide +kernel
theorem dX5_replay_192 : decode cX5_replay 192 = .ok (.iconst 2, 1) := by decide +kernel
theorem dX5_replay_193 : decode cX5_replay 193 = .ok (.iload 4, 2) := by decide +kernel
theorem dX5_replay_195 : decode cX5_replay 195 = .ok (.imul, 1) := by decide +kernel
theorem dX5_replay_196 : decode cX5_replay 196 = .ok (.iconst 1, 1) := by decide +kernel
theorem dX5_replay_197 : decode cX5_replay 197 = .ok (.iadd, 1) := by decide +kernel
theorem dX5_replay_198 : decode cX5_replay 198 = .ok (.iaload, 1) := by decide +kernel
theorem dX5_replay_199 : decode cX5_replay 199 = .ok (.invokestatic 81, 3) := by decide +kernel
theorem dX5_replay_202 : decode cX5_replay 202 = .ok (.iastore, 1) := by decide +kernel
theorem dX5_replay_203 : decode cX5_replay 203 = .ok (.iinc 4 (-1), 3) := by decide +kernel
theorem dX5_replay_206 : decode cX5_replay 206 = .ok (.goto (-38), 3) := by decide +kernel
theorem dX5_replay_209 : decode cX5_replay 209 = .ok (.aload_n 0, 1) := by decide +kernel
theorem dX5_replay_210 : decode cX5_replay 210 = .ok (.getfield 46, 3) := by decide +kernel
theorem dX5_replay_213 : decode cX5_replay 213 = .ok (.iconst 1, 1) := by decide +kernel
theorem dX5_replay_214 : decode cX5_replay 214 = .ok (.iaload, 1) := by decide +kernel
theorem dX5_replay_215 : decode cX5_replay 215 = .ok (.i2l, 1) := by decide +kernel
theorem dX5_replay_216 : decode cX5_replay 216 = .ok (.lreturn, 1) := by decide +kernel
theorem dX5_replayed_0 : decode cX5_replayed 0 = .ok (.aload_n 0, 1) := by decide +kernel
theorem dX5_replayed_1 : decode cX5_replayed 1 = .ok (.iload_n 1, 1) := by decide +kernel
theorem dX5_replayed_2 : decode cX5_replayed 2 = .ok (.iload_n 2, 1) := by decide +kernel
theorem dX5_replayed_3 : decode cX5_replayed 3 = .ok (.invokevirtual 119, 3) := by decide +kernel
theorem dX5_replayed_6 : decode cX5_replayed 6 = .ok (.istore_n 3, 1) := by decide +kernel
theorem dX5_replayed_7 : decode cX5_replayed 7 = .ok (.iload_n 3, 1) := by decide +kernel
theorem dX5_replayed_8 : decode cX5_replayed 8 = .ok (.ifCond .ge 5, 3) := by decide +kernel
theorem dX5_replayed_11 : decode cX5_replayed 11 = .ok (.iload_n 3, 1) := by decide +kernel
theorem dX5_replayed_12 : decode cX5_replayed 12 = .ok (.ireturn, 1) := by decide +kernel
theorem dX5_replayed_13 : decode cX5_replayed 13 = .ok (.iconst 0, 1) := by decide +kernel
theorem dX5_replayed_14 : decode cX5_replayed 14 = .ok (.istore 4, 2) := by decide +kernel
theorem dX5_replayed_16 : decode cX5_replayed 16 = .ok (.iconst 0, 1) := by decide +kernel
theorem dX5_replayed_17 : decode cX5_replayed 17 = .ok (.istore 5, 2) := by decide +kernel
theorem dX5_replayed_19 : decode cX5_replayed 19 = .ok (.iload 5, 2) := by decide +kernel
theorem dX5_replayed_21 : decode cX5_replayed 21 = .ok (.aload_n 0, 1) := by decide +kernel
theorem dX5_replayed_22 : decode cX5_replayed 22 = .ok (.getfield 59, 3) := by decide +kernel
theorem dX5_replayed_25 : decode cX5_replayed 25 = .ok (.if_icmp .ge 46, 3) := by decide +kernel
theorem dX5_replayed_28 : decode cX5_replayed 28 = .ok (.iload 4, 2) := by decide +kernel
theorem dX5_replayed_30 : decode cX5_replayed 30 = .ok (.aload_n 0, 1) := by decide +kernel
theorem dX5_replayed_31 : decode cX5_replayed 31 = .ok (.getfield 40, 3) := by decide +kernel
theorem dX5_replayed_34 : decode cX5_replayed 34 = .ok (.iload 5, 2) := by decide +kernel
theorem dX5_replayed_36 : decode cX5_replayed 36 = .ok (.iaload, 1) := by decide +kernel
theorem dX5_replayed_37 : decode cX5_replayed 37 = .ok (.ifCond .ne 24, 3) := by decide +kernel
theorem dX5_replayed_40 : decode cX5_replayed 40 = .ok (.aload_n 0, 1) := by decide +kernel
theorem dX5_replayed_41 : decode cX5_replayed 41 = .ok (.getfield 31, 3) := by decide +kernel
theorem dX5_replayed_44 : decode cX5_replayed 44 = .ok (.iload 5, 2) := by decide +kernel
theorem dX5_replayed_46 : decode cX5_replayed 46 = .ok (.iaload, 1) := by decide +kernel
theorem dX5_replayed_47 : decode cX5_replayed 47 = .ok (.iload_n 1, 1) := by decide +kernel
theorem dX5_replayed_48 : decode cX5_replayed 48 = .ok (.iconst 1, 1) := by decide +kernel
theorem dX5_replayed_49 : decode cX5_replayed 49 = .ok (.iadd, 1) := by decide +kernel
theorem dX5_replayed_50 : decode cX5_replayed 50 = .ok (.iload_n 2, 1) := by decide +kernel
theorem dX5_replayed_51 : decode cX5_replayed 51 = .ok (.invokestatic 72, 3) := by decide +kernel
theorem dX5_replayed_54 : decode cX5_replayed 54 = .ok (.ifCond .eq 7, 3) := by decide +kernel
theorem dX5_replayed_57 : decode cX5_replayed 57 = .ok (.iconst 1, 1) := by decide +kernel
theorem dX5_replayed_58 : decode cX5_replayed 58 = .ok (.goto 4, 3) := by decide +kernel
theorem dX5_replayed_61 : decode cX5_replayed 61 = .ok (.iconst 0, 1) := by decide +kernel
theorem dX5_replayed_62 : decode cX5_replayed 62 = .ok (.iadd, 1) := by decide +kernel
theorem dX5_replayed_63 : decode cX5_replayed 63 = .ok (.istore 4, 2) := by decide +kernel
theorem dX5_replayed_65 : decode cX5_replayed 65 = .ok (.iinc 5 1, 3) := by decide +kernel
theorem dX5_replayed_68 : decode cX5_replayed 68 = .ok (.goto (-49), 3) := by decide +kernel
theorem dX5_replayed_71 : decode cX5_replayed 71 = .ok (.iload 4, 2) := by decide +kernel
theorem dX5_replayed_73 : decode cX5_replayed 73 = .ok (.ireturn, 1) := by decide +kernel
theorem dX5_proof_0 : decode cX5_proof 0 = .ok (.iload_n 1, 1) := by decide +kernel
theorem dX5_proof_1 : decode cX5_proof 1 = .ok (.invokestatic 84, 3) := by decide +kernel
theorem dX5_proof_4 : decode cX5_proof 4 = .ok (.ifCond .eq 11, 3) := by decide +kernel
theorem dX5_proof_7 : decode cX5_proof 7 = .ok (.aload_n 0, 1) := by decide +kernel
theorem dX5_proof_8 : decode cX5_proof 8 = .ok (.iload_n 2, 1) := by decide +kernel
theorem dX5_proof_9 : decode cX5_proof 9 = .ok (.invokevirtual 94, 3) := by decide +kernel
theorem dX5_proof_12 : decode cX5_proof 12 = .ok (.ifCond .ne 7, 3) := by decide +kernel
theorem dX5_proof_15 : decode cX5_proof 15 = .ok (.ldc2_w 97, 3) := by decide +kernel
theorem dX5_proof_18 : decode cX5_proof 18 = .ok (.lreturn, 1) := by decide +kernel
theorem dX5_proof_19 : decode cX5_proof 19 = .ok (.iload_n 3, 1) := by decide +kernel
theorem dX5_proof_20 : decode cX5_proof 20 = .ok (.iconst 0, 1) := by decide +kernel
theorem dX5_proof_21 : decode cX5_proof 21 = .ok (.iconst 4, 1) := by decide +kernel
theorem dX5_proof_22 : decode cX5_proof 22 = .ok (.invokestatic 72, 3) := by decide +kernel
theorem dX5_proof_25 : decode cX5_proof 25 = .ok (.ifCond .ne 7, 3) := by decide +kernel
theorem dX5_proof_28 : decode cX5_proof 28 = .ok (.ldc2_w 124, 3) := by decide +kernel
theorem dX5_proof_31 : decode cX5_proof 31 = .ok (.lreturn, 1) := by decide +kernel
theorem dX5_proof_32 : decode cX5_proof 32 = .ok (.aload_n 0, 1) := by decide +kernel
theorem dX5_proof_33 : decode cX5_proof 33 = .ok (.getfield 16, 3) := by decide +kernel
theorem dX5_proof_36 : decode cX5_proof 36 = .ok (.iload_n 2, 1) := by decide +kernel
theorem dX5_proof_37 : decode cX5_proof 37 = .ok (.iaload, 1) := by decide +kernel
theorem dX5_proof_38 : decode cX5_proof 38 = .ok (.ifCond .le 7, 3) := by decide +kernel
theorem dX5_proof_41 : decode cX5_proof 41 = .ok (.ldc2_w 99, 3) := by decide +kernel
theorem dX5_proof_44 : decode cX5_proof 44 = .ok (.lreturn, 1) := by decide +kernel
theorem dX5_proof_45 : decode cX5_proof 45 = .ok (.aload_n 0, 1) := by decide +kernel
theorem dX5_proof_46 : decode cX5_proof 46 = .ok (.iload_n 2, 1) := by decide +kernel
theorem dX5_proof_47 : decode cX5_proof 47 = .ok (.invokevirtual 68, 3) := by decide +kernel
theorem dX5_proof_50 : decode cX5_proof 50 = .ok (.istore 4, 2) := by decide +kernel
theorem dX5_proof_52 : decode cX5_proof 52 = .ok (.bipush 32, 2) := by decide +kernel
theorem dX5_proof_54 : decode cX5_proof 54 = .ok (.iload_n 1, 1) := by decide +kernel
theorem dX5_proof_55 : decode cX5_proof 55 = .ok (.iadd, 1) := by decide +kernel
theorem dX5_proof_56 : decode cX5_proof 56 = .ok (.iload_n 3, 1) := by decide +kernel
theorem dX5_proof_57 : decode cX5_proof 57 = .ok (.ishr, 1) := by decide +kernel
theorem dX5_proof_58 : decode cX5_proof 58 = .ok (.istore 5, 2) := by decide +kernel
theorem dX5_proof_60 : decode cX5_proof 60 = .ok (.aload_n 0, 1) := by decide +kernel
theorem dX5_proof_61 : decode cX5_proof 61 = .ok (.getfield 46, 3) := by decide +kernel
theorem dX5_proof_64 : decode cX5_proof 64 = .ok (.iload 5, 2) := by decide +kernel
theorem dX5_proof_66 : decode cX5_proof 66 = .ok (.iconst 2, 1) := by decide +kernel
theorem dX5_proof_67 : decode cX5_proof 67 = .ok (.irem, 1) := by decide +kernel
theorem dX5_proof_68 : decode cX5_proof 68 = .ok (.ifCond .ne 10, 3) := by decide +kernel
theorem dX5_proof_71 : decode cX5_proof 71 = .ok (.iload 5, 2) := by decide +kernel
theorem dX5_proof_73 : decode cX5_proof 73 = .ok (.iconst 1, 1) := by decide +kernel
theorem dX5_proof_74 : decode cX5_proof 74 = .ok (.iadd, 1) := by decide +kernel
theorem dX5_proof_75 : decode cX5_proof 75 = .ok (.goto 7, 3) := by decide +kernel
theorem dX5_proof_78 : decode cX5_proof 78 = .ok (.iload 5, 2) := by decide +kernel
theorem dX5_proof_80 : decode cX5_proof 80 = .ok (.iconst 1, 1) := by decide +kernel
theorem dX5_proof_81 : decode cX5_proof 81 = .ok (.isub, 1) := by decide +kernel
theorem dX5_proof_82 : decode cX5_proof 82 = .ok (.iaload, 1) := by decide +kernel
theorem dX5_proof_83 : decode cX5_proof 83 = .ok (.i2l, 1) := by decide +kernel
theorem dX5_proof_84 : decode cX5_proof 84 = .ok (.lreturn, 1) := by decide +kernel
theorem dX5_lay_0 : decode cX5_lay 0 = .ok (.iload_n 1, 1) := by decide +kernel
theorem dX5_lay_1 : decode cX5_lay 1 = .ok (.iconst 0, 1) := by decide +kernel
theorem dX5_lay_2 : decode cX5_lay 2 = .ok (.iconst 4, 1) := by decide +kernel
theorem dX5_lay_3 : decode cX5_lay 3 = .ok (.invokestatic 72, 3) := by decide +kernel
theorem dX5_lay_6 : decode cX5_lay 6 = .ok (.ifCond .ne 6, 3) := by decide +kernel
theorem dX5_lay_9 : decode cX5_lay 9 = .ok (.bipush (-102), 2) := by decide +kernel
theorem dX5_lay_11 : decode cX5_lay 11 = .ok (.ireturn, 1) := by decide +kernel
theorem dX5_lay_12 : decode cX5_lay 12 = .ok (.aload_n 0, 1) := by decide +kernel
theorem dX5_lay_13 : decode cX5_lay 13 = .ok (.getfield 43, 3) := by decide +kernel
theorem dX5_lay_16 : decode cX5_lay 16 = .ok (.iload_n 1, 1) := by decide +kernel
theorem dX5_lay_17 : decode cX5_lay 17 = .ok (.iaload, 1) := by decide +kernel
theorem dX5_lay_18 : decode cX5_lay 18 = .ok (.istore_n 3, 1) := by decide +kernel
theorem dX5_lay_19 : decode cX5_lay 19 = .ok (.aload_n 0, 1) := by decide +kernel
theorem dX5_lay_20 : decode cX5_lay 20 = .ok (.getfield 43, 3) := by decide +kernel
theorem dX5_lay_23 : decode cX5_lay 23 = .ok (.iload_n 1, 1) := by decide +kernel
theorem dX5_lay_24 : decode cX5_lay 24 = .ok (.iload_n 2, 1) := by decide +kernel
theorem dX5_lay_25 : decode cX5_lay 25 = .ok (.iastore, 1) := by decide +kernel
theorem dX5_lay_26 : decode cX5_lay 26 = .ok (.iload_n 3, 1) := by decide +kernel
theorem dX5_lay_27 : decode cX5_lay 27 = .ok (.ireturn, 1) := by decide +kernel
theorem dX5_proves_0 : decode cX5_proves 0 = .ok (.iload_n 1, 1) := by decide +kernel
theorem dX5_proves_1 : decode cX5_proves 1 = .ok (.invokestatic 84, 3) := by decide +kernel
theorem dX5_proves_4 : decode cX5_proves 4 = .ok (.ifCond .eq 11, 3) := by decide +kernel
theorem dX5_proves_7 : decode cX5_proves 7 = .ok (.aload_n 0, 1) := by decide +kernel
theorem dX5_proves_8 : decode cX5_proves 8 = .ok (.iload_n 3, 1) := by decide +kernel
theorem dX5_proves_9 : decode cX5_proves 9 = .ok (.invokevirtual 94, 3) := by decide +kernel
theorem dX5_proves_12 : decode cX5_proves 12 = .ok (.ifCond .ne 6, 3) := by decide +kernel
theorem dX5_proves_15 : decode cX5_proves 15 = .ok (.bipush (-101), 2) := by decide +kernel
theorem dX5_proves_17 : decode cX5_proves 17 = .ok (.ireturn, 1) := by decide +kernel
theorem dX5_proves_18 : decode cX5_proves 18 = .ok (.iload_n 1, 1) := by decide +kernel
theorem dX5_proves_19 : decode cX5_proves 19 = .ok (.iload_n 2, 1) := by decide +kernel
theorem dX5_proves_20 : decode cX5_proves 20 = .ok (.invokestatic 77, 3) := by decide +kernel
theorem dX5_proves_23 : decode cX5_proves 23 = .ok (.istore 4, 2) := by decide +kernel
theorem dX5_proves_25 : decode cX5_proves 25 = .ok (.iconst 0, 1) := by decide +kernel
theorem dX5_proves_26 : decode cX5_proves 26 = .ok (.istore 5, 2) := by decide +kernel
theorem dX5_proves_28 : decode cX5_proves 28 = .ok (.iload 5, 2) := by decide +kernel
theorem dX5_proves_30 : decode cX5_proves 30 = .ok (.iconst 5, 1) := by decide +kernel
theorem dX5_proves_31 : decode cX5_proves 31 = .ok (.if_icmp .ge 47, 3) := by decide +kernel
theorem dX5_proves_34 : decode cX5_proves 34 = .ok (.iload_n 1, 1) := by decide +kernel
theorem dX5_proves_35 : decode cX5_proves 35 = .ok (.iload 5, 2) := by decide +kernel
theorem dX5_proves_37 : decode cX5_proves 37 = .ok (.ishr, 1) := by decide +kernel
theorem dX5_proves_38 : decode cX5_proves 38 = .ok (.iconst 2, 1) := by decide +kernel
theorem dX5_proves_39 : decode cX5_proves 39 = .ok (.irem, 1) := by decide +kernel
theorem dX5_proves_40 : decode cX5_proves 40 = .ok (.ifCond .ne 18, 3) := by decide +kernel
theorem dX5_proves_43 : decode cX5_proves 43 = .ok (.iload 4, 2) := by decide +kernel
theorem dX5_proves_45 : decode cX5_proves 45 = .ok (.aload_n 0, 1) := by decide +kernel
theorem dX5_proves_46 : decode cX5_proves 46 = .ok (.getfield 43, 3) := by decide +kernel
theorem dX5_proves_49 : decode cX5_proves 49 = .ok (.iload 5, 2) := by decide +kernel
theorem dX5_proves_51 : decode cX5_proves 51 = .ok (.iaload, 1) := by decide +kernel
theorem dX5_proves_52 : decode cX5_proves 52 = .ok (.invokestatic 81, 3) := by decide +kernel
theorem dX5_proves_55 : decode cX5_proves 55 = .ok (.goto 15, 3) := by decide +kernel
theorem dX5_proves_58 : decode cX5_proves 58 = .ok (.aload_n 0, 1) := by decide +kernel
theorem dX5_proves_59 : decode cX5_proves 59 = .ok (.getfield 43, 3) := by decide +kernel
theorem dX5_proves_62 : decode cX5_proves 62 = .ok (.iload 5, 2) := by decide +kernel
theorem dX5_proves_64 : decode cX5_proves 64 = .ok (.iaload, 1) := by decide +kernel
theorem dX5_proves_65 : decode cX5_proves 65 = .ok (.iload 4, 2) := by decide +kernel
theorem dX5_proves_67 : decode cX5_proves 67 = .ok (.invokestatic 81, 3) := by decide +kernel
theorem dX5_proves_70 : decode cX5_proves 70 = .ok (.istore 4, 2) := by decide +kernel
theorem dX5_proves_72 : decode cX5_proves 72 = .ok (.iinc 5 1, 3) := by decide +kernel
theorem dX5_proves_75 : decode cX5_proves 75 = .ok (.goto (-47), 3) := by decide +kernel
theorem dX5_proves_78 : decode cX5_proves 78 = .ok (.iload 4, 2) := by decide +kernel
theorem dX5_proves_80 : decode cX5_proves 80 = .ok (.aload_n 0, 1) := by decide +kernel
theorem dX5_proves_81 : decode cX5_proves 81 = .ok (.getfield 13, 3) := by decide +kernel
theorem dX5_proves_84 : decode cX5_proves 84 = .ok (.iload_n 3, 1) := by decide +kernel
theorem dX5_proves_85 : decode cX5_proves 85 = .ok (.iaload, 1) := by decide +kernel
theorem dX5_proves_86 : decode cX5_proves 86 = .ok (.if_icmp .ne 7, 3) := by decide +kernel
theorem dX5_proves_89 : decode cX5_proves 89 = .ok (.iconst 1, 1) := by decide +kernel
theorem dX5_proves_90 : decode cX5_proves 90 = .ok (.goto 4, 3) := by decide +kernel
theorem dX5_proves_93 : decode cX5_proves 93 = .ok (.iconst 0, 1) := by decide +kernel
theorem dX5_proves_94 : decode cX5_proves 94 = .ok (.ireturn, 1) := by decide +kernel
theorem dX5_back_0 : decode cX5_back 0 = .ok (.aload_n 0, 1) := by decide +kernel
theorem dX5_back_1 : decode cX5_back 1 = .ok (.iload_n 1, 1) := by decide +kernel
theorem dX5_back_2 : decode cX5_back 2 = .ok (.invokevirtual 94, 3) := by decide +kernel
theorem dX5_back_5 : decode cX5_back 5 = .ok (.ifCond .ne 6, 3) := by decide +kernel
theorem dX5_back_8 : decode cX5_back 8 = .ok (.bipush (-101), 2) := by decide +kernel
theorem dX5_back_10 : decode cX5_back 10 = .ok (.ireturn, 1) := by decide +kernel
theorem dX5_back_11 : decode cX5_back 11 = .ok (.aload_n 0, 1) := by decide +kernel
theorem dX5_back_12 : decode cX5_back 12 = .ok (.getfield 62, 3) := by decide +kernel
theorem dX5_back_15 : decode cX5_back 15 = .ok (.ifCond .le 6, 3) := by decide +kernel
theorem dX5_back_18 : decode cX5_back 18 = .ok (.bipush (-103), 2) := by decide +kernel
theorem dX5_back_20 : decode cX5_back 20 = .ok (.ireturn, 1) := by decide +kernel
theorem dX5_back_21 : decode cX5_back 21 = .ok (.aload_n 0, 1) := by decide +kernel
theorem dX5_back_22 : decode cX5_back 22 = .ok (.getfield 16, 3) := by decide +kernel
theorem dX5_back_25 : decode cX5_back 25 = .ok (.iload_n 1, 1) := by decide +kernel
theorem dX5_back_26 : decode cX5_back 26 = .ok (.iaload, 1) := by decide +kernel
theorem dX5_back_27 : decode cX5_back 27 = .ok (.ifCond .le 6, 3) := by decide +kernel
theorem dX5_back_30 : decode cX5_back 30 = .ok (.bipush (-104), 2) := by decide +kernel
theorem dX5_back_32 : decode cX5_back 32 = .ok (.ireturn, 1) := by decide +kernel
theorem dX5_back_33 : decode cX5_back 33 = .ok (.aload_n 0, 1) := by decide +kernel
theorem dX5_back_34 : decode cX5_back 34 = .ok (.iload_n 1, 1) := by decide +kernel
theorem dX5_back_35 : decode cX5_back 35 = .ok (.invokevirtual 110, 3) := by decide +kernel
theorem dX5_back_38 : decode cX5_back 38 = .ok (.istore_n 2, 1) := by decide +kernel
theorem dX5_back_39 : decode cX5_back 39 = .ok (.aload_n 0, 1) := by decide +kernel
theorem dX5_back_40 : decode cX5_back 40 = .ok (.iload_n 1, 1) := by decide +kernel
theorem dX5_back_41 : decode cX5_back 41 = .ok (.putfield 52, 3) := by decide +kernel
theorem dX5_back_44 : decode cX5_back 44 = .ok (.aload_n 0, 1) := by decide +kernel
theorem dX5_back_45 : decode cX5_back 45 = .ok (.iconst 0, 1) := by decide +kernel
theorem dX5_back_46 : decode cX5_back 46 = .ok (.putfield 56, 3) := by decide +kernel
theorem dX5_back_49 : decode cX5_back 49 = .ok (.iload_n 2, 1) := by decide +kernel
theorem dX5_back_50 : decode cX5_back 50 = .ok (.ireturn, 1) := by decide +kernel
theorem dX5_row_0 : decode cX5_row 0 = .ok (.iload_n 1, 1) := by decide +kernel
theorem dX5_row_1 : decode cX5_row 1 = .ok (.invokestatic 84, 3) := by decide +kernel
theorem dX5_row_4 : decode cX5_row 4 = .ok (.ifCond .ne 6, 3) := by decide +kernel
theorem dX5_row_7 : decode cX5_row 7 = .ok (.bipush (-101), 2) := by decide +kernel
theorem dX5_row_9 : decode cX5_row 9 = .ok (.ireturn, 1) := by decide +kernel
theorem dX5_row_10 : decode cX5_row 10 = .ok (.iload_n 3, 1) := by decide +kernel
theorem dX5_row_11 : decode cX5_row 11 = .ok (.iconst 0, 1) := by decide +kernel
theorem dX5_row_12 : decode cX5_row 12 = .ok (.iconst 1, 1) := by decide +kernel
theorem dX5_row_13 : decode cX5_row 13 = .ok (.invokestatic 72, 3) := by decide +kernel
theorem dX5_row_16 : decode cX5_row 16 = .ok (.ifCond .ne 6, 3) := by decide +kernel
theorem dX5_row_19 : decode cX5_row 19 = .ok (.bipush (-102), 2) := by decide +kernel
theorem dX5_row_21 : decode cX5_row 21 = .ok (.ireturn, 1) := by decide +kernel
theorem dX5_row_22 : decode cX5_row 22 = .ok (.iconst 0, 1) := by decide +kernel
theorem dX5_row_23 : decode cX5_row 23 = .ok (.istore 4, 2) := by decide +kernel
theorem dX5_row_25 : decode cX5_row 25 = .ok (.iconst 0, 1) := by decide +kernel
theorem dX5_row_26 : decode cX5_row 26 = .ok (.istore 5, 2) := by decide +kernel
theorem dX5_row_28 : decode cX5_row 28 = .ok (.iload 5, 2) := by decide +kernel
theorem dX5_row_30 : decode cX5_row 30 = .ok (.aload_n 0, 1) := by decide +kernel
theorem dX5_row_31 : decode cX5_row 31 = .ok (.getfield 59, 3) := by decide +kernel
theorem dX5_row_34 : decode cX5_row 34 = .ok (.if_icmp .ge 61, 3) := by decide +kernel
theorem dX5_row_37 : decode cX5_row 37 = .ok (.aload_n 0, 1) := by decide +kernel
theorem dX5_row_38 : decode cX5_row 38 = .ok (.getfield 40, 3) := by decide +kernel
theorem dX5_row_41 : decode cX5_row 41 = .ok (.iload 5, 2) := by decide +kernel
theorem dX5_row_43 : decode cX5_row 43 = .ok (.iaload, 1) := by decide +kernel
theorem dX5_row_44 : decode cX5_row 44 = .ok (.ifCond .ne 45, 3) := by decide +kernel
theorem dX5_row_47 : decode cX5_row 47 = .ok (.aload_n 0, 1) := by decide +kernel
theorem dX5_row_48 : decode cX5_row 48 = .ok (.getfield 28, 3) := by decide +kernel
theorem dX5_row_51 : decode cX5_row 51 = .ok (.iload 5, 2) := by decide +kernel
theorem dX5_row_53 : decode cX5_row 53 = .ok (.iaload, 1) := by decide +kernel
theorem dX5_row_54 : decode cX5_row 54 = .ok (.iload_n 1, 1) := by decide +kernel
theorem dX5_row_55 : decode cX5_row 55 = .ok (.if_icmp .ne 34, 3) := by decide +kernel
theorem dX5_row_58 : decode cX5_row 58 = .ok (.iload 4, 2) := by decide +kernel
theorem dX5_row_60 : decode cX5_row 60 = .ok (.iload_n 2, 1) := by decide +kernel
theorem dX5_row_61 : decode cX5_row 61 = .ok (.if_icmp .ne 25, 3) := by decide +kernel
theorem dX5_row_64 : decode cX5_row 64 = .ok (.iload_n 3, 1) := by decide +kernel
theorem dX5_row_65 : decode cX5_row 65 = .ok (.ifCond .ne 13, 3) := by decide +kernel
theorem dX5_row_68 : decode cX5_row 68 = .ok (.aload_n 0, 1) := by decide +kernel
theorem dX5_row_69 : decode cX5_row 69 = .ok (.getfield 31, 3) := by decide +kernel
theorem dX5_row_72 : decode cX5_row 72 = .ok (.iload 5, 2) := by decide +kernel
theorem dX5_row_74 : decode cX5_row 74 = .ok (.iaload, 1) := by decide +kernel
theorem dX5_row_75 : decode cX5_row 75 = .ok (.goto 10, 3) := by decide +kernel
theorem dX5_row_78 : decode cX5_row 78 = .ok (.aload_n 0, 1) := by decide +kernel
theorem dX5_row_79 : decode cX5_row 79 = .ok (.getfield 37, 3) := by decide +kernel
theorem dX5_row_82 : decode cX5_row 82 = .ok (.iload 5, 2) := by decide +kernel
theorem dX5_row_84 : decode cX5_row 84 = .ok (.iaload, 1) := by decide +kernel
theorem dX5_row_85 : decode cX5_row 85 = .ok (.ireturn, 1) := by decide +kernel
theorem dX5_row_86 : decode cX5_row 86 = .ok (.iinc 4 1, 3) := by decide +kernel
theorem dX5_row_89 : decode cX5_row 89 = .ok (.iinc 5 1, 3) := by decide +kernel
theorem dX5_row_92 : decode cX5_row 92 = .ok (.goto (-64), 3) := by decide +kernel
theorem dX5_row_95 : decode cX5_row 95 = .ok (.iconst (-1), 1) := by decide +kernel
theorem dX5_row_96 : decode cX5_row 96 = .ok (.ireturn, 1) := by decide +kernel
theorem dX5_count_0 : decode cX5_count 0 = .ok (.iload_n 1, 1) := by decide +kernel
theorem dX5_count_1 : decode cX5_count 1 = .ok (.tableswitch 84 0 5 #[39, 44, 49, 55, 66, 71], 39) := by decide +kernel
theorem dX5_count_40 : decode cX5_count 40 = .ok (.aload_n 0, 1) := by decide +kernel
theorem dX5_count_41 : decode cX5_count 41 = .ok (.getfield 52, 3) := by decide +kernel
theorem dX5_count_44 : decode cX5_count 44 = .ok (.ireturn, 1) := by decide +kernel
theorem dX5_count_45 : decode cX5_count 45 = .ok (.aload_n 0, 1) := by decide +kernel
theorem dX5_count_46 : decode cX5_count 46 = .ok (.getfield 56, 3) := by decide +kernel
theorem dX5_count_49 : decode cX5_count 49 = .ok (.ireturn, 1) := by decide +kernel
theorem dX5_count_50 : decode cX5_count 50 = .ok (.aload_n 0, 1) := by decide +kernel
theorem dX5_count_51 : decode cX5_count 51 = .ok (.iconst 0, 1) := by decide +kernel
theorem dX5_count_52 : decode cX5_count 52 = .ok (.invokevirtual 113, 3) := by decide +kernel
theorem dX5_count_55 : decode cX5_count 55 = .ok (.ireturn, 1) := by decide +kernel
theorem dX5_count_56 : decode cX5_count 56 = .ok (.aload_n 0, 1) := by decide +kernel
theorem dX5_count_57 : decode cX5_count 57 = .ok (.getfield 59, 3) := by decide +kernel
theorem dX5_count_60 : decode cX5_count 60 = .ok (.aload_n 0, 1) := by decide +kernel
theorem dX5_count_61 : decode cX5_count 61 = .ok (.iconst 0, 1) := by decide +kernel
theorem dX5_count_62 : decode cX5_count 62 = .ok (.invokevirtual 113, 3) := by decide +kernel
theorem dX5_count_65 : decode cX5_count 65 = .ok (.isub, 1) := by decide +kernel
theorem dX5_count_66 : decode cX5_count 66 = .ok (.ireturn, 1) := by decide +kernel
theorem dX5_count_67 : decode cX5_count 67 = .ok (.aload_n 0, 1) := by decide +kernel
theorem dX5_count_68 : decode cX5_count 68 = .ok (.getfield 62, 3) := by decide +kernel
theorem dX5_count_71 : decode cX5_count 71 = .ok (.ireturn, 1) := by decide +kernel
theorem dX5_count_72 : decode cX5_count 72 = .ok (.aload_n 0, 1) := by decide +kernel
theorem dX5_count_73 : decode cX5_count 73 = .ok (.getfield 52, 3) := by decide +kernel
theorem dX5_count_76 : decode cX5_count 76 = .ok (.iconst 1, 1) := by decide +kernel
theorem dX5_count_77 : decode cX5_count 77 = .ok (.iadd, 1) := by decide +kernel
theorem dX5_count_78 : decode cX5_count 78 = .ok (.aload_n 0, 1) := by decide +kernel
theorem dX5_count_79 : decode cX5_count 79 = .ok (.iconst 0, 1) := by decide +kernel
theorem dX5_count_80 : decode cX5_count 80 = .ok (.invokevirtual 116, 3) := by decide +kernel
theorem dX5_count_83 : decode cX5_count 83 = .ok (.isub, 1) := by decide +kernel
theorem dX5_count_84 : decode cX5_count 84 = .ok (.ireturn, 1) := by decide +kernel
theorem dX5_count_85 : decode cX5_count 85 = .ok (.bipush (-102), 2) := by decide +kernel
theorem dX5_count_87 : decode cX5_count 87 = .ok (.ireturn, 1) := by decide +kernel
theorem dX5_clear_0 : decode cX5_clear 0 = .ok (.aload_n 0, 1) := by decide +kernel
theorem dX5_clear_1 : decode cX5_clear 1 = .ok (.getfield 52, 3) := by decide +kernel
theorem dX5_clear_4 : decode cX5_clear 4 = .ok (.istore_n 1, 1) := by decide +kernel
theorem dX5_clear_5 : decode cX5_clear 5 = .ok (.aload_n 0, 1) := by decide +kernel
theorem dX5_clear_6 : decode cX5_clear 6 = .ok (.invokevirtual 49, 3) := by decide +kernel
theorem dX5_clear_9 : decode cX5_clear 9 = .ok (.iload_n 1, 1) := by decide +kernel
theorem dX5_clear_10 : decode cX5_clear 10 = .ok (.ireturn, 1) := by decide +kernel
end
