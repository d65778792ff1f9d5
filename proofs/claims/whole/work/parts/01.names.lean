-- ===== PART A: goes FIRST, ahead of the names: the tables' words, and 'selects' of the private methods out of them =====
/-- a private method of a class that the tables say can be made, by its rows of tables_1 -/
def lw_okq (q : MethodName × Nat) : Prop := (q.1.cls ≠ "java/lang/invoke/MethodHandle" ∧ q.1.cls ≠ "java/lang/invoke/VarHandle") ∧ Cond.instantiable q.1.cls q.2 ∈ tables_1 ∧ Cond.privateMethod q.1 ∈ tables_1 ∧ Cond.instanceMethod q.1 ∈ tables_1
theorem lw_p0 : lw_okq (⟨"HistoryRows", "begin", "()V"⟩, 9) := ⟨⟨by decide +kernel, by decide +kernel⟩, List.mem_of_getElem? (i := 9) (by decide +kernel), List.mem_of_getElem? (i := 106) (by decide +kernel), List.mem_of_getElem? (i := 107) (by decide +kernel)⟩
theorem lw_p1 : lw_okq (⟨"HistoryRows", "isHeight", "(I)Z"⟩, 9) := ⟨⟨by decide +kernel, by decide +kernel⟩, List.mem_of_getElem? (i := 9) (by decide +kernel), List.mem_of_getElem? (i := 196) (by decide +kernel), List.mem_of_getElem? (i := 197) (by decide +kernel)⟩
theorem lw_p2 : lw_okq (⟨"HistoryRows", "refusalOfTwo", "(II)I"⟩, 9) := ⟨⟨by decide +kernel, by decide +kernel⟩, List.mem_of_getElem? (i := 9) (by decide +kernel), List.mem_of_getElem? (i := 237) (by decide +kernel), List.mem_of_getElem? (i := 238) (by decide +kernel)⟩
theorem lw_p3 : lw_okq (⟨"HistoryRows", "loadTwo", "(II)V"⟩, 9) := ⟨⟨by decide +kernel, by decide +kernel⟩, List.mem_of_getElem? (i := 9) (by decide +kernel), List.mem_of_getElem? (i := 241) (by decide +kernel), List.mem_of_getElem? (i := 242) (by decide +kernel)⟩
theorem lw_p4 : lw_okq (⟨"HistoryRows$Rows", "copyRow", "(II)V"⟩, 7) := ⟨⟨by decide +kernel, by decide +kernel⟩, List.mem_of_getElem? (i := 17) (by decide +kernel), List.mem_of_getElem? (i := 311) (by decide +kernel), List.mem_of_getElem? (i := 312) (by decide +kernel)⟩
theorem lw_p5 : lw_okq (⟨"HistoryRows", "refusalOfReplay", "(II)I"⟩, 9) := ⟨⟨by decide +kernel, by decide +kernel⟩, List.mem_of_getElem? (i := 9) (by decide +kernel), List.mem_of_getElem? (i := 331) (by decide +kernel), List.mem_of_getElem? (i := 332) (by decide +kernel)⟩
theorem lw_p6 : lw_okq (⟨"HistoryRowsModel", "begin", "()V"⟩, 18) := ⟨⟨by decide +kernel, by decide +kernel⟩, List.mem_of_getElem? (i := 387) (by decide +kernel), List.mem_of_getElem? (i := 393) (by decide +kernel), List.mem_of_getElem? (i := 394) (by decide +kernel)⟩
theorem lw_p7 : lw_okq (⟨"HistoryRowsModel", "digestOf", "(I)I"⟩, 18) := ⟨⟨by decide +kernel, by decide +kernel⟩, List.mem_of_getElem? (i := 387) (by decide +kernel), List.mem_of_getElem? (i := 397) (by decide +kernel), List.mem_of_getElem? (i := 398) (by decide +kernel)⟩
theorem lw_p8 : lw_okq (⟨"HistoryRowsModel", "nowOf", "(I)I"⟩, 18) := ⟨⟨by decide +kernel, by decide +kernel⟩, List.mem_of_getElem? (i := 387) (by decide +kernel), List.mem_of_getElem? (i := 477) (by decide +kernel), List.mem_of_getElem? (i := 478) (by decide +kernel)⟩
theorem lw_p9 : lw_okq (⟨"HistoryRowsModel", "lastOf", "(I)I"⟩, 18) := ⟨⟨by decide +kernel, by decide +kernel⟩, List.mem_of_getElem? (i := 387) (by decide +kernel), List.mem_of_getElem? (i := 481) (by decide +kernel), List.mem_of_getElem? (i := 482) (by decide +kernel)⟩
theorem lw_p10 : lw_okq (⟨"HistoryRowsModel", "isHeight", "(I)Z"⟩, 18) := ⟨⟨by decide +kernel, by decide +kernel⟩, List.mem_of_getElem? (i := 387) (by decide +kernel), List.mem_of_getElem? (i := 493) (by decide +kernel), List.mem_of_getElem? (i := 494) (by decide +kernel)⟩
theorem lw_p11 : lw_okq (⟨"HistoryRowsModel", "bars", "(II)I"⟩, 18) := ⟨⟨by decide +kernel, by decide +kernel⟩, List.mem_of_getElem? (i := 387) (by decide +kernel), List.mem_of_getElem? (i := 519) (by decide +kernel), List.mem_of_getElem? (i := 520) (by decide +kernel)⟩
theorem lw_p12 : lw_okq (⟨"HistoryRowsModel", "goes", "(I)Z"⟩, 18) := ⟨⟨by decide +kernel, by decide +kernel⟩, List.mem_of_getElem? (i := 387) (by decide +kernel), List.mem_of_getElem? (i := 535) (by decide +kernel), List.mem_of_getElem? (i := 536) (by decide +kernel)⟩
theorem lw_p13 : lw_okq (⟨"HistoryRowsModel", "isNeeded", "(I)Z"⟩, 18) := ⟨⟨by decide +kernel, by decide +kernel⟩, List.mem_of_getElem? (i := 387) (by decide +kernel), List.mem_of_getElem? (i := 539) (by decide +kernel), List.mem_of_getElem? (i := 540) (by decide +kernel)⟩
theorem lw_p14 : lw_okq (⟨"HistoryRowsModel", "squeeze", "(I)I"⟩, 18) := ⟨⟨by decide +kernel, by decide +kernel⟩, List.mem_of_getElem? (i := 387) (by decide +kernel), List.mem_of_getElem? (i := 555) (by decide +kernel), List.mem_of_getElem? (i := 556) (by decide +kernel)⟩
theorem lw_p15 : lw_okq (⟨"HistoryRowsModel", "rowsIn", "(I)I"⟩, 18) := ⟨⟨by decide +kernel, by decide +kernel⟩, List.mem_of_getElem? (i := 387) (by decide +kernel), List.mem_of_getElem? (i := 563) (by decide +kernel), List.mem_of_getElem? (i := 564) (by decide +kernel)⟩
def lw_privs_1 : List (MethodName × Nat) := [(⟨"HistoryRows", "begin", "()V"⟩, 9), (⟨"HistoryRows", "isHeight", "(I)Z"⟩, 9), (⟨"HistoryRows", "refusalOfTwo", "(II)I"⟩, 9), (⟨"HistoryRows", "loadTwo", "(II)V"⟩, 9), (⟨"HistoryRows$Rows", "copyRow", "(II)V"⟩, 7), (⟨"HistoryRows", "refusalOfReplay", "(II)I"⟩, 9), (⟨"HistoryRowsModel", "begin", "()V"⟩, 18), (⟨"HistoryRowsModel", "digestOf", "(I)I"⟩, 18), (⟨"HistoryRowsModel", "nowOf", "(I)I"⟩, 18), (⟨"HistoryRowsModel", "lastOf", "(I)I"⟩, 18), (⟨"HistoryRowsModel", "isHeight", "(I)Z"⟩, 18), (⟨"HistoryRowsModel", "bars", "(II)I"⟩, 18), (⟨"HistoryRowsModel", "goes", "(I)Z"⟩, 18), (⟨"HistoryRowsModel", "isNeeded", "(I)Z"⟩, 18), (⟨"HistoryRowsModel", "squeeze", "(I)I"⟩, 18), (⟨"HistoryRowsModel", "rowsIn", "(I)I"⟩, 18)]
theorem lw_r1 : ∀ q ∈ lw_privs_1, lw_okq q := List.forall_mem_cons.mpr ⟨lw_p0, List.forall_mem_cons.mpr ⟨lw_p1, List.forall_mem_cons.mpr ⟨lw_p2, List.forall_mem_cons.mpr ⟨lw_p3, List.forall_mem_cons.mpr ⟨lw_p4, List.forall_mem_cons.mpr ⟨lw_p5, List.forall_mem_cons.mpr ⟨lw_p6, List.forall_mem_cons.mpr ⟨lw_p7, List.forall_mem_cons.mpr ⟨lw_p8, List.forall_mem_cons.mpr ⟨lw_p9, List.forall_mem_cons.mpr ⟨lw_p10, List.forall_mem_cons.mpr ⟨lw_p11, List.forall_mem_cons.mpr ⟨lw_p12, List.forall_mem_cons.mpr ⟨lw_p13, List.forall_mem_cons.mpr ⟨lw_p14, List.forall_mem_cons.mpr ⟨lw_p15, fun _ h => absurd h List.not_mem_nil⟩⟩⟩⟩⟩⟩⟩⟩⟩⟩⟩⟩⟩⟩⟩⟩
theorem lw_p16 : lw_okq (⟨"HistoryRowsModel", "heightsBy", "(I)I"⟩, 18) := ⟨⟨by decide +kernel, by decide +kernel⟩, List.mem_of_getElem? (i := 387) (by decide +kernel), List.mem_of_getElem? (i := 567) (by decide +kernel), List.mem_of_getElem? (i := 568) (by decide +kernel)⟩
theorem lw_p17 : lw_okq (⟨"HistoryRowsModel", "barsReplay", "(II)I"⟩, 18) := ⟨⟨by decide +kernel, by decide +kernel⟩, List.mem_of_getElem? (i := 387) (by decide +kernel), List.mem_of_getElem? (i := 575) (by decide +kernel), List.mem_of_getElem? (i := 576) (by decide +kernel)⟩
def lw_privs_2 : List (MethodName × Nat) := [(⟨"HistoryRowsModel", "heightsBy", "(I)I"⟩, 18), (⟨"HistoryRowsModel", "barsReplay", "(II)I"⟩, 18)]
theorem lw_r2 : ∀ q ∈ lw_privs_2, lw_okq q := List.forall_mem_cons.mpr ⟨lw_p16, List.forall_mem_cons.mpr ⟨lw_p17, fun _ h => absurd h List.not_mem_nil⟩⟩
def lw_privs : List (MethodName × Nat) := lw_privs_1 ++ (lw_privs_2)
def lw_tbl : List Cond := k2_sels lw_privs ++ tables_1
theorem lw_privs_ok : ∀ q ∈ lw_privs, lw_okq q := by
  show ∀ q ∈ lw_privs_1 ++ (lw_privs_2), lw_okq q
  exact List.forall_mem_append.mpr ⟨lw_r1, lw_r2⟩
-- names, by program
def RX0 : String := "HistoryRows$Block"
def TX0 : u_T := fun k => match k with
  | 0 => ("HistoryRows$Block", "ahead", "[I", true)
  | 1 => ("HistoryRows$Block", "behind", "[I", true)
  | 2 => ("HistoryRows$Block", "calls", "[I", true)
  | 3 => ("HistoryRows$Block", "writes", "I", false)
  | _ => ("HistoryRows$Block", "lastCall", "I", false)
def tyX0 : Nat → FieldType := fun k => match k with
  | 0 => .array .int
  | 1 => .array .int
  | 2 => .array .int
  | 3 => .int
  | _ => .int
abbrev wsX00 : List Cond := u_ws RX0 TX0 5
theorem nmX0 : ∀ a, a < 5 → ∀ b, b < 5 → a ≠ b → (TX0 a).2.1 ≠ (TX0 b).2.1 := by decide +kernel
theorem tyX0_ok : ∀ k, k < 5 → parseFieldDescriptor (TX0 k).2.2.1 = some (tyX0 k) := by decide +kernel
abbrev cX0_init : ByteArray := prog_2_method_1_code
def yX0_init : MethodName := ⟨RX0, "<init>", "()V"⟩
abbrev cX0_startFrom : ByteArray := prog_2_method_2_code
def yX0_startFrom : MethodName := ⟨RX0, "startFrom", "([I)V"⟩
abbrev cX0_put : ByteArray := prog_2_method_3_code
def yX0_put : MethodName := ⟨RX0, "put", "(III)V"⟩
abbrev cX0_changesLeaf : ByteArray := prog_2_method_4_code
def yX0_changesLeaf : MethodName := ⟨RX0, "changesLeaf", "(I)Z"⟩
abbrev cX0_changes : ByteArray := prog_2_method_5_code
def yX0_changes : MethodName := ⟨RX0, "changes", "()I"⟩
def RX1 : String := "HistoryRows$Heights"
def TX1 : u_T := fun k => match k with
  | 0 => ("HistoryRows$Heights", "digests", "[I", true)
  | 1 => ("HistoryRows$Heights", "places", "[I", true)
  | _ => ("HistoryRows$Heights", "top", "I", false)
def tyX1 : Nat → FieldType := fun k => match k with
  | 0 => .array .int
  | 1 => .array .int
  | _ => .int
abbrev wsX10 : List Cond := u_ws RX1 TX1 3
theorem nmX1 : ∀ a, a < 3 → ∀ b, b < 3 → a ≠ b → (TX1 a).2.1 ≠ (TX1 b).2.1 := by decide +kernel
theorem tyX1_ok : ∀ k, k < 3 → parseFieldDescriptor (TX1 k).2.2.1 = some (tyX1 k) := by decide +kernel
abbrev cX1_init : ByteArray := prog_3_method_1_code
def yX1_init : MethodName := ⟨RX1, "<init>", "()V"⟩
abbrev cX1_rise : ByteArray := prog_3_method_2_code
def yX1_rise : MethodName := ⟨RX1, "rise", "(I)V"⟩
abbrev cX1_fallTo : ByteArray := prog_3_method_3_code
def yX1_fallTo : MethodName := ⟨RX1, "fallTo", "(I)V"⟩
abbrev cX1_isGone : ByteArray := prog_3_method_4_code
def yX1_isGone : MethodName := ⟨RX1, "isGone", "(I)Z"⟩
abbrev cX1_isPrunable : ByteArray := prog_3_method_5_code
def yX1_isPrunable : MethodName := ⟨RX1, "isPrunable", "(II)Z"⟩
abbrev cX1_countPrunable : ByteArray := prog_3_method_6_code
def yX1_countPrunable : MethodName := ⟨RX1, "countPrunable", "(II)I"⟩
abbrev cX1_moveTo : ByteArray := prog_3_method_7_code
def yX1_moveTo : MethodName := ⟨RX1, "moveTo", "(III)V"⟩
abbrev cX1_relabel : ByteArray := prog_3_method_8_code
def yX1_relabel : MethodName := ⟨RX1, "relabel", "(II)V"⟩
abbrev cX1_countIn : ByteArray := prog_3_method_9_code
def yX1_countIn : MethodName := ⟨RX1, "countIn", "(I)I"⟩
abbrev cX1_keepsAny : ByteArray := prog_3_method_10_code
def yX1_keepsAny : MethodName := ⟨RX1, "keepsAny", "(II)Z"⟩
def RX2 : String := "HistoryRows$Rows"
def TX2 : u_T := fun k => match k with
  | 0 => ("HistoryRows$Rows", "heights", "[I", true)
  | 1 => ("HistoryRows$Rows", "leaves", "[I", true)
  | 2 => ("HistoryRows$Rows", "values", "[I", true)
  | 3 => ("HistoryRows$Rows", "calls", "[I", true)
  | 4 => ("HistoryRows$Rows", "places", "[I", true)
  | 5 => ("HistoryRows$Rows", "nextHeights", "[I", true)
  | _ => ("HistoryRows$Rows", "size", "I", false)
def tyX2 : Nat → FieldType := fun k => match k with
  | 0 => .array .int
  | 1 => .array .int
  | 2 => .array .int
  | 3 => .array .int
  | 4 => .array .int
  | 5 => .array .int
  | _ => .int
abbrev wsX20 : List Cond := u_ws RX2 TX2 7
theorem nmX2 : ∀ a, a < 7 → ∀ b, b < 7 → a ≠ b → (TX2 a).2.1 ≠ (TX2 b).2.1 := by decide +kernel
theorem tyX2_ok : ∀ k, k < 7 → parseFieldDescriptor (TX2 k).2.2.1 = some (tyX2 k) := by decide +kernel
abbrev cX2_init : ByteArray := prog_4_method_1_code
def yX2_init : MethodName := ⟨RX2, "<init>", "()V"⟩
abbrev cX2_add : ByteArray := prog_4_method_2_code
def yX2_add : MethodName := ⟨RX2, "add", "(IIII)V"⟩
abbrev cX2_isOf : ByteArray := prog_4_method_3_code
def yX2_isOf : MethodName := ⟨RX2, "isOf", "(II)Z"⟩
abbrev cX2_lastOf : ByteArray := prog_4_method_4_code
def yX2_lastOf : MethodName := ⟨RX2, "lastOf", "(II)I"⟩
abbrev cX2_find : ByteArray := prog_4_method_5_code
def yX2_find : MethodName := ⟨RX2, "find", "(II)I"⟩
abbrev cX2_load : ByteArray := prog_4_method_6_code
def yX2_load : MethodName := ⟨RX2, "load", "(I[I)V"⟩
abbrev cX2_redo : ByteArray := prog_4_method_7_code
def yX2_redo : MethodName := ⟨RX2, "redo", "(II[I)I"⟩
abbrev cX2_moveUnneededTo : ByteArray := prog_4_method_8_code
def yX2_moveUnneededTo : MethodName := ⟨RX2, "moveUnneededTo", "(ILHistoryRows$Heights;)V"⟩
abbrev cX2_takeFrom : ByteArray := prog_4_method_9_code
def yX2_takeFrom : MethodName := ⟨RX2, "takeFrom", "(I)I"⟩
abbrev cX2_removeArchived : ByteArray := prog_4_method_10_code
def yX2_removeArchived : MethodName := ⟨RX2, "removeArchived", "()I"⟩
abbrev cX2_removeAbove : ByteArray := prog_4_method_11_code
def yX2_removeAbove : MethodName := ⟨RX2, "removeAbove", "(I)I"⟩
abbrev cX2_countIn : ByteArray := prog_4_method_12_code
def yX2_countIn : MethodName := ⟨RX2, "countIn", "(I)I"⟩
abbrev cX2_copyRow : ByteArray := prog_4_method_13_code
def yX2_copyRow : MethodName := ⟨RX2, "copyRow", "(II)V"⟩
def RX3 : String := "HistoryRows$Tree"
def TX3 : u_T := fun k => match k with
  | _ => ("HistoryRows$Tree", "nodes", "[I", true)
def tyX3 : Nat → FieldType := fun k => match k with
  | _ => .array .int
abbrev wsX30 : List Cond := u_ws RX3 TX3 1
theorem nmX3 : ∀ a, a < 1 → ∀ b, b < 1 → a ≠ b → (TX3 a).2.1 ≠ (TX3 b).2.1 := by decide +kernel
theorem tyX3_ok : ∀ k, k < 1 → parseFieldDescriptor (TX3 k).2.2.1 = some (tyX3 k) := by decide +kernel
abbrev cX3_init : ByteArray := prog_5_method_1_code
def yX3_init : MethodName := ⟨RX3, "<init>", "()V"⟩
abbrev cX3_grow : ByteArray := prog_5_method_2_code
def yX3_grow : MethodName := ⟨RX3, "grow", "([I)I"⟩
abbrev cX3_beside : ByteArray := prog_5_method_3_code
def yX3_beside : MethodName := ⟨RX3, "beside", "(II)I"⟩
abbrev cX3_climb : ByteArray := prog_5_method_4_code
def yX3_climb : MethodName := ⟨RX3, "climb", "(II[I)I"⟩
abbrev cX3_ofLeaf : ByteArray := prog_5_method_5_code
def yX3_ofLeaf : MethodName := ⟨RX3, "ofLeaf", "(II)I"⟩
abbrev cX3_join : ByteArray := prog_5_method_6_code
def yX3_join : MethodName := ⟨RX3, "join", "(II)I"⟩
def RX4 : String := "HistoryRows"
def TX4 : u_T := fun k => match k with
  | 0 => ("HistoryRows", "rows", "LHistoryRows$Rows;", true)
  | 1 => ("HistoryRows", "heights", "LHistoryRows$Heights;", true)
  | 2 => ("HistoryRows", "block", "LHistoryRows$Block;", true)
  | 3 => ("HistoryRows", "tree", "LHistoryRows$Tree;", true)
  | 4 => ("HistoryRows", "laid", "[I", true)
  | 5 => ("HistoryRows", "oneState", "[I", true)
  | 6 => ("HistoryRows", "otherState", "[I", true)
  | 7 => ("HistoryRows", "step", "I", false)
  | _ => ("HistoryRows", "archives", "I", false)
def tyX4 : Nat → FieldType := fun k => match k with
  | 0 => .object "HistoryRows$Rows"
  | 1 => .object "HistoryRows$Heights"
  | 2 => .object "HistoryRows$Block"
  | 3 => .object "HistoryRows$Tree"
  | 4 => .array .int
  | 5 => .array .int
  | 6 => .array .int
  | 7 => .int
  | _ => .int
abbrev wsX40 : List Cond := u_ws RX4 TX4 9
theorem nmX4 : ∀ a, a < 9 → ∀ b, b < 9 → a ≠ b → (TX4 a).2.1 ≠ (TX4 b).2.1 := by decide +kernel
theorem tyX4_ok : ∀ k, k < 9 → parseFieldDescriptor (TX4 k).2.2.1 = some (tyX4 k) := by decide +kernel
abbrev cX4_init : ByteArray := prog_1_method_1_code
def yX4_init : MethodName := ⟨RX4, "<init>", "()V"⟩
abbrev cX4_write : ByteArray := prog_1_method_2_code
def yX4_write : MethodName := ⟨RX4, "write", "(III)I"⟩
abbrev cX4_seal : ByteArray := prog_1_method_3_code
def yX4_seal : MethodName := ⟨RX4, "seal", "()I"⟩
abbrev cX4_drop : ByteArray := prog_1_method_4_code
def yX4_drop : MethodName := ⟨RX4, "drop", "()I"⟩
abbrev cX4_at : ByteArray := prog_1_method_5_code
def yX4_at : MethodName := ⟨RX4, "at", "(II)J"⟩
abbrev cX4_now : ByteArray := prog_1_method_6_code
def yX4_now : MethodName := ⟨RX4, "now", "(I)J"⟩
abbrev cX4_digest : ByteArray := prog_1_method_7_code
def yX4_digest : MethodName := ⟨RX4, "digest", "(I)J"⟩
abbrev cX4_blame : ByteArray := prog_1_method_8_code
def yX4_blame : MethodName := ⟨RX4, "blame", "(III)I"⟩
abbrev cX4_first : ByteArray := prog_1_method_9_code
def yX4_first : MethodName := ⟨RX4, "first", "(II)I"⟩
abbrev cX4_differs : ByteArray := prog_1_method_10_code
def yX4_differs : MethodName := ⟨RX4, "differs", "(II)I"⟩
abbrev cX4_difference : ByteArray := prog_1_method_11_code
def yX4_difference : MethodName := ⟨RX4, "difference", "(III)I"⟩
abbrev cX4_rule : ByteArray := prog_1_method_12_code
def yX4_rule : MethodName := ⟨RX4, "rule", "(I)I"⟩
abbrev cX4_prune : ByteArray := prog_1_method_13_code
def yX4_prune : MethodName := ⟨RX4, "prune", "(I)I"⟩
abbrev cX4_pruned : ByteArray := prog_1_method_14_code
def yX4_pruned : MethodName := ⟨RX4, "pruned", "(I)I"⟩
abbrev cX4_bring : ByteArray := prog_1_method_15_code
def yX4_bring : MethodName := ⟨RX4, "bring", "()I"⟩
abbrev cX4_forget : ByteArray := prog_1_method_16_code
def yX4_forget : MethodName := ⟨RX4, "forget", "()I"⟩
abbrev cX4_archive : ByteArray := prog_1_method_17_code
def yX4_archive : MethodName := ⟨RX4, "archive", "(II)I"⟩
abbrev cX4_replay : ByteArray := prog_1_method_18_code
def yX4_replay : MethodName := ⟨RX4, "replay", "(II)J"⟩
abbrev cX4_replayed : ByteArray := prog_1_method_19_code
def yX4_replayed : MethodName := ⟨RX4, "replayed", "(II)I"⟩
abbrev cX4_proof : ByteArray := prog_1_method_20_code
def yX4_proof : MethodName := ⟨RX4, "proof", "(III)J"⟩
abbrev cX4_lay : ByteArray := prog_1_method_21_code
def yX4_lay : MethodName := ⟨RX4, "lay", "(II)I"⟩
abbrev cX4_proves : ByteArray := prog_1_method_22_code
def yX4_proves : MethodName := ⟨RX4, "proves", "(III)I"⟩
abbrev cX4_back : ByteArray := prog_1_method_23_code
def yX4_back : MethodName := ⟨RX4, "back", "(I)I"⟩
abbrev cX4_row : ByteArray := prog_1_method_24_code
def yX4_row : MethodName := ⟨RX4, "row", "(III)I"⟩
abbrev cX4_count : ByteArray := prog_1_method_25_code
def yX4_count : MethodName := ⟨RX4, "count", "(I)I"⟩
abbrev cX4_clear : ByteArray := prog_1_method_26_code
def yX4_clear : MethodName := ⟨RX4, "clear", "()I"⟩
abbrev cX4_begin : ByteArray := prog_1_method_27_code
def yX4_begin : MethodName := ⟨RX4, "begin", "()V"⟩
abbrev cX4_isLeaf : ByteArray := prog_1_method_28_code
def yX4_isLeaf : MethodName := ⟨RX4, "isLeaf", "(I)Z"⟩
abbrev cX4_isHeight : ByteArray := prog_1_method_29_code
def yX4_isHeight : MethodName := ⟨RX4, "isHeight", "(I)Z"⟩
abbrev cX4_wide : ByteArray := prog_1_method_30_code
def yX4_wide : MethodName := ⟨RX4, "wide", "(I)J"⟩
abbrev cX4_refusalOfTwo : ByteArray := prog_1_method_31_code
def yX4_refusalOfTwo : MethodName := ⟨RX4, "refusalOfTwo", "(II)I"⟩
abbrev cX4_refusalOfReplay : ByteArray := prog_1_method_32_code
def yX4_refusalOfReplay : MethodName := ⟨RX4, "refusalOfReplay", "(II)I"⟩
abbrev cX4_loadTwo : ByteArray := prog_1_method_33_code
def yX4_loadTwo : MethodName := ⟨RX4, "loadTwo", "(II)V"⟩
def RX5 : String := "HistoryRowsModel"
def TX5 : u_T := fun k => match k with
  | 0 => ("HistoryRowsModel", "height", "I", false)
  | 1 => ("HistoryRowsModel", "states", "[I", true)
  | 2 => ("HistoryRowsModel", "digests", "[I", true)
  | 3 => ("HistoryRowsModel", "prunedBy", "[I", true)
  | 4 => ("HistoryRowsModel", "writes", "I", false)
  | 5 => ("HistoryRowsModel", "writeCall", "[I", true)
  | 6 => ("HistoryRowsModel", "writeLeaf", "[I", true)
  | 7 => ("HistoryRowsModel", "writeValue", "[I", true)
  | 8 => ("HistoryRowsModel", "rows", "I", false)
  | 9 => ("HistoryRowsModel", "rowLeaf", "[I", true)
  | 10 => ("HistoryRowsModel", "rowHeight", "[I", true)
  | 11 => ("HistoryRowsModel", "rowValue", "[I", true)
  | 12 => ("HistoryRowsModel", "rowCall", "[I", true)
  | 13 => ("HistoryRowsModel", "rowIn", "[I", true)
  | 14 => ("HistoryRowsModel", "archives", "I", false)
  | 15 => ("HistoryRowsModel", "step", "I", false)
  | 16 => ("HistoryRowsModel", "laid", "[I", true)
  | _ => ("HistoryRowsModel", "tree", "[I", true)
def tyX5 : Nat → FieldType := fun k => match k with
  | 0 => .int
  | 1 => .array .int
  | 2 => .array .int
  | 3 => .array .int
  | 4 => .int
  | 5 => .array .int
  | 6 => .array .int
  | 7 => .array .int
  | 8 => .int
  | 9 => .array .int
  | 10 => .array .int
  | 11 => .array .int
  | 12 => .array .int
  | 13 => .array .int
  | 14 => .int
  | 15 => .int
  | 16 => .array .int
  | _ => .array .int
abbrev wsX50 : List Cond := u_ws RX5 TX5 18
theorem nmX5 : ∀ a, a < 18 → ∀ b, b < 18 → a ≠ b → (TX5 a).2.1 ≠ (TX5 b).2.1 := by decide +kernel
theorem tyX5_ok : ∀ k, k < 18 → parseFieldDescriptor (TX5 k).2.2.1 = some (tyX5 k) := by decide +kernel
abbrev cX5_init : ByteArray := prog_7_method_1_code
def yX5_init : MethodName := ⟨RX5, "<init>", "()V"⟩
abbrev cX5_in : ByteArray := prog_7_method_3_code
def yX5_in : MethodName := ⟨RX5, "in", "(III)Z"⟩
abbrev cX5_begin : ByteArray := prog_7_method_4_code
def yX5_begin : MethodName := ⟨RX5, "begin", "()V"⟩
abbrev cX5_isLeaf : ByteArray := prog_7_method_5_code
def yX5_isLeaf : MethodName := ⟨RX5, "isLeaf", "(I)Z"⟩
abbrev cX5_isHeight : ByteArray := prog_7_method_6_code
def yX5_isHeight : MethodName := ⟨RX5, "isHeight", "(I)Z"⟩
abbrev cX5_ofLeaf : ByteArray := prog_7_method_7_code
def yX5_ofLeaf : MethodName := ⟨RX5, "ofLeaf", "(II)I"⟩
abbrev cX5_ofTwo : ByteArray := prog_7_method_8_code
def yX5_ofTwo : MethodName := ⟨RX5, "ofTwo", "(II)I"⟩
abbrev cX5_digestOf : ByteArray := prog_7_method_9_code
def yX5_digestOf : MethodName := ⟨RX5, "digestOf", "(I)I"⟩
abbrev cX5_write : ByteArray := prog_7_method_10_code
def yX5_write : MethodName := ⟨RX5, "write", "(III)I"⟩
abbrev cX5_lastOf : ByteArray := prog_7_method_11_code
def yX5_lastOf : MethodName := ⟨RX5, "lastOf", "(I)I"⟩
abbrev cX5_nowOf : ByteArray := prog_7_method_12_code
def yX5_nowOf : MethodName := ⟨RX5, "nowOf", "(I)I"⟩
abbrev cX5_seal : ByteArray := prog_7_method_13_code
def yX5_seal : MethodName := ⟨RX5, "seal", "()I"⟩
abbrev cX5_drop : ByteArray := prog_7_method_14_code
def yX5_drop : MethodName := ⟨RX5, "drop", "()I"⟩
abbrev cX5_at : ByteArray := prog_7_method_15_code
def yX5_at : MethodName := ⟨RX5, "at", "(II)J"⟩
abbrev cX5_now : ByteArray := prog_7_method_16_code
def yX5_now : MethodName := ⟨RX5, "now", "(I)J"⟩
abbrev cX5_digest : ByteArray := prog_7_method_17_code
def yX5_digest : MethodName := ⟨RX5, "digest", "(I)J"⟩
abbrev cX5_blame : ByteArray := prog_7_method_18_code
def yX5_blame : MethodName := ⟨RX5, "blame", "(III)I"⟩
abbrev cX5_first : ByteArray := prog_7_method_19_code
def yX5_first : MethodName := ⟨RX5, "first", "(II)I"⟩
abbrev cX5_bars : ByteArray := prog_7_method_20_code
def yX5_bars : MethodName := ⟨RX5, "bars", "(II)I"⟩
abbrev cX5_differs : ByteArray := prog_7_method_21_code
def yX5_differs : MethodName := ⟨RX5, "differs", "(II)I"⟩
abbrev cX5_difference : ByteArray := prog_7_method_22_code
def yX5_difference : MethodName := ⟨RX5, "difference", "(III)I"⟩
abbrev cX5_rule : ByteArray := prog_7_method_23_code
def yX5_rule : MethodName := ⟨RX5, "rule", "(I)I"⟩
abbrev cX5_goes : ByteArray := prog_7_method_24_code
def yX5_goes : MethodName := ⟨RX5, "goes", "(I)Z"⟩
abbrev cX5_isNeeded : ByteArray := prog_7_method_25_code
def yX5_isNeeded : MethodName := ⟨RX5, "isNeeded", "(I)Z"⟩
abbrev cX5_prune : ByteArray := prog_7_method_26_code
def yX5_prune : MethodName := ⟨RX5, "prune", "(I)I"⟩
abbrev cX5_pruned : ByteArray := prog_7_method_27_code
def yX5_pruned : MethodName := ⟨RX5, "pruned", "(I)I"⟩
abbrev cX5_rowsIn : ByteArray := prog_7_method_28_code
def yX5_rowsIn : MethodName := ⟨RX5, "rowsIn", "(I)I"⟩
abbrev cX5_heightsBy : ByteArray := prog_7_method_29_code
def yX5_heightsBy : MethodName := ⟨RX5, "heightsBy", "(I)I"⟩
abbrev cX5_bring : ByteArray := prog_7_method_30_code
def yX5_bring : MethodName := ⟨RX5, "bring", "()I"⟩
abbrev cX5_squeeze : ByteArray := prog_7_method_31_code
def yX5_squeeze : MethodName := ⟨RX5, "squeeze", "(I)I"⟩
abbrev cX5_forget : ByteArray := prog_7_method_32_code
def yX5_forget : MethodName := ⟨RX5, "forget", "()I"⟩
abbrev cX5_archive : ByteArray := prog_7_method_33_code
def yX5_archive : MethodName := ⟨RX5, "archive", "(II)I"⟩
abbrev cX5_barsReplay : ByteArray := prog_7_method_34_code
def yX5_barsReplay : MethodName := ⟨RX5, "barsReplay", "(II)I"⟩
abbrev cX5_replay : ByteArray := prog_7_method_35_code
def yX5_replay : MethodName := ⟨RX5, "replay", "(II)J"⟩
abbrev cX5_replayed : ByteArray := prog_7_method_36_code
def yX5_replayed : MethodName := ⟨RX5, "replayed", "(II)I"⟩
abbrev cX5_proof : ByteArray := prog_7_method_37_code
def yX5_proof : MethodName := ⟨RX5, "proof", "(III)J"⟩
abbrev cX5_lay : ByteArray := prog_7_method_38_code
def yX5_lay : MethodName := ⟨RX5, "lay", "(II)I"⟩
abbrev cX5_proves : ByteArray := prog_7_method_39_code
def yX5_proves : MethodName := ⟨RX5, "proves", "(III)I"⟩
abbrev cX5_back : ByteArray := prog_7_method_40_code
def yX5_back : MethodName := ⟨RX5, "back", "(I)I"⟩
abbrev cX5_row : ByteArray := prog_7_method_41_code
def yX5_row : MethodName := ⟨RX5, "row", "(III)I"⟩
abbrev cX5_count : ByteArray := prog_7_method_42_code
def yX5_count : MethodName := ⟨RX5, "count", "(I)I"⟩
abbrev cX5_clear : ByteArray := prog_7_method_43_code
def yX5_clear : MethodName := ⟨RX5, "clear", "()I"⟩
def RJ7 : String := "java/util/Arrays"
def TJ7 : u_T := fun k => match k with
  | _ => ("", "", "", false)
def tyJ7 : Nat → FieldType := fun k => match k with
  | _ => .int
abbrev wsJ70 : List Cond := u_ws RJ7 TJ7 0
theorem nmJ7 : ∀ a, a < 0 → ∀ b, b < 0 → a ≠ b → (TJ7 a).2.1 ≠ (TJ7 b).2.1 := by decide +kernel
theorem tyJ7_ok : ∀ k, k < 0 → parseFieldDescriptor (TJ7 k).2.2.1 = some (tyJ7 k) := by decide +kernel
abbrev cJ7_fill_53178 : ByteArray := prog_8_method_103_code
def yJ7_fill_53178 : MethodName := ⟨RJ7, "fill", "([II)V"⟩
def RL : String := "HistoryRowsLaw"
abbrev cL_law : ByteArray := code
def yL_law : MethodName := ⟨RL, "law", "([I)Z"⟩
/-- the words that a callee may be given: those of the tables that stay -/
def tT : List Cond := lw_tbl.filter goodWord
theorem tT_good : ∀ w ∈ tT, goodWord w = true := fun w h => (List.mem_filter.mp h).2
theorem tT_sub : ∀ w ∈ tT, w ∈ lw_tbl := fun w h => (List.mem_filter.mp h).1
theorem iX0 : ∀ w ∈ u_ws RX0 TX0 5, w ∈ tT := by decide +kernel
theorem iX1 : ∀ w ∈ u_ws RX1 TX1 3, w ∈ tT := by decide +kernel
theorem iX2 : ∀ w ∈ u_ws RX2 TX2 7, w ∈ tT := by decide +kernel
theorem iX3 : ∀ w ∈ u_ws RX3 TX3 1, w ∈ tT := by decide +kernel
theorem iX4 : ∀ w ∈ u_ws RX4 TX4 9, w ∈ tT := by decide +kernel
theorem iX5 : ∀ w ∈ u_ws RX5 TX5 18, w ∈ tT := by decide +kernel
theorem kw_0 : Cond.selects RX4 yX4_begin yX4_begin ∈ tT := List.mem_filter.mpr ⟨List.mem_of_getElem? (i := 0) (by decide +kernel), by decide +kernel⟩
theorem kw_1 : Cond.selects RX4 yX4_isHeight yX4_isHeight ∈ tT := List.mem_filter.mpr ⟨List.mem_of_getElem? (i := 1) (by decide +kernel), by decide +kernel⟩
theorem kw_2 : Cond.selects RX4 yX4_refusalOfTwo yX4_refusalOfTwo ∈ tT := List.mem_filter.mpr ⟨List.mem_of_getElem? (i := 2) (by decide +kernel), by decide +kernel⟩
theorem kw_3 : Cond.selects RX4 yX4_loadTwo yX4_loadTwo ∈ tT := List.mem_filter.mpr ⟨List.mem_of_getElem? (i := 3) (by decide +kernel), by decide +kernel⟩
theorem kw_4 : Cond.selects RX2 yX2_copyRow yX2_copyRow ∈ tT := List.mem_filter.mpr ⟨List.mem_of_getElem? (i := 4) (by decide +kernel), by decide +kernel⟩
theorem kw_5 : Cond.selects RX4 yX4_refusalOfReplay yX4_refusalOfReplay ∈ tT := List.mem_filter.mpr ⟨List.mem_of_getElem? (i := 5) (by decide +kernel), by decide +kernel⟩
theorem kw_6 : Cond.selects RX5 yX5_begin yX5_begin ∈ tT := List.mem_filter.mpr ⟨List.mem_of_getElem? (i := 6) (by decide +kernel), by decide +kernel⟩
theorem kw_7 : Cond.selects RX5 yX5_digestOf yX5_digestOf ∈ tT := List.mem_filter.mpr ⟨List.mem_of_getElem? (i := 7) (by decide +kernel), by decide +kernel⟩
theorem kw_8 : Cond.selects RX5 yX5_nowOf yX5_nowOf ∈ tT := List.mem_filter.mpr ⟨List.mem_of_getElem? (i := 8) (by decide +kernel), by decide +kernel⟩
theorem kw_9 : Cond.selects RX5 yX5_lastOf yX5_lastOf ∈ tT := List.mem_filter.mpr ⟨List.mem_of_getElem? (i := 9) (by decide +kernel), by decide +kernel⟩
theorem kw_10 : Cond.selects RX5 yX5_isHeight yX5_isHeight ∈ tT := List.mem_filter.mpr ⟨List.mem_of_getElem? (i := 10) (by decide +kernel), by decide +kernel⟩
theorem kw_11 : Cond.selects RX5 yX5_bars yX5_bars ∈ tT := List.mem_filter.mpr ⟨List.mem_of_getElem? (i := 11) (by decide +kernel), by decide +kernel⟩
theorem kw_12 : Cond.selects RX5 yX5_goes yX5_goes ∈ tT := List.mem_filter.mpr ⟨List.mem_of_getElem? (i := 12) (by decide +kernel), by decide +kernel⟩
theorem kw_13 : Cond.selects RX5 yX5_isNeeded yX5_isNeeded ∈ tT := List.mem_filter.mpr ⟨List.mem_of_getElem? (i := 13) (by decide +kernel), by decide +kernel⟩
theorem kw_14 : Cond.selects RX5 yX5_squeeze yX5_squeeze ∈ tT := List.mem_filter.mpr ⟨List.mem_of_getElem? (i := 14) (by decide +kernel), by decide +kernel⟩
theorem kw_15 : Cond.selects RX5 yX5_rowsIn yX5_rowsIn ∈ tT := List.mem_filter.mpr ⟨List.mem_of_getElem? (i := 15) (by decide +kernel), by decide +kernel⟩
theorem kw_16 : Cond.selects RX5 yX5_heightsBy yX5_heightsBy ∈ tT := List.mem_filter.mpr ⟨List.mem_of_getElem? (i := 16) (by decide +kernel), by decide +kernel⟩
theorem kw_17 : Cond.selects RX5 yX5_barsReplay yX5_barsReplay ∈ tT := List.mem_filter.mpr ⟨List.mem_of_getElem? (i := 17) (by decide +kernel), by decide +kernel⟩
theorem kw_18 : Cond.initialized RL ∈ tT := List.mem_filter.mpr ⟨List.mem_of_getElem? (i := 18) (by decide +kernel), by decide +kernel⟩
theorem kw_19 : Cond.initialized RX4 ∈ tT := List.mem_filter.mpr ⟨List.mem_of_getElem? (i := 19) (by decide +kernel), by decide +kernel⟩
theorem kw_20 : Cond.initialized RX2 ∈ tT := List.mem_filter.mpr ⟨List.mem_of_getElem? (i := 20) (by decide +kernel), by decide +kernel⟩
theorem kw_21 : Cond.initialized RX1 ∈ tT := List.mem_filter.mpr ⟨List.mem_of_getElem? (i := 21) (by decide +kernel), by decide +kernel⟩
theorem kw_22 : Cond.initialized RX0 ∈ tT := List.mem_filter.mpr ⟨List.mem_of_getElem? (i := 22) (by decide +kernel), by decide +kernel⟩
theorem kw_23 : Cond.initialized RX3 ∈ tT := List.mem_filter.mpr ⟨List.mem_of_getElem? (i := 23) (by decide +kernel), by decide +kernel⟩
theorem kw_24 : Cond.initialized RJ7 ∈ tT := List.mem_filter.mpr ⟨List.mem_of_getElem? (i := 24) (by decide +kernel), by decide +kernel⟩
theorem kw_25 : Cond.initialized RX5 ∈ tT := List.mem_filter.mpr ⟨List.mem_of_getElem? (i := 25) (by decide +kernel), by decide +kernel⟩
theorem kw_26 : Cond.classLink RL 7 RX4 ∈ tT := List.mem_filter.mpr ⟨List.mem_of_getElem? (i := 26) (by decide +kernel), by decide +kernel⟩
theorem kw_27 : Cond.instantiable RX4 9 ∈ tT := List.mem_filter.mpr ⟨List.mem_of_getElem? (i := 27) (by decide +kernel), by decide +kernel⟩
theorem kw_28 : Cond.methodLink RL 9 yX4_init ∈ tT := List.mem_filter.mpr ⟨List.mem_of_getElem? (i := 28) (by decide +kernel), by decide +kernel⟩
theorem kw_29 : Cond.instanceMethod yX4_init ∈ tT := List.mem_filter.mpr ⟨List.mem_of_getElem? (i := 29) (by decide +kernel), by decide +kernel⟩
theorem kw_30 : Cond.code yX4_init cX4_init 1 none ∈ tT := List.mem_filter.mpr ⟨List.mem_of_getElem? (i := 30) (by decide +kernel), by decide +kernel⟩
theorem kw_31 : Cond.methodLink RX4 3 objectInit ∈ tT := List.mem_filter.mpr ⟨List.mem_of_getElem? (i := 31) (by decide +kernel), by decide +kernel⟩
theorem kw_32 : Cond.instanceMethod objectInit ∈ tT := List.mem_filter.mpr ⟨List.mem_of_getElem? (i := 32) (by decide +kernel), by decide +kernel⟩
theorem kw_33 : Cond.code objectInit ⟨#[0xb1]⟩ 1 none ∈ tT := List.mem_filter.mpr ⟨List.mem_of_getElem? (i := 33) (by decide +kernel), by decide +kernel⟩
theorem kw_34 : Cond.classLink RX4 9 RX2 ∈ tT := List.mem_filter.mpr ⟨List.mem_of_getElem? (i := 34) (by decide +kernel), by decide +kernel⟩
theorem kw_35 : Cond.instantiable RX2 7 ∈ tT := List.mem_filter.mpr ⟨List.mem_of_getElem? (i := 35) (by decide +kernel), by decide +kernel⟩
theorem kn_36 : Cond.methodLinkNest RX4 11 yX2_init "HistoryRows" ∈ lw_tbl := List.mem_of_getElem? (i := 36) (by decide +kernel)
theorem kw_37 : Cond.instanceMethod yX2_init ∈ tT := List.mem_filter.mpr ⟨List.mem_of_getElem? (i := 37) (by decide +kernel), by decide +kernel⟩
theorem kw_38 : Cond.code yX2_init cX2_init 1 none ∈ tT := List.mem_filter.mpr ⟨List.mem_of_getElem? (i := 38) (by decide +kernel), by decide +kernel⟩
theorem kw_39 : Cond.methodLink RX2 3 objectInit ∈ tT := List.mem_filter.mpr ⟨List.mem_of_getElem? (i := 39) (by decide +kernel), by decide +kernel⟩
theorem kw_40 : Cond.fieldLink RX2 9 "HistoryRows$Rows" "heights" "[I" ∈ tT := List.mem_filter.mpr ⟨List.mem_of_getElem? (i := 40) (by decide +kernel), by decide +kernel⟩
theorem kw_41 : Cond.fieldLink RX4 124 "HistoryRows$Rows" "heights" "[I" ∈ tT := List.mem_filter.mpr ⟨List.mem_of_getElem? (i := 41) (by decide +kernel), by decide +kernel⟩
theorem kw_42 : Cond.fieldLink RX2 15 "HistoryRows$Rows" "leaves" "[I" ∈ tT := List.mem_filter.mpr ⟨List.mem_of_getElem? (i := 42) (by decide +kernel), by decide +kernel⟩
theorem kw_43 : Cond.fieldLink RX2 18 "HistoryRows$Rows" "values" "[I" ∈ tT := List.mem_filter.mpr ⟨List.mem_of_getElem? (i := 43) (by decide +kernel), by decide +kernel⟩
theorem kw_44 : Cond.fieldLink RX4 117 "HistoryRows$Rows" "values" "[I" ∈ tT := List.mem_filter.mpr ⟨List.mem_of_getElem? (i := 44) (by decide +kernel), by decide +kernel⟩
theorem kw_45 : Cond.fieldLink RX2 21 "HistoryRows$Rows" "calls" "[I" ∈ tT := List.mem_filter.mpr ⟨List.mem_of_getElem? (i := 45) (by decide +kernel), by decide +kernel⟩
theorem kw_46 : Cond.fieldLink RX4 123 "HistoryRows$Rows" "calls" "[I" ∈ tT := List.mem_filter.mpr ⟨List.mem_of_getElem? (i := 46) (by decide +kernel), by decide +kernel⟩
theorem kw_47 : Cond.fieldLink RX2 24 "HistoryRows$Rows" "places" "[I" ∈ tT := List.mem_filter.mpr ⟨List.mem_of_getElem? (i := 47) (by decide +kernel), by decide +kernel⟩
theorem kw_48 : Cond.fieldLink RX2 27 "HistoryRows$Rows" "nextHeights" "[I" ∈ tT := List.mem_filter.mpr ⟨List.mem_of_getElem? (i := 48) (by decide +kernel), by decide +kernel⟩
theorem kw_49 : Cond.fieldLink RX2 30 "HistoryRows$Rows" "size" "I" ∈ tT := List.mem_filter.mpr ⟨List.mem_of_getElem? (i := 49) (by decide +kernel), by decide +kernel⟩
theorem kw_50 : Cond.fieldLink RX4 68 "HistoryRows$Rows" "size" "I" ∈ tT := List.mem_filter.mpr ⟨List.mem_of_getElem? (i := 50) (by decide +kernel), by decide +kernel⟩
theorem kw_66 : Cond.arrayClass .int ∈ tT := List.mem_filter.mpr ⟨List.mem_of_getElem? (i := 66) (by decide +kernel), by decide +kernel⟩
theorem kw_67 : Cond.classLink RX4 16 RX1 ∈ tT := List.mem_filter.mpr ⟨List.mem_of_getElem? (i := 67) (by decide +kernel), by decide +kernel⟩
theorem kw_68 : Cond.instantiable RX1 3 ∈ tT := List.mem_filter.mpr ⟨List.mem_of_getElem? (i := 68) (by decide +kernel), by decide +kernel⟩
theorem kn_69 : Cond.methodLinkNest RX4 18 yX1_init "HistoryRows" ∈ lw_tbl := List.mem_of_getElem? (i := 69) (by decide +kernel)
theorem kw_70 : Cond.instanceMethod yX1_init ∈ tT := List.mem_filter.mpr ⟨List.mem_of_getElem? (i := 70) (by decide +kernel), by decide +kernel⟩
theorem kw_71 : Cond.code yX1_init cX1_init 1 none ∈ tT := List.mem_filter.mpr ⟨List.mem_of_getElem? (i := 71) (by decide +kernel), by decide +kernel⟩
theorem kw_72 : Cond.methodLink RX1 3 objectInit ∈ tT := List.mem_filter.mpr ⟨List.mem_of_getElem? (i := 72) (by decide +kernel), by decide +kernel⟩
theorem kw_73 : Cond.fieldLink RX1 9 "HistoryRows$Heights" "digests" "[I" ∈ tT := List.mem_filter.mpr ⟨List.mem_of_getElem? (i := 73) (by decide +kernel), by decide +kernel⟩
theorem kw_74 : Cond.fieldLink RX4 120 "HistoryRows$Heights" "digests" "[I" ∈ tT := List.mem_filter.mpr ⟨List.mem_of_getElem? (i := 74) (by decide +kernel), by decide +kernel⟩
theorem kw_75 : Cond.fieldLink RX1 15 "HistoryRows$Heights" "places" "[I" ∈ tT := List.mem_filter.mpr ⟨List.mem_of_getElem? (i := 75) (by decide +kernel), by decide +kernel⟩
theorem kw_76 : Cond.fieldLink RX1 18 "HistoryRows$Heights" "top" "I" ∈ tT := List.mem_filter.mpr ⟨List.mem_of_getElem? (i := 76) (by decide +kernel), by decide +kernel⟩
theorem kw_77 : Cond.fieldLink RX4 65 "HistoryRows$Heights" "top" "I" ∈ tT := List.mem_filter.mpr ⟨List.mem_of_getElem? (i := 77) (by decide +kernel), by decide +kernel⟩
theorem kw_78 : Cond.fieldLink RX2 48 "HistoryRows$Heights" "top" "I" ∈ tT := List.mem_filter.mpr ⟨List.mem_of_getElem? (i := 78) (by decide +kernel), by decide +kernel⟩
theorem kw_86 : Cond.classLink RX4 23 RX0 ∈ tT := List.mem_filter.mpr ⟨List.mem_of_getElem? (i := 86) (by decide +kernel), by decide +kernel⟩
theorem kw_87 : Cond.instantiable RX0 5 ∈ tT := List.mem_filter.mpr ⟨List.mem_of_getElem? (i := 87) (by decide +kernel), by decide +kernel⟩
theorem kn_88 : Cond.methodLinkNest RX4 25 yX0_init "HistoryRows" ∈ lw_tbl := List.mem_of_getElem? (i := 88) (by decide +kernel)
theorem kw_89 : Cond.instanceMethod yX0_init ∈ tT := List.mem_filter.mpr ⟨List.mem_of_getElem? (i := 89) (by decide +kernel), by decide +kernel⟩
theorem kw_90 : Cond.code yX0_init cX0_init 1 none ∈ tT := List.mem_filter.mpr ⟨List.mem_of_getElem? (i := 90) (by decide +kernel), by decide +kernel⟩
theorem kw_91 : Cond.methodLink RX0 3 objectInit ∈ tT := List.mem_filter.mpr ⟨List.mem_of_getElem? (i := 91) (by decide +kernel), by decide +kernel⟩
theorem kw_92 : Cond.fieldLink RX0 9 "HistoryRows$Block" "ahead" "[I" ∈ tT := List.mem_filter.mpr ⟨List.mem_of_getElem? (i := 92) (by decide +kernel), by decide +kernel⟩
theorem kw_93 : Cond.fieldLink RX4 100 "HistoryRows$Block" "ahead" "[I" ∈ tT := List.mem_filter.mpr ⟨List.mem_of_getElem? (i := 93) (by decide +kernel), by decide +kernel⟩
theorem kw_94 : Cond.fieldLink RX0 15 "HistoryRows$Block" "behind" "[I" ∈ tT := List.mem_filter.mpr ⟨List.mem_of_getElem? (i := 94) (by decide +kernel), by decide +kernel⟩
theorem kw_95 : Cond.fieldLink RX4 78 "HistoryRows$Block" "behind" "[I" ∈ tT := List.mem_filter.mpr ⟨List.mem_of_getElem? (i := 95) (by decide +kernel), by decide +kernel⟩
theorem kw_96 : Cond.fieldLink RX0 18 "HistoryRows$Block" "calls" "[I" ∈ tT := List.mem_filter.mpr ⟨List.mem_of_getElem? (i := 96) (by decide +kernel), by decide +kernel⟩
theorem kw_97 : Cond.fieldLink RX4 81 "HistoryRows$Block" "calls" "[I" ∈ tT := List.mem_filter.mpr ⟨List.mem_of_getElem? (i := 97) (by decide +kernel), by decide +kernel⟩
theorem kw_98 : Cond.fieldLink RX0 21 "HistoryRows$Block" "writes" "I" ∈ tT := List.mem_filter.mpr ⟨List.mem_of_getElem? (i := 98) (by decide +kernel), by decide +kernel⟩
theorem kw_99 : Cond.fieldLink RX4 58 "HistoryRows$Block" "writes" "I" ∈ tT := List.mem_filter.mpr ⟨List.mem_of_getElem? (i := 99) (by decide +kernel), by decide +kernel⟩
theorem kw_100 : Cond.fieldLink RX4 54 "HistoryRows$Block" "lastCall" "I" ∈ tT := List.mem_filter.mpr ⟨List.mem_of_getElem? (i := 100) (by decide +kernel), by decide +kernel⟩
theorem kw_101 : Cond.fieldLink RX0 25 "HistoryRows$Block" "lastCall" "I" ∈ tT := List.mem_filter.mpr ⟨List.mem_of_getElem? (i := 101) (by decide +kernel), by decide +kernel⟩
theorem kw_113 : Cond.classLink RX4 30 RX3 ∈ tT := List.mem_filter.mpr ⟨List.mem_of_getElem? (i := 113) (by decide +kernel), by decide +kernel⟩
theorem kw_114 : Cond.instantiable RX3 1 ∈ tT := List.mem_filter.mpr ⟨List.mem_of_getElem? (i := 114) (by decide +kernel), by decide +kernel⟩
theorem kn_115 : Cond.methodLinkNest RX4 32 yX3_init "HistoryRows" ∈ lw_tbl := List.mem_of_getElem? (i := 115) (by decide +kernel)
theorem kw_116 : Cond.instanceMethod yX3_init ∈ tT := List.mem_filter.mpr ⟨List.mem_of_getElem? (i := 116) (by decide +kernel), by decide +kernel⟩
theorem kw_117 : Cond.code yX3_init cX3_init 1 none ∈ tT := List.mem_filter.mpr ⟨List.mem_of_getElem? (i := 117) (by decide +kernel), by decide +kernel⟩
theorem kw_118 : Cond.methodLink RX3 3 objectInit ∈ tT := List.mem_filter.mpr ⟨List.mem_of_getElem? (i := 118) (by decide +kernel), by decide +kernel⟩
theorem kw_119 : Cond.fieldLink RX3 9 "HistoryRows$Tree" "nodes" "[I" ∈ tT := List.mem_filter.mpr ⟨List.mem_of_getElem? (i := 119) (by decide +kernel), by decide +kernel⟩
theorem kw_123 : Cond.methodLink RX4 47 yX4_begin ∈ tT := List.mem_filter.mpr ⟨List.mem_of_getElem? (i := 123) (by decide +kernel), by decide +kernel⟩
theorem kw_125 : Cond.instanceMethod yX4_begin ∈ tT := List.mem_filter.mpr ⟨List.mem_of_getElem? (i := 125) (by decide +kernel), by decide +kernel⟩
theorem kw_126 : Cond.code yX4_begin cX4_begin 1 none ∈ tT := List.mem_filter.mpr ⟨List.mem_of_getElem? (i := 126) (by decide +kernel), by decide +kernel⟩
theorem kw_127 : Cond.methodLink RX4 193 yJ7_fill_53178 ∈ tT := List.mem_filter.mpr ⟨List.mem_of_getElem? (i := 127) (by decide +kernel), by decide +kernel⟩
theorem kw_128 : Cond.static yJ7_fill_53178 ∈ tT := List.mem_filter.mpr ⟨List.mem_of_getElem? (i := 128) (by decide +kernel), by decide +kernel⟩
theorem kw_129 : Cond.code yJ7_fill_53178 cJ7_fill_53178 4 none ∈ tT := List.mem_filter.mpr ⟨List.mem_of_getElem? (i := 129) (by decide +kernel), by decide +kernel⟩
theorem kw_130 : Cond.methodLink RX4 96 yX0_startFrom ∈ tT := List.mem_filter.mpr ⟨List.mem_of_getElem? (i := 130) (by decide +kernel), by decide +kernel⟩
theorem kw_131 : Cond.instanceMethod yX0_startFrom ∈ tT := List.mem_filter.mpr ⟨List.mem_of_getElem? (i := 131) (by decide +kernel), by decide +kernel⟩
theorem kw_132 : Cond.selects RX0 yX0_startFrom yX0_startFrom ∈ tT := List.mem_filter.mpr ⟨List.mem_of_getElem? (i := 132) (by decide +kernel), by decide +kernel⟩
theorem kw_133 : Cond.code yX0_startFrom cX0_startFrom 3 none ∈ tT := List.mem_filter.mpr ⟨List.mem_of_getElem? (i := 133) (by decide +kernel), by decide +kernel⟩
theorem kw_134 : Cond.methodLink RX4 88 yX3_grow ∈ tT := List.mem_filter.mpr ⟨List.mem_of_getElem? (i := 134) (by decide +kernel), by decide +kernel⟩
theorem kw_135 : Cond.instanceMethod yX3_grow ∈ tT := List.mem_filter.mpr ⟨List.mem_of_getElem? (i := 135) (by decide +kernel), by decide +kernel⟩
theorem kw_136 : Cond.selects RX3 yX3_grow yX3_grow ∈ tT := List.mem_filter.mpr ⟨List.mem_of_getElem? (i := 136) (by decide +kernel), by decide +kernel⟩
theorem kw_137 : Cond.code yX3_grow cX3_grow 3 (some .int) ∈ tT := List.mem_filter.mpr ⟨List.mem_of_getElem? (i := 137) (by decide +kernel), by decide +kernel⟩
theorem kw_138 : Cond.methodLink RX3 15 yX3_ofLeaf ∈ tT := List.mem_filter.mpr ⟨List.mem_of_getElem? (i := 138) (by decide +kernel), by decide +kernel⟩
theorem kw_139 : Cond.static yX3_ofLeaf ∈ tT := List.mem_filter.mpr ⟨List.mem_of_getElem? (i := 139) (by decide +kernel), by decide +kernel⟩
theorem kw_140 : Cond.code yX3_ofLeaf cX3_ofLeaf 2 (some .int) ∈ tT := List.mem_filter.mpr ⟨List.mem_of_getElem? (i := 140) (by decide +kernel), by decide +kernel⟩
theorem kw_141 : Cond.methodLink RX3 19 yX3_join ∈ tT := List.mem_filter.mpr ⟨List.mem_of_getElem? (i := 141) (by decide +kernel), by decide +kernel⟩
theorem kw_142 : Cond.static yX3_join ∈ tT := List.mem_filter.mpr ⟨List.mem_of_getElem? (i := 142) (by decide +kernel), by decide +kernel⟩
theorem kw_143 : Cond.code yX3_join cX3_join 3 (some .int) ∈ tT := List.mem_filter.mpr ⟨List.mem_of_getElem? (i := 143) (by decide +kernel), by decide +kernel⟩
theorem kw_144 : Cond.constant RX3 22 (739982445) ∈ tT := List.mem_filter.mpr ⟨List.mem_of_getElem? (i := 144) (by decide +kernel), by decide +kernel⟩
theorem kw_145 : Cond.methodLink RX4 92 yX1_rise ∈ tT := List.mem_filter.mpr ⟨List.mem_of_getElem? (i := 145) (by decide +kernel), by decide +kernel⟩
theorem kw_146 : Cond.instanceMethod yX1_rise ∈ tT := List.mem_filter.mpr ⟨List.mem_of_getElem? (i := 146) (by decide +kernel), by decide +kernel⟩
theorem kw_147 : Cond.selects RX1 yX1_rise yX1_rise ∈ tT := List.mem_filter.mpr ⟨List.mem_of_getElem? (i := 147) (by decide +kernel), by decide +kernel⟩
theorem kw_148 : Cond.code yX1_rise cX1_rise 2 none ∈ tT := List.mem_filter.mpr ⟨List.mem_of_getElem? (i := 148) (by decide +kernel), by decide +kernel⟩
theorem kw_149 : Cond.fieldLink RX4 12 "HistoryRows" "rows" "LHistoryRows$Rows;" ∈ tT := List.mem_filter.mpr ⟨List.mem_of_getElem? (i := 149) (by decide +kernel), by decide +kernel⟩
theorem kw_150 : Cond.fieldLink RX4 19 "HistoryRows" "heights" "LHistoryRows$Heights;" ∈ tT := List.mem_filter.mpr ⟨List.mem_of_getElem? (i := 150) (by decide +kernel), by decide +kernel⟩
theorem kw_151 : Cond.fieldLink RX4 26 "HistoryRows" "block" "LHistoryRows$Block;" ∈ tT := List.mem_filter.mpr ⟨List.mem_of_getElem? (i := 151) (by decide +kernel), by decide +kernel⟩
theorem kw_152 : Cond.fieldLink RX4 33 "HistoryRows" "tree" "LHistoryRows$Tree;" ∈ tT := List.mem_filter.mpr ⟨List.mem_of_getElem? (i := 152) (by decide +kernel), by decide +kernel⟩
theorem kw_153 : Cond.fieldLink RX4 37 "HistoryRows" "laid" "[I" ∈ tT := List.mem_filter.mpr ⟨List.mem_of_getElem? (i := 153) (by decide +kernel), by decide +kernel⟩
theorem kw_154 : Cond.fieldLink RX4 41 "HistoryRows" "oneState" "[I" ∈ tT := List.mem_filter.mpr ⟨List.mem_of_getElem? (i := 154) (by decide +kernel), by decide +kernel⟩
theorem kw_155 : Cond.fieldLink RX4 44 "HistoryRows" "otherState" "[I" ∈ tT := List.mem_filter.mpr ⟨List.mem_of_getElem? (i := 155) (by decide +kernel), by decide +kernel⟩
theorem kw_156 : Cond.fieldLink RX4 137 "HistoryRows" "step" "I" ∈ tT := List.mem_filter.mpr ⟨List.mem_of_getElem? (i := 156) (by decide +kernel), by decide +kernel⟩
theorem kw_157 : Cond.fieldLink RX4 143 "HistoryRows" "archives" "I" ∈ tT := List.mem_filter.mpr ⟨List.mem_of_getElem? (i := 157) (by decide +kernel), by decide +kernel⟩
theorem kw_177 : Cond.methodLink RL 13 yX4_write ∈ tT := List.mem_filter.mpr ⟨List.mem_of_getElem? (i := 177) (by decide +kernel), by decide +kernel⟩
theorem kw_178 : Cond.instanceMethod yX4_write ∈ tT := List.mem_filter.mpr ⟨List.mem_of_getElem? (i := 178) (by decide +kernel), by decide +kernel⟩
theorem kw_179 : Cond.selects RX4 yX4_write yX4_write ∈ tT := List.mem_filter.mpr ⟨List.mem_of_getElem? (i := 179) (by decide +kernel), by decide +kernel⟩
theorem kw_180 : Cond.code yX4_write cX4_write 4 (some .int) ∈ tT := List.mem_filter.mpr ⟨List.mem_of_getElem? (i := 180) (by decide +kernel), by decide +kernel⟩
theorem kw_181 : Cond.methodLink RX4 50 yX4_isLeaf ∈ tT := List.mem_filter.mpr ⟨List.mem_of_getElem? (i := 181) (by decide +kernel), by decide +kernel⟩
theorem kw_182 : Cond.static yX4_isLeaf ∈ tT := List.mem_filter.mpr ⟨List.mem_of_getElem? (i := 182) (by decide +kernel), by decide +kernel⟩
theorem kw_183 : Cond.code yX4_isLeaf cX4_isLeaf 1 (some .boolean) ∈ tT := List.mem_filter.mpr ⟨List.mem_of_getElem? (i := 183) (by decide +kernel), by decide +kernel⟩
theorem kw_184 : Cond.methodLink RX4 61 yX0_put ∈ tT := List.mem_filter.mpr ⟨List.mem_of_getElem? (i := 184) (by decide +kernel), by decide +kernel⟩
theorem kw_185 : Cond.instanceMethod yX0_put ∈ tT := List.mem_filter.mpr ⟨List.mem_of_getElem? (i := 185) (by decide +kernel), by decide +kernel⟩
theorem kw_186 : Cond.selects RX0 yX0_put yX0_put ∈ tT := List.mem_filter.mpr ⟨List.mem_of_getElem? (i := 186) (by decide +kernel), by decide +kernel⟩
theorem kw_187 : Cond.code yX0_put cX0_put 4 none ∈ tT := List.mem_filter.mpr ⟨List.mem_of_getElem? (i := 187) (by decide +kernel), by decide +kernel⟩
theorem kw_188 : Cond.methodLink RL 18 yX4_seal ∈ tT := List.mem_filter.mpr ⟨List.mem_of_getElem? (i := 188) (by decide +kernel), by decide +kernel⟩
theorem kw_189 : Cond.instanceMethod yX4_seal ∈ tT := List.mem_filter.mpr ⟨List.mem_of_getElem? (i := 189) (by decide +kernel), by decide +kernel⟩
theorem kw_190 : Cond.selects RX4 yX4_seal yX4_seal ∈ tT := List.mem_filter.mpr ⟨List.mem_of_getElem? (i := 190) (by decide +kernel), by decide +kernel⟩
theorem kw_191 : Cond.code yX4_seal cX4_seal 2 (some .int) ∈ tT := List.mem_filter.mpr ⟨List.mem_of_getElem? (i := 191) (by decide +kernel), by decide +kernel⟩
theorem kw_192 : Cond.methodLink RX4 71 yX0_changes ∈ tT := List.mem_filter.mpr ⟨List.mem_of_getElem? (i := 192) (by decide +kernel), by decide +kernel⟩
theorem kw_193 : Cond.instanceMethod yX0_changes ∈ tT := List.mem_filter.mpr ⟨List.mem_of_getElem? (i := 193) (by decide +kernel), by decide +kernel⟩
theorem kw_194 : Cond.selects RX0 yX0_changes yX0_changes ∈ tT := List.mem_filter.mpr ⟨List.mem_of_getElem? (i := 194) (by decide +kernel), by decide +kernel⟩
theorem kw_195 : Cond.code yX0_changes cX0_changes 3 (some .int) ∈ tT := List.mem_filter.mpr ⟨List.mem_of_getElem? (i := 195) (by decide +kernel), by decide +kernel⟩
theorem kw_196 : Cond.methodLink RX0 28 yX0_changesLeaf ∈ tT := List.mem_filter.mpr ⟨List.mem_of_getElem? (i := 196) (by decide +kernel), by decide +kernel⟩
theorem kw_197 : Cond.instanceMethod yX0_changesLeaf ∈ tT := List.mem_filter.mpr ⟨List.mem_of_getElem? (i := 197) (by decide +kernel), by decide +kernel⟩
theorem kw_198 : Cond.selects RX0 yX0_changesLeaf yX0_changesLeaf ∈ tT := List.mem_filter.mpr ⟨List.mem_of_getElem? (i := 198) (by decide +kernel), by decide +kernel⟩
theorem kw_199 : Cond.code yX0_changesLeaf cX0_changesLeaf 2 (some .boolean) ∈ tT := List.mem_filter.mpr ⟨List.mem_of_getElem? (i := 199) (by decide +kernel), by decide +kernel⟩
theorem kw_200 : Cond.methodLink RX4 75 yX0_changesLeaf ∈ tT := List.mem_filter.mpr ⟨List.mem_of_getElem? (i := 200) (by decide +kernel), by decide +kernel⟩
theorem kw_201 : Cond.methodLink RX4 84 yX2_add ∈ tT := List.mem_filter.mpr ⟨List.mem_of_getElem? (i := 201) (by decide +kernel), by decide +kernel⟩
theorem kw_202 : Cond.instanceMethod yX2_add ∈ tT := List.mem_filter.mpr ⟨List.mem_of_getElem? (i := 202) (by decide +kernel), by decide +kernel⟩
theorem kw_203 : Cond.selects RX2 yX2_add yX2_add ∈ tT := List.mem_filter.mpr ⟨List.mem_of_getElem? (i := 203) (by decide +kernel), by decide +kernel⟩
theorem kw_204 : Cond.code yX2_add cX2_add 5 none ∈ tT := List.mem_filter.mpr ⟨List.mem_of_getElem? (i := 204) (by decide +kernel), by decide +kernel⟩
theorem kw_205 : Cond.methodLink RL 23 yX4_drop ∈ tT := List.mem_filter.mpr ⟨List.mem_of_getElem? (i := 205) (by decide +kernel), by decide +kernel⟩
theorem kw_206 : Cond.instanceMethod yX4_drop ∈ tT := List.mem_filter.mpr ⟨List.mem_of_getElem? (i := 206) (by decide +kernel), by decide +kernel⟩
theorem kw_207 : Cond.selects RX4 yX4_drop yX4_drop ∈ tT := List.mem_filter.mpr ⟨List.mem_of_getElem? (i := 207) (by decide +kernel), by decide +kernel⟩
theorem kw_208 : Cond.code yX4_drop cX4_drop 2 (some .int) ∈ tT := List.mem_filter.mpr ⟨List.mem_of_getElem? (i := 208) (by decide +kernel), by decide +kernel⟩
theorem kw_209 : Cond.methodLink RL 27 yX4_at ∈ tT := List.mem_filter.mpr ⟨List.mem_of_getElem? (i := 209) (by decide +kernel), by decide +kernel⟩
theorem kw_210 : Cond.instanceMethod yX4_at ∈ tT := List.mem_filter.mpr ⟨List.mem_of_getElem? (i := 210) (by decide +kernel), by decide +kernel⟩
theorem kw_211 : Cond.selects RX4 yX4_at yX4_at ∈ tT := List.mem_filter.mpr ⟨List.mem_of_getElem? (i := 211) (by decide +kernel), by decide +kernel⟩
theorem kw_212 : Cond.code yX4_at cX4_at 4 (some .long) ∈ tT := List.mem_filter.mpr ⟨List.mem_of_getElem? (i := 212) (by decide +kernel), by decide +kernel⟩
theorem kw_213 : Cond.methodLink RX4 103 yX4_isHeight ∈ tT := List.mem_filter.mpr ⟨List.mem_of_getElem? (i := 213) (by decide +kernel), by decide +kernel⟩
theorem kw_215 : Cond.instanceMethod yX4_isHeight ∈ tT := List.mem_filter.mpr ⟨List.mem_of_getElem? (i := 215) (by decide +kernel), by decide +kernel⟩
theorem kw_216 : Cond.code yX4_isHeight cX4_isHeight 2 (some .boolean) ∈ tT := List.mem_filter.mpr ⟨List.mem_of_getElem? (i := 216) (by decide +kernel), by decide +kernel⟩
theorem kw_217 : Cond.methodLink RX4 106 yX4_wide ∈ tT := List.mem_filter.mpr ⟨List.mem_of_getElem? (i := 217) (by decide +kernel), by decide +kernel⟩
theorem kw_218 : Cond.static yX4_wide ∈ tT := List.mem_filter.mpr ⟨List.mem_of_getElem? (i := 218) (by decide +kernel), by decide +kernel⟩
theorem kw_219 : Cond.code yX4_wide cX4_wide 1 (some .long) ∈ tT := List.mem_filter.mpr ⟨List.mem_of_getElem? (i := 219) (by decide +kernel), by decide +kernel⟩
theorem kw_220 : Cond.constantLong RX4 199 (4000000000) ∈ tT := List.mem_filter.mpr ⟨List.mem_of_getElem? (i := 220) (by decide +kernel), by decide +kernel⟩
theorem kw_221 : Cond.methodLink RX4 110 yX1_isGone ∈ tT := List.mem_filter.mpr ⟨List.mem_of_getElem? (i := 221) (by decide +kernel), by decide +kernel⟩
theorem kw_222 : Cond.instanceMethod yX1_isGone ∈ tT := List.mem_filter.mpr ⟨List.mem_of_getElem? (i := 222) (by decide +kernel), by decide +kernel⟩
theorem kw_223 : Cond.selects RX1 yX1_isGone yX1_isGone ∈ tT := List.mem_filter.mpr ⟨List.mem_of_getElem? (i := 223) (by decide +kernel), by decide +kernel⟩
theorem kw_224 : Cond.code yX1_isGone cX1_isGone 2 (some .boolean) ∈ tT := List.mem_filter.mpr ⟨List.mem_of_getElem? (i := 224) (by decide +kernel), by decide +kernel⟩
theorem kw_225 : Cond.methodLink RX4 113 yX2_lastOf ∈ tT := List.mem_filter.mpr ⟨List.mem_of_getElem? (i := 225) (by decide +kernel), by decide +kernel⟩
theorem kw_226 : Cond.instanceMethod yX2_lastOf ∈ tT := List.mem_filter.mpr ⟨List.mem_of_getElem? (i := 226) (by decide +kernel), by decide +kernel⟩
theorem kw_227 : Cond.selects RX2 yX2_lastOf yX2_lastOf ∈ tT := List.mem_filter.mpr ⟨List.mem_of_getElem? (i := 227) (by decide +kernel), by decide +kernel⟩
theorem kw_228 : Cond.code yX2_lastOf cX2_lastOf 4 (some .int) ∈ tT := List.mem_filter.mpr ⟨List.mem_of_getElem? (i := 228) (by decide +kernel), by decide +kernel⟩
theorem kw_229 : Cond.methodLink RX2 34 yX2_isOf ∈ tT := List.mem_filter.mpr ⟨List.mem_of_getElem? (i := 229) (by decide +kernel), by decide +kernel⟩
theorem kw_230 : Cond.instanceMethod yX2_isOf ∈ tT := List.mem_filter.mpr ⟨List.mem_of_getElem? (i := 230) (by decide +kernel), by decide +kernel⟩
theorem kw_231 : Cond.selects RX2 yX2_isOf yX2_isOf ∈ tT := List.mem_filter.mpr ⟨List.mem_of_getElem? (i := 231) (by decide +kernel), by decide +kernel⟩
theorem kw_232 : Cond.code yX2_isOf cX2_isOf 3 (some .boolean) ∈ tT := List.mem_filter.mpr ⟨List.mem_of_getElem? (i := 232) (by decide +kernel), by decide +kernel⟩
theorem kw_233 : Cond.methodLink RL 32 yX4_now ∈ tT := List.mem_filter.mpr ⟨List.mem_of_getElem? (i := 233) (by decide +kernel), by decide +kernel⟩
theorem kw_234 : Cond.instanceMethod yX4_now ∈ tT := List.mem_filter.mpr ⟨List.mem_of_getElem? (i := 234) (by decide +kernel), by decide +kernel⟩
theorem kw_235 : Cond.selects RX4 yX4_now yX4_now ∈ tT := List.mem_filter.mpr ⟨List.mem_of_getElem? (i := 235) (by decide +kernel), by decide +kernel⟩
theorem kw_236 : Cond.code yX4_now cX4_now 2 (some .long) ∈ tT := List.mem_filter.mpr ⟨List.mem_of_getElem? (i := 236) (by decide +kernel), by decide +kernel⟩
theorem kw_237 : Cond.methodLink RL 37 yX4_digest ∈ tT := List.mem_filter.mpr ⟨List.mem_of_getElem? (i := 237) (by decide +kernel), by decide +kernel⟩
theorem kw_238 : Cond.instanceMethod yX4_digest ∈ tT := List.mem_filter.mpr ⟨List.mem_of_getElem? (i := 238) (by decide +kernel), by decide +kernel⟩
theorem kw_239 : Cond.selects RX4 yX4_digest yX4_digest ∈ tT := List.mem_filter.mpr ⟨List.mem_of_getElem? (i := 239) (by decide +kernel), by decide +kernel⟩
theorem kw_240 : Cond.code yX4_digest cX4_digest 2 (some .long) ∈ tT := List.mem_filter.mpr ⟨List.mem_of_getElem? (i := 240) (by decide +kernel), by decide +kernel⟩
theorem kw_241 : Cond.methodLink RL 41 yX4_blame ∈ tT := List.mem_filter.mpr ⟨List.mem_of_getElem? (i := 241) (by decide +kernel), by decide +kernel⟩
theorem kw_242 : Cond.instanceMethod yX4_blame ∈ tT := List.mem_filter.mpr ⟨List.mem_of_getElem? (i := 242) (by decide +kernel), by decide +kernel⟩
theorem kw_243 : Cond.selects RX4 yX4_blame yX4_blame ∈ tT := List.mem_filter.mpr ⟨List.mem_of_getElem? (i := 243) (by decide +kernel), by decide +kernel⟩
theorem kw_244 : Cond.code yX4_blame cX4_blame 5 (some .int) ∈ tT := List.mem_filter.mpr ⟨List.mem_of_getElem? (i := 244) (by decide +kernel), by decide +kernel⟩
theorem kw_245 : Cond.methodLink RL 45 yX4_first ∈ tT := List.mem_filter.mpr ⟨List.mem_of_getElem? (i := 245) (by decide +kernel), by decide +kernel⟩
theorem kw_246 : Cond.instanceMethod yX4_first ∈ tT := List.mem_filter.mpr ⟨List.mem_of_getElem? (i := 246) (by decide +kernel), by decide +kernel⟩
theorem kw_247 : Cond.selects RX4 yX4_first yX4_first ∈ tT := List.mem_filter.mpr ⟨List.mem_of_getElem? (i := 247) (by decide +kernel), by decide +kernel⟩
theorem kw_248 : Cond.code yX4_first cX4_first 6 (some .int) ∈ tT := List.mem_filter.mpr ⟨List.mem_of_getElem? (i := 248) (by decide +kernel), by decide +kernel⟩
theorem kw_249 : Cond.methodLink RX4 126 yX2_isOf ∈ tT := List.mem_filter.mpr ⟨List.mem_of_getElem? (i := 249) (by decide +kernel), by decide +kernel⟩
theorem kw_250 : Cond.methodLink RL 50 yX4_differs ∈ tT := List.mem_filter.mpr ⟨List.mem_of_getElem? (i := 250) (by decide +kernel), by decide +kernel⟩
theorem kw_251 : Cond.instanceMethod yX4_differs ∈ tT := List.mem_filter.mpr ⟨List.mem_of_getElem? (i := 251) (by decide +kernel), by decide +kernel⟩
theorem kw_252 : Cond.selects RX4 yX4_differs yX4_differs ∈ tT := List.mem_filter.mpr ⟨List.mem_of_getElem? (i := 252) (by decide +kernel), by decide +kernel⟩
theorem kw_253 : Cond.code yX4_differs cX4_differs 6 (some .int) ∈ tT := List.mem_filter.mpr ⟨List.mem_of_getElem? (i := 253) (by decide +kernel), by decide +kernel⟩
theorem kw_254 : Cond.methodLink RX4 130 yX4_refusalOfTwo ∈ tT := List.mem_filter.mpr ⟨List.mem_of_getElem? (i := 254) (by decide +kernel), by decide +kernel⟩
theorem kw_256 : Cond.instanceMethod yX4_refusalOfTwo ∈ tT := List.mem_filter.mpr ⟨List.mem_of_getElem? (i := 256) (by decide +kernel), by decide +kernel⟩
theorem kw_257 : Cond.code yX4_refusalOfTwo cX4_refusalOfTwo 3 (some .int) ∈ tT := List.mem_filter.mpr ⟨List.mem_of_getElem? (i := 257) (by decide +kernel), by decide +kernel⟩
theorem kw_258 : Cond.methodLink RX4 133 yX4_loadTwo ∈ tT := List.mem_filter.mpr ⟨List.mem_of_getElem? (i := 258) (by decide +kernel), by decide +kernel⟩
theorem kw_260 : Cond.instanceMethod yX4_loadTwo ∈ tT := List.mem_filter.mpr ⟨List.mem_of_getElem? (i := 260) (by decide +kernel), by decide +kernel⟩
theorem kw_261 : Cond.code yX4_loadTwo cX4_loadTwo 3 none ∈ tT := List.mem_filter.mpr ⟨List.mem_of_getElem? (i := 261) (by decide +kernel), by decide +kernel⟩
theorem kw_262 : Cond.methodLink RX4 170 yX2_load ∈ tT := List.mem_filter.mpr ⟨List.mem_of_getElem? (i := 262) (by decide +kernel), by decide +kernel⟩
theorem kw_263 : Cond.instanceMethod yX2_load ∈ tT := List.mem_filter.mpr ⟨List.mem_of_getElem? (i := 263) (by decide +kernel), by decide +kernel⟩
theorem kw_264 : Cond.selects RX2 yX2_load yX2_load ∈ tT := List.mem_filter.mpr ⟨List.mem_of_getElem? (i := 264) (by decide +kernel), by decide +kernel⟩
theorem kw_265 : Cond.code yX2_load cX2_load 3 none ∈ tT := List.mem_filter.mpr ⟨List.mem_of_getElem? (i := 265) (by decide +kernel), by decide +kernel⟩
theorem kw_266 : Cond.methodLink RX2 38 yJ7_fill_53178 ∈ tT := List.mem_filter.mpr ⟨List.mem_of_getElem? (i := 266) (by decide +kernel), by decide +kernel⟩
theorem kw_267 : Cond.methodLink RX2 44 yX2_redo ∈ tT := List.mem_filter.mpr ⟨List.mem_of_getElem? (i := 267) (by decide +kernel), by decide +kernel⟩
theorem kw_268 : Cond.instanceMethod yX2_redo ∈ tT := List.mem_filter.mpr ⟨List.mem_of_getElem? (i := 268) (by decide +kernel), by decide +kernel⟩
theorem kw_269 : Cond.selects RX2 yX2_redo yX2_redo ∈ tT := List.mem_filter.mpr ⟨List.mem_of_getElem? (i := 269) (by decide +kernel), by decide +kernel⟩
theorem kw_270 : Cond.code yX2_redo cX2_redo 6 (some .int) ∈ tT := List.mem_filter.mpr ⟨List.mem_of_getElem? (i := 270) (by decide +kernel), by decide +kernel⟩
theorem kw_271 : Cond.methodLink RL 54 yX4_difference ∈ tT := List.mem_filter.mpr ⟨List.mem_of_getElem? (i := 271) (by decide +kernel), by decide +kernel⟩
theorem kw_272 : Cond.instanceMethod yX4_difference ∈ tT := List.mem_filter.mpr ⟨List.mem_of_getElem? (i := 272) (by decide +kernel), by decide +kernel⟩
theorem kw_273 : Cond.selects RX4 yX4_difference yX4_difference ∈ tT := List.mem_filter.mpr ⟨List.mem_of_getElem? (i := 273) (by decide +kernel), by decide +kernel⟩
theorem kw_274 : Cond.code yX4_difference cX4_difference 7 (some .int) ∈ tT := List.mem_filter.mpr ⟨List.mem_of_getElem? (i := 274) (by decide +kernel), by decide +kernel⟩
theorem kw_275 : Cond.methodLink RL 58 yX4_rule ∈ tT := List.mem_filter.mpr ⟨List.mem_of_getElem? (i := 275) (by decide +kernel), by decide +kernel⟩
theorem kw_276 : Cond.instanceMethod yX4_rule ∈ tT := List.mem_filter.mpr ⟨List.mem_of_getElem? (i := 276) (by decide +kernel), by decide +kernel⟩
theorem kw_277 : Cond.selects RX4 yX4_rule yX4_rule ∈ tT := List.mem_filter.mpr ⟨List.mem_of_getElem? (i := 277) (by decide +kernel), by decide +kernel⟩
theorem kw_278 : Cond.code yX4_rule cX4_rule 3 (some .int) ∈ tT := List.mem_filter.mpr ⟨List.mem_of_getElem? (i := 278) (by decide +kernel), by decide +kernel⟩
theorem kw_279 : Cond.methodLink RL 63 yX4_prune ∈ tT := List.mem_filter.mpr ⟨List.mem_of_getElem? (i := 279) (by decide +kernel), by decide +kernel⟩
theorem kw_280 : Cond.instanceMethod yX4_prune ∈ tT := List.mem_filter.mpr ⟨List.mem_of_getElem? (i := 280) (by decide +kernel), by decide +kernel⟩
theorem kw_281 : Cond.selects RX4 yX4_prune yX4_prune ∈ tT := List.mem_filter.mpr ⟨List.mem_of_getElem? (i := 281) (by decide +kernel), by decide +kernel⟩
theorem kw_282 : Cond.code yX4_prune cX4_prune 3 (some .int) ∈ tT := List.mem_filter.mpr ⟨List.mem_of_getElem? (i := 282) (by decide +kernel), by decide +kernel⟩
theorem kw_283 : Cond.methodLink RX4 140 yX1_countPrunable ∈ tT := List.mem_filter.mpr ⟨List.mem_of_getElem? (i := 283) (by decide +kernel), by decide +kernel⟩
theorem kw_284 : Cond.instanceMethod yX1_countPrunable ∈ tT := List.mem_filter.mpr ⟨List.mem_of_getElem? (i := 284) (by decide +kernel), by decide +kernel⟩
theorem kw_285 : Cond.selects RX1 yX1_countPrunable yX1_countPrunable ∈ tT := List.mem_filter.mpr ⟨List.mem_of_getElem? (i := 285) (by decide +kernel), by decide +kernel⟩
theorem kw_286 : Cond.code yX1_countPrunable cX1_countPrunable 5 (some .int) ∈ tT := List.mem_filter.mpr ⟨List.mem_of_getElem? (i := 286) (by decide +kernel), by decide +kernel⟩
theorem kw_287 : Cond.methodLink RX1 26 yX1_isPrunable ∈ tT := List.mem_filter.mpr ⟨List.mem_of_getElem? (i := 287) (by decide +kernel), by decide +kernel⟩
theorem kw_288 : Cond.instanceMethod yX1_isPrunable ∈ tT := List.mem_filter.mpr ⟨List.mem_of_getElem? (i := 288) (by decide +kernel), by decide +kernel⟩
theorem kw_289 : Cond.selects RX1 yX1_isPrunable yX1_isPrunable ∈ tT := List.mem_filter.mpr ⟨List.mem_of_getElem? (i := 289) (by decide +kernel), by decide +kernel⟩
theorem kw_290 : Cond.code yX1_isPrunable cX1_isPrunable 4 (some .boolean) ∈ tT := List.mem_filter.mpr ⟨List.mem_of_getElem? (i := 290) (by decide +kernel), by decide +kernel⟩
theorem kw_291 : Cond.methodLink RX1 22 yX1_isGone ∈ tT := List.mem_filter.mpr ⟨List.mem_of_getElem? (i := 291) (by decide +kernel), by decide +kernel⟩
theorem kw_292 : Cond.methodLink RX4 146 yX1_moveTo ∈ tT := List.mem_filter.mpr ⟨List.mem_of_getElem? (i := 292) (by decide +kernel), by decide +kernel⟩
theorem kw_293 : Cond.instanceMethod yX1_moveTo ∈ tT := List.mem_filter.mpr ⟨List.mem_of_getElem? (i := 293) (by decide +kernel), by decide +kernel⟩
theorem kw_294 : Cond.selects RX1 yX1_moveTo yX1_moveTo ∈ tT := List.mem_filter.mpr ⟨List.mem_of_getElem? (i := 294) (by decide +kernel), by decide +kernel⟩
theorem kw_295 : Cond.code yX1_moveTo cX1_moveTo 5 none ∈ tT := List.mem_filter.mpr ⟨List.mem_of_getElem? (i := 295) (by decide +kernel), by decide +kernel⟩
theorem kw_296 : Cond.methodLink RX4 149 yX2_moveUnneededTo ∈ tT := List.mem_filter.mpr ⟨List.mem_of_getElem? (i := 296) (by decide +kernel), by decide +kernel⟩
theorem kw_297 : Cond.instanceMethod yX2_moveUnneededTo ∈ tT := List.mem_filter.mpr ⟨List.mem_of_getElem? (i := 297) (by decide +kernel), by decide +kernel⟩
theorem kw_298 : Cond.selects RX2 yX2_moveUnneededTo yX2_moveUnneededTo ∈ tT := List.mem_filter.mpr ⟨List.mem_of_getElem? (i := 298) (by decide +kernel), by decide +kernel⟩
theorem kw_299 : Cond.code yX2_moveUnneededTo cX2_moveUnneededTo 5 none ∈ tT := List.mem_filter.mpr ⟨List.mem_of_getElem? (i := 299) (by decide +kernel), by decide +kernel⟩
theorem kw_300 : Cond.methodLink RX2 53 yX1_keepsAny ∈ tT := List.mem_filter.mpr ⟨List.mem_of_getElem? (i := 300) (by decide +kernel), by decide +kernel⟩
theorem kw_301 : Cond.instanceMethod yX1_keepsAny ∈ tT := List.mem_filter.mpr ⟨List.mem_of_getElem? (i := 301) (by decide +kernel), by decide +kernel⟩
theorem kw_302 : Cond.selects RX1 yX1_keepsAny yX1_keepsAny ∈ tT := List.mem_filter.mpr ⟨List.mem_of_getElem? (i := 302) (by decide +kernel), by decide +kernel⟩
theorem kw_303 : Cond.code yX1_keepsAny cX1_keepsAny 4 (some .boolean) ∈ tT := List.mem_filter.mpr ⟨List.mem_of_getElem? (i := 303) (by decide +kernel), by decide +kernel⟩
theorem kw_304 : Cond.methodLink RL 67 yX4_pruned ∈ tT := List.mem_filter.mpr ⟨List.mem_of_getElem? (i := 304) (by decide +kernel), by decide +kernel⟩
theorem kw_305 : Cond.instanceMethod yX4_pruned ∈ tT := List.mem_filter.mpr ⟨List.mem_of_getElem? (i := 305) (by decide +kernel), by decide +kernel⟩
theorem kw_306 : Cond.selects RX4 yX4_pruned yX4_pruned ∈ tT := List.mem_filter.mpr ⟨List.mem_of_getElem? (i := 306) (by decide +kernel), by decide +kernel⟩
theorem kw_307 : Cond.code yX4_pruned cX4_pruned 2 (some .int) ∈ tT := List.mem_filter.mpr ⟨List.mem_of_getElem? (i := 307) (by decide +kernel), by decide +kernel⟩
theorem kw_308 : Cond.methodLink RL 71 yX4_bring ∈ tT := List.mem_filter.mpr ⟨List.mem_of_getElem? (i := 308) (by decide +kernel), by decide +kernel⟩
theorem kw_309 : Cond.instanceMethod yX4_bring ∈ tT := List.mem_filter.mpr ⟨List.mem_of_getElem? (i := 309) (by decide +kernel), by decide +kernel⟩
theorem kw_310 : Cond.selects RX4 yX4_bring yX4_bring ∈ tT := List.mem_filter.mpr ⟨List.mem_of_getElem? (i := 310) (by decide +kernel), by decide +kernel⟩
theorem kw_311 : Cond.code yX4_bring cX4_bring 1 (some .int) ∈ tT := List.mem_filter.mpr ⟨List.mem_of_getElem? (i := 311) (by decide +kernel), by decide +kernel⟩
theorem kw_312 : Cond.methodLink RX4 153 yX1_relabel ∈ tT := List.mem_filter.mpr ⟨List.mem_of_getElem? (i := 312) (by decide +kernel), by decide +kernel⟩
theorem kw_313 : Cond.instanceMethod yX1_relabel ∈ tT := List.mem_filter.mpr ⟨List.mem_of_getElem? (i := 313) (by decide +kernel), by decide +kernel⟩
theorem kw_314 : Cond.selects RX1 yX1_relabel yX1_relabel ∈ tT := List.mem_filter.mpr ⟨List.mem_of_getElem? (i := 314) (by decide +kernel), by decide +kernel⟩
theorem kw_315 : Cond.code yX1_relabel cX1_relabel 4 none ∈ tT := List.mem_filter.mpr ⟨List.mem_of_getElem? (i := 315) (by decide +kernel), by decide +kernel⟩
theorem kw_316 : Cond.methodLink RX4 156 yX2_takeFrom ∈ tT := List.mem_filter.mpr ⟨List.mem_of_getElem? (i := 316) (by decide +kernel), by decide +kernel⟩
theorem kw_317 : Cond.instanceMethod yX2_takeFrom ∈ tT := List.mem_filter.mpr ⟨List.mem_of_getElem? (i := 317) (by decide +kernel), by decide +kernel⟩
theorem kw_318 : Cond.selects RX2 yX2_takeFrom yX2_takeFrom ∈ tT := List.mem_filter.mpr ⟨List.mem_of_getElem? (i := 318) (by decide +kernel), by decide +kernel⟩
theorem kw_319 : Cond.code yX2_takeFrom cX2_takeFrom 4 (some .int) ∈ tT := List.mem_filter.mpr ⟨List.mem_of_getElem? (i := 319) (by decide +kernel), by decide +kernel⟩
theorem kw_320 : Cond.methodLink RL 75 yX4_forget ∈ tT := List.mem_filter.mpr ⟨List.mem_of_getElem? (i := 320) (by decide +kernel), by decide +kernel⟩
theorem kw_321 : Cond.instanceMethod yX4_forget ∈ tT := List.mem_filter.mpr ⟨List.mem_of_getElem? (i := 321) (by decide +kernel), by decide +kernel⟩
theorem kw_322 : Cond.selects RX4 yX4_forget yX4_forget ∈ tT := List.mem_filter.mpr ⟨List.mem_of_getElem? (i := 322) (by decide +kernel), by decide +kernel⟩
theorem kw_323 : Cond.code yX4_forget cX4_forget 2 (some .int) ∈ tT := List.mem_filter.mpr ⟨List.mem_of_getElem? (i := 323) (by decide +kernel), by decide +kernel⟩
theorem kw_324 : Cond.methodLink RX4 160 yX2_removeArchived ∈ tT := List.mem_filter.mpr ⟨List.mem_of_getElem? (i := 324) (by decide +kernel), by decide +kernel⟩
theorem kw_325 : Cond.instanceMethod yX2_removeArchived ∈ tT := List.mem_filter.mpr ⟨List.mem_of_getElem? (i := 325) (by decide +kernel), by decide +kernel⟩
theorem kw_326 : Cond.selects RX2 yX2_removeArchived yX2_removeArchived ∈ tT := List.mem_filter.mpr ⟨List.mem_of_getElem? (i := 326) (by decide +kernel), by decide +kernel⟩
theorem kw_327 : Cond.code yX2_removeArchived cX2_removeArchived 3 (some .int) ∈ tT := List.mem_filter.mpr ⟨List.mem_of_getElem? (i := 327) (by decide +kernel), by decide +kernel⟩
theorem kw_328 : Cond.methodLink RX2 56 yX2_copyRow ∈ tT := List.mem_filter.mpr ⟨List.mem_of_getElem? (i := 328) (by decide +kernel), by decide +kernel⟩
theorem kw_330 : Cond.instanceMethod yX2_copyRow ∈ tT := List.mem_filter.mpr ⟨List.mem_of_getElem? (i := 330) (by decide +kernel), by decide +kernel⟩
theorem kw_331 : Cond.code yX2_copyRow cX2_copyRow 3 none ∈ tT := List.mem_filter.mpr ⟨List.mem_of_getElem? (i := 331) (by decide +kernel), by decide +kernel⟩
theorem kw_332 : Cond.methodLink RL 79 yX4_archive ∈ tT := List.mem_filter.mpr ⟨List.mem_of_getElem? (i := 332) (by decide +kernel), by decide +kernel⟩
theorem kw_333 : Cond.instanceMethod yX4_archive ∈ tT := List.mem_filter.mpr ⟨List.mem_of_getElem? (i := 333) (by decide +kernel), by decide +kernel⟩
theorem kw_334 : Cond.selects RX4 yX4_archive yX4_archive ∈ tT := List.mem_filter.mpr ⟨List.mem_of_getElem? (i := 334) (by decide +kernel), by decide +kernel⟩
theorem kw_335 : Cond.code yX4_archive cX4_archive 3 (some .int) ∈ tT := List.mem_filter.mpr ⟨List.mem_of_getElem? (i := 335) (by decide +kernel), by decide +kernel⟩
theorem kw_336 : Cond.methodLink RX4 163 yX2_countIn ∈ tT := List.mem_filter.mpr ⟨List.mem_of_getElem? (i := 336) (by decide +kernel), by decide +kernel⟩
theorem kw_337 : Cond.instanceMethod yX2_countIn ∈ tT := List.mem_filter.mpr ⟨List.mem_of_getElem? (i := 337) (by decide +kernel), by decide +kernel⟩
theorem kw_338 : Cond.selects RX2 yX2_countIn yX2_countIn ∈ tT := List.mem_filter.mpr ⟨List.mem_of_getElem? (i := 338) (by decide +kernel), by decide +kernel⟩
theorem kw_339 : Cond.code yX2_countIn cX2_countIn 4 (some .int) ∈ tT := List.mem_filter.mpr ⟨List.mem_of_getElem? (i := 339) (by decide +kernel), by decide +kernel⟩
theorem kw_340 : Cond.methodLink RX4 166 yX1_countIn ∈ tT := List.mem_filter.mpr ⟨List.mem_of_getElem? (i := 340) (by decide +kernel), by decide +kernel⟩
theorem kw_341 : Cond.instanceMethod yX1_countIn ∈ tT := List.mem_filter.mpr ⟨List.mem_of_getElem? (i := 341) (by decide +kernel), by decide +kernel⟩
theorem kw_342 : Cond.selects RX1 yX1_countIn yX1_countIn ∈ tT := List.mem_filter.mpr ⟨List.mem_of_getElem? (i := 342) (by decide +kernel), by decide +kernel⟩
theorem kw_343 : Cond.code yX1_countIn cX1_countIn 4 (some .int) ∈ tT := List.mem_filter.mpr ⟨List.mem_of_getElem? (i := 343) (by decide +kernel), by decide +kernel⟩
theorem kw_344 : Cond.methodLink RL 83 yX4_replay ∈ tT := List.mem_filter.mpr ⟨List.mem_of_getElem? (i := 344) (by decide +kernel), by decide +kernel⟩
theorem kw_345 : Cond.instanceMethod yX4_replay ∈ tT := List.mem_filter.mpr ⟨List.mem_of_getElem? (i := 345) (by decide +kernel), by decide +kernel⟩
theorem kw_346 : Cond.selects RX4 yX4_replay yX4_replay ∈ tT := List.mem_filter.mpr ⟨List.mem_of_getElem? (i := 346) (by decide +kernel), by decide +kernel⟩
theorem kw_347 : Cond.code yX4_replay cX4_replay 4 (some .long) ∈ tT := List.mem_filter.mpr ⟨List.mem_of_getElem? (i := 347) (by decide +kernel), by decide +kernel⟩
theorem kw_348 : Cond.methodLink RX4 167 yX4_refusalOfReplay ∈ tT := List.mem_filter.mpr ⟨List.mem_of_getElem? (i := 348) (by decide +kernel), by decide +kernel⟩
theorem kw_350 : Cond.instanceMethod yX4_refusalOfReplay ∈ tT := List.mem_filter.mpr ⟨List.mem_of_getElem? (i := 350) (by decide +kernel), by decide +kernel⟩
theorem kw_351 : Cond.code yX4_refusalOfReplay cX4_refusalOfReplay 3 (some .int) ∈ tT := List.mem_filter.mpr ⟨List.mem_of_getElem? (i := 351) (by decide +kernel), by decide +kernel⟩
theorem kw_352 : Cond.methodLink RX4 174 yX2_redo ∈ tT := List.mem_filter.mpr ⟨List.mem_of_getElem? (i := 352) (by decide +kernel), by decide +kernel⟩
theorem kw_353 : Cond.methodLink RL 87 yX4_replayed ∈ tT := List.mem_filter.mpr ⟨List.mem_of_getElem? (i := 353) (by decide +kernel), by decide +kernel⟩
theorem kw_354 : Cond.instanceMethod yX4_replayed ∈ tT := List.mem_filter.mpr ⟨List.mem_of_getElem? (i := 354) (by decide +kernel), by decide +kernel⟩
theorem kw_355 : Cond.selects RX4 yX4_replayed yX4_replayed ∈ tT := List.mem_filter.mpr ⟨List.mem_of_getElem? (i := 355) (by decide +kernel), by decide +kernel⟩
theorem kw_356 : Cond.code yX4_replayed cX4_replayed 4 (some .int) ∈ tT := List.mem_filter.mpr ⟨List.mem_of_getElem? (i := 356) (by decide +kernel), by decide +kernel⟩
theorem kw_357 : Cond.methodLink RL 91 yX4_proof ∈ tT := List.mem_filter.mpr ⟨List.mem_of_getElem? (i := 357) (by decide +kernel), by decide +kernel⟩
theorem kw_358 : Cond.instanceMethod yX4_proof ∈ tT := List.mem_filter.mpr ⟨List.mem_of_getElem? (i := 358) (by decide +kernel), by decide +kernel⟩
theorem kw_359 : Cond.selects RX4 yX4_proof yX4_proof ∈ tT := List.mem_filter.mpr ⟨List.mem_of_getElem? (i := 359) (by decide +kernel), by decide +kernel⟩
theorem kw_360 : Cond.code yX4_proof cX4_proof 4 (some .long) ∈ tT := List.mem_filter.mpr ⟨List.mem_of_getElem? (i := 360) (by decide +kernel), by decide +kernel⟩
theorem kw_361 : Cond.methodLink RX4 178 yX3_beside ∈ tT := List.mem_filter.mpr ⟨List.mem_of_getElem? (i := 361) (by decide +kernel), by decide +kernel⟩
theorem kw_362 : Cond.instanceMethod yX3_beside ∈ tT := List.mem_filter.mpr ⟨List.mem_of_getElem? (i := 362) (by decide +kernel), by decide +kernel⟩
theorem kw_363 : Cond.selects RX3 yX3_beside yX3_beside ∈ tT := List.mem_filter.mpr ⟨List.mem_of_getElem? (i := 363) (by decide +kernel), by decide +kernel⟩
theorem kw_364 : Cond.code yX3_beside cX3_beside 3 (some .int) ∈ tT := List.mem_filter.mpr ⟨List.mem_of_getElem? (i := 364) (by decide +kernel), by decide +kernel⟩
theorem kw_365 : Cond.methodLink RL 96 yX4_lay ∈ tT := List.mem_filter.mpr ⟨List.mem_of_getElem? (i := 365) (by decide +kernel), by decide +kernel⟩
theorem kw_366 : Cond.instanceMethod yX4_lay ∈ tT := List.mem_filter.mpr ⟨List.mem_of_getElem? (i := 366) (by decide +kernel), by decide +kernel⟩
theorem kw_367 : Cond.selects RX4 yX4_lay yX4_lay ∈ tT := List.mem_filter.mpr ⟨List.mem_of_getElem? (i := 367) (by decide +kernel), by decide +kernel⟩
theorem kw_368 : Cond.code yX4_lay cX4_lay 4 (some .int) ∈ tT := List.mem_filter.mpr ⟨List.mem_of_getElem? (i := 368) (by decide +kernel), by decide +kernel⟩
theorem kw_369 : Cond.methodLink RL 100 yX4_proves ∈ tT := List.mem_filter.mpr ⟨List.mem_of_getElem? (i := 369) (by decide +kernel), by decide +kernel⟩
theorem kw_370 : Cond.instanceMethod yX4_proves ∈ tT := List.mem_filter.mpr ⟨List.mem_of_getElem? (i := 370) (by decide +kernel), by decide +kernel⟩
theorem kw_371 : Cond.selects RX4 yX4_proves yX4_proves ∈ tT := List.mem_filter.mpr ⟨List.mem_of_getElem? (i := 371) (by decide +kernel), by decide +kernel⟩
theorem kw_372 : Cond.code yX4_proves cX4_proves 4 (some .int) ∈ tT := List.mem_filter.mpr ⟨List.mem_of_getElem? (i := 372) (by decide +kernel), by decide +kernel⟩
theorem kw_373 : Cond.methodLink RX4 181 yX3_climb ∈ tT := List.mem_filter.mpr ⟨List.mem_of_getElem? (i := 373) (by decide +kernel), by decide +kernel⟩
theorem kw_374 : Cond.static yX3_climb ∈ tT := List.mem_filter.mpr ⟨List.mem_of_getElem? (i := 374) (by decide +kernel), by decide +kernel⟩
theorem kw_375 : Cond.code yX3_climb cX3_climb 6 (some .int) ∈ tT := List.mem_filter.mpr ⟨List.mem_of_getElem? (i := 375) (by decide +kernel), by decide +kernel⟩
theorem kw_376 : Cond.methodLink RL 104 yX4_back ∈ tT := List.mem_filter.mpr ⟨List.mem_of_getElem? (i := 376) (by decide +kernel), by decide +kernel⟩
theorem kw_377 : Cond.instanceMethod yX4_back ∈ tT := List.mem_filter.mpr ⟨List.mem_of_getElem? (i := 377) (by decide +kernel), by decide +kernel⟩
theorem kw_378 : Cond.selects RX4 yX4_back yX4_back ∈ tT := List.mem_filter.mpr ⟨List.mem_of_getElem? (i := 378) (by decide +kernel), by decide +kernel⟩
theorem kw_379 : Cond.code yX4_back cX4_back 3 (some .int) ∈ tT := List.mem_filter.mpr ⟨List.mem_of_getElem? (i := 379) (by decide +kernel), by decide +kernel⟩
theorem kw_380 : Cond.methodLink RX4 184 yX2_removeAbove ∈ tT := List.mem_filter.mpr ⟨List.mem_of_getElem? (i := 380) (by decide +kernel), by decide +kernel⟩
theorem kw_381 : Cond.instanceMethod yX2_removeAbove ∈ tT := List.mem_filter.mpr ⟨List.mem_of_getElem? (i := 381) (by decide +kernel), by decide +kernel⟩
theorem kw_382 : Cond.selects RX2 yX2_removeAbove yX2_removeAbove ∈ tT := List.mem_filter.mpr ⟨List.mem_of_getElem? (i := 382) (by decide +kernel), by decide +kernel⟩
theorem kw_383 : Cond.code yX2_removeAbove cX2_removeAbove 4 (some .int) ∈ tT := List.mem_filter.mpr ⟨List.mem_of_getElem? (i := 383) (by decide +kernel), by decide +kernel⟩
theorem kw_384 : Cond.methodLink RX4 187 yX1_fallTo ∈ tT := List.mem_filter.mpr ⟨List.mem_of_getElem? (i := 384) (by decide +kernel), by decide +kernel⟩
theorem kw_385 : Cond.instanceMethod yX1_fallTo ∈ tT := List.mem_filter.mpr ⟨List.mem_of_getElem? (i := 385) (by decide +kernel), by decide +kernel⟩
theorem kw_386 : Cond.selects RX1 yX1_fallTo yX1_fallTo ∈ tT := List.mem_filter.mpr ⟨List.mem_of_getElem? (i := 386) (by decide +kernel), by decide +kernel⟩
theorem kw_387 : Cond.code yX1_fallTo cX1_fallTo 2 none ∈ tT := List.mem_filter.mpr ⟨List.mem_of_getElem? (i := 387) (by decide +kernel), by decide +kernel⟩
theorem kw_388 : Cond.methodLink RL 108 yX4_row ∈ tT := List.mem_filter.mpr ⟨List.mem_of_getElem? (i := 388) (by decide +kernel), by decide +kernel⟩
theorem kw_389 : Cond.instanceMethod yX4_row ∈ tT := List.mem_filter.mpr ⟨List.mem_of_getElem? (i := 389) (by decide +kernel), by decide +kernel⟩
theorem kw_390 : Cond.selects RX4 yX4_row yX4_row ∈ tT := List.mem_filter.mpr ⟨List.mem_of_getElem? (i := 390) (by decide +kernel), by decide +kernel⟩
theorem kw_391 : Cond.code yX4_row cX4_row 5 (some .int) ∈ tT := List.mem_filter.mpr ⟨List.mem_of_getElem? (i := 391) (by decide +kernel), by decide +kernel⟩
theorem kw_392 : Cond.methodLink RX4 190 yX2_find ∈ tT := List.mem_filter.mpr ⟨List.mem_of_getElem? (i := 392) (by decide +kernel), by decide +kernel⟩
theorem kw_393 : Cond.instanceMethod yX2_find ∈ tT := List.mem_filter.mpr ⟨List.mem_of_getElem? (i := 393) (by decide +kernel), by decide +kernel⟩
theorem kw_394 : Cond.selects RX2 yX2_find yX2_find ∈ tT := List.mem_filter.mpr ⟨List.mem_of_getElem? (i := 394) (by decide +kernel), by decide +kernel⟩
theorem kw_395 : Cond.code yX2_find cX2_find 5 (some .int) ∈ tT := List.mem_filter.mpr ⟨List.mem_of_getElem? (i := 395) (by decide +kernel), by decide +kernel⟩
theorem kw_396 : Cond.methodLink RL 112 yX4_count ∈ tT := List.mem_filter.mpr ⟨List.mem_of_getElem? (i := 396) (by decide +kernel), by decide +kernel⟩
theorem kw_397 : Cond.instanceMethod yX4_count ∈ tT := List.mem_filter.mpr ⟨List.mem_of_getElem? (i := 397) (by decide +kernel), by decide +kernel⟩
theorem kw_398 : Cond.selects RX4 yX4_count yX4_count ∈ tT := List.mem_filter.mpr ⟨List.mem_of_getElem? (i := 398) (by decide +kernel), by decide +kernel⟩
theorem kw_399 : Cond.code yX4_count cX4_count 2 (some .int) ∈ tT := List.mem_filter.mpr ⟨List.mem_of_getElem? (i := 399) (by decide +kernel), by decide +kernel⟩
theorem kw_400 : Cond.methodLink RL 116 yX4_clear ∈ tT := List.mem_filter.mpr ⟨List.mem_of_getElem? (i := 400) (by decide +kernel), by decide +kernel⟩
theorem kw_401 : Cond.instanceMethod yX4_clear ∈ tT := List.mem_filter.mpr ⟨List.mem_of_getElem? (i := 401) (by decide +kernel), by decide +kernel⟩
theorem kw_402 : Cond.selects RX4 yX4_clear yX4_clear ∈ tT := List.mem_filter.mpr ⟨List.mem_of_getElem? (i := 402) (by decide +kernel), by decide +kernel⟩
theorem kw_403 : Cond.code yX4_clear cX4_clear 2 (some .int) ∈ tT := List.mem_filter.mpr ⟨List.mem_of_getElem? (i := 403) (by decide +kernel), by decide +kernel⟩
theorem kw_404 : Cond.classLink RL 10 RX5 ∈ tT := List.mem_filter.mpr ⟨List.mem_of_getElem? (i := 404) (by decide +kernel), by decide +kernel⟩
theorem kw_405 : Cond.instantiable RX5 18 ∈ tT := List.mem_filter.mpr ⟨List.mem_of_getElem? (i := 405) (by decide +kernel), by decide +kernel⟩
theorem kw_406 : Cond.methodLink RL 12 yX5_init ∈ tT := List.mem_filter.mpr ⟨List.mem_of_getElem? (i := 406) (by decide +kernel), by decide +kernel⟩
theorem kw_407 : Cond.instanceMethod yX5_init ∈ tT := List.mem_filter.mpr ⟨List.mem_of_getElem? (i := 407) (by decide +kernel), by decide +kernel⟩
theorem kw_408 : Cond.code yX5_init cX5_init 1 none ∈ tT := List.mem_filter.mpr ⟨List.mem_of_getElem? (i := 408) (by decide +kernel), by decide +kernel⟩
theorem kw_409 : Cond.methodLink RX5 1 objectInit ∈ tT := List.mem_filter.mpr ⟨List.mem_of_getElem? (i := 409) (by decide +kernel), by decide +kernel⟩
theorem kw_410 : Cond.methodLink RX5 49 yX5_begin ∈ tT := List.mem_filter.mpr ⟨List.mem_of_getElem? (i := 410) (by decide +kernel), by decide +kernel⟩
theorem kw_412 : Cond.instanceMethod yX5_begin ∈ tT := List.mem_filter.mpr ⟨List.mem_of_getElem? (i := 412) (by decide +kernel), by decide +kernel⟩
theorem kw_413 : Cond.code yX5_begin cX5_begin 2 none ∈ tT := List.mem_filter.mpr ⟨List.mem_of_getElem? (i := 413) (by decide +kernel), by decide +kernel⟩
theorem kw_414 : Cond.methodLink RX5 68 yX5_digestOf ∈ tT := List.mem_filter.mpr ⟨List.mem_of_getElem? (i := 414) (by decide +kernel), by decide +kernel⟩
theorem kw_416 : Cond.instanceMethod yX5_digestOf ∈ tT := List.mem_filter.mpr ⟨List.mem_of_getElem? (i := 416) (by decide +kernel), by decide +kernel⟩
theorem kw_417 : Cond.code yX5_digestOf cX5_digestOf 3 (some .int) ∈ tT := List.mem_filter.mpr ⟨List.mem_of_getElem? (i := 417) (by decide +kernel), by decide +kernel⟩
theorem kw_418 : Cond.methodLink RX5 77 yX5_ofLeaf ∈ tT := List.mem_filter.mpr ⟨List.mem_of_getElem? (i := 418) (by decide +kernel), by decide +kernel⟩
theorem kw_419 : Cond.static yX5_ofLeaf ∈ tT := List.mem_filter.mpr ⟨List.mem_of_getElem? (i := 419) (by decide +kernel), by decide +kernel⟩
theorem kw_420 : Cond.code yX5_ofLeaf cX5_ofLeaf 2 (some .int) ∈ tT := List.mem_filter.mpr ⟨List.mem_of_getElem? (i := 420) (by decide +kernel), by decide +kernel⟩
theorem kw_421 : Cond.methodLink RX5 81 yX5_ofTwo ∈ tT := List.mem_filter.mpr ⟨List.mem_of_getElem? (i := 421) (by decide +kernel), by decide +kernel⟩
theorem kw_422 : Cond.static yX5_ofTwo ∈ tT := List.mem_filter.mpr ⟨List.mem_of_getElem? (i := 422) (by decide +kernel), by decide +kernel⟩
theorem kw_423 : Cond.code yX5_ofTwo cX5_ofTwo 3 (some .int) ∈ tT := List.mem_filter.mpr ⟨List.mem_of_getElem? (i := 423) (by decide +kernel), by decide +kernel⟩
theorem kw_424 : Cond.constant RX5 76 (739982445) ∈ tT := List.mem_filter.mpr ⟨List.mem_of_getElem? (i := 424) (by decide +kernel), by decide +kernel⟩
theorem kw_425 : Cond.fieldLink RX5 52 "HistoryRowsModel" "height" "I" ∈ tT := List.mem_filter.mpr ⟨List.mem_of_getElem? (i := 425) (by decide +kernel), by decide +kernel⟩
theorem kw_426 : Cond.fieldLink RX5 7 "HistoryRowsModel" "states" "[I" ∈ tT := List.mem_filter.mpr ⟨List.mem_of_getElem? (i := 426) (by decide +kernel), by decide +kernel⟩
theorem kw_427 : Cond.fieldLink RX5 13 "HistoryRowsModel" "digests" "[I" ∈ tT := List.mem_filter.mpr ⟨List.mem_of_getElem? (i := 427) (by decide +kernel), by decide +kernel⟩
theorem kw_428 : Cond.fieldLink RX5 16 "HistoryRowsModel" "prunedBy" "[I" ∈ tT := List.mem_filter.mpr ⟨List.mem_of_getElem? (i := 428) (by decide +kernel), by decide +kernel⟩
theorem kw_429 : Cond.fieldLink RX5 56 "HistoryRowsModel" "writes" "I" ∈ tT := List.mem_filter.mpr ⟨List.mem_of_getElem? (i := 429) (by decide +kernel), by decide +kernel⟩
theorem kw_430 : Cond.fieldLink RX5 19 "HistoryRowsModel" "writeCall" "[I" ∈ tT := List.mem_filter.mpr ⟨List.mem_of_getElem? (i := 430) (by decide +kernel), by decide +kernel⟩
theorem kw_431 : Cond.fieldLink RX5 22 "HistoryRowsModel" "writeLeaf" "[I" ∈ tT := List.mem_filter.mpr ⟨List.mem_of_getElem? (i := 431) (by decide +kernel), by decide +kernel⟩
theorem kw_432 : Cond.fieldLink RX5 25 "HistoryRowsModel" "writeValue" "[I" ∈ tT := List.mem_filter.mpr ⟨List.mem_of_getElem? (i := 432) (by decide +kernel), by decide +kernel⟩
theorem kw_433 : Cond.fieldLink RX5 59 "HistoryRowsModel" "rows" "I" ∈ tT := List.mem_filter.mpr ⟨List.mem_of_getElem? (i := 433) (by decide +kernel), by decide +kernel⟩
theorem kw_434 : Cond.fieldLink RX5 28 "HistoryRowsModel" "rowLeaf" "[I" ∈ tT := List.mem_filter.mpr ⟨List.mem_of_getElem? (i := 434) (by decide +kernel), by decide +kernel⟩
theorem kw_435 : Cond.fieldLink RX5 31 "HistoryRowsModel" "rowHeight" "[I" ∈ tT := List.mem_filter.mpr ⟨List.mem_of_getElem? (i := 435) (by decide +kernel), by decide +kernel⟩
theorem kw_436 : Cond.fieldLink RX5 34 "HistoryRowsModel" "rowValue" "[I" ∈ tT := List.mem_filter.mpr ⟨List.mem_of_getElem? (i := 436) (by decide +kernel), by decide +kernel⟩
theorem kw_437 : Cond.fieldLink RX5 37 "HistoryRowsModel" "rowCall" "[I" ∈ tT := List.mem_filter.mpr ⟨List.mem_of_getElem? (i := 437) (by decide +kernel), by decide +kernel⟩
theorem kw_438 : Cond.fieldLink RX5 40 "HistoryRowsModel" "rowIn" "[I" ∈ tT := List.mem_filter.mpr ⟨List.mem_of_getElem? (i := 438) (by decide +kernel), by decide +kernel⟩
theorem kw_439 : Cond.fieldLink RX5 62 "HistoryRowsModel" "archives" "I" ∈ tT := List.mem_filter.mpr ⟨List.mem_of_getElem? (i := 439) (by decide +kernel), by decide +kernel⟩
theorem kw_440 : Cond.fieldLink RX5 65 "HistoryRowsModel" "step" "I" ∈ tT := List.mem_filter.mpr ⟨List.mem_of_getElem? (i := 440) (by decide +kernel), by decide +kernel⟩
theorem kw_441 : Cond.fieldLink RX5 43 "HistoryRowsModel" "laid" "[I" ∈ tT := List.mem_filter.mpr ⟨List.mem_of_getElem? (i := 441) (by decide +kernel), by decide +kernel⟩
theorem kw_442 : Cond.fieldLink RX5 46 "HistoryRowsModel" "tree" "[I" ∈ tT := List.mem_filter.mpr ⟨List.mem_of_getElem? (i := 442) (by decide +kernel), by decide +kernel⟩
theorem kw_480 : Cond.methodLink RL 17 yX5_write ∈ tT := List.mem_filter.mpr ⟨List.mem_of_getElem? (i := 480) (by decide +kernel), by decide +kernel⟩
theorem kw_481 : Cond.instanceMethod yX5_write ∈ tT := List.mem_filter.mpr ⟨List.mem_of_getElem? (i := 481) (by decide +kernel), by decide +kernel⟩
theorem kw_482 : Cond.selects RX5 yX5_write yX5_write ∈ tT := List.mem_filter.mpr ⟨List.mem_of_getElem? (i := 482) (by decide +kernel), by decide +kernel⟩
theorem kw_483 : Cond.code yX5_write cX5_write 4 (some .int) ∈ tT := List.mem_filter.mpr ⟨List.mem_of_getElem? (i := 483) (by decide +kernel), by decide +kernel⟩
theorem kw_484 : Cond.methodLink RX5 84 yX5_isLeaf ∈ tT := List.mem_filter.mpr ⟨List.mem_of_getElem? (i := 484) (by decide +kernel), by decide +kernel⟩
theorem kw_485 : Cond.static yX5_isLeaf ∈ tT := List.mem_filter.mpr ⟨List.mem_of_getElem? (i := 485) (by decide +kernel), by decide +kernel⟩
theorem kw_486 : Cond.code yX5_isLeaf cX5_isLeaf 1 (some .boolean) ∈ tT := List.mem_filter.mpr ⟨List.mem_of_getElem? (i := 486) (by decide +kernel), by decide +kernel⟩
theorem kw_487 : Cond.methodLink RX5 72 yX5_in ∈ tT := List.mem_filter.mpr ⟨List.mem_of_getElem? (i := 487) (by decide +kernel), by decide +kernel⟩
theorem kw_488 : Cond.static yX5_in ∈ tT := List.mem_filter.mpr ⟨List.mem_of_getElem? (i := 488) (by decide +kernel), by decide +kernel⟩
theorem kw_489 : Cond.code yX5_in cX5_in 3 (some .boolean) ∈ tT := List.mem_filter.mpr ⟨List.mem_of_getElem? (i := 489) (by decide +kernel), by decide +kernel⟩
theorem kw_490 : Cond.methodLink RL 22 yX5_seal ∈ tT := List.mem_filter.mpr ⟨List.mem_of_getElem? (i := 490) (by decide +kernel), by decide +kernel⟩
theorem kw_491 : Cond.instanceMethod yX5_seal ∈ tT := List.mem_filter.mpr ⟨List.mem_of_getElem? (i := 491) (by decide +kernel), by decide +kernel⟩
theorem kw_492 : Cond.selects RX5 yX5_seal yX5_seal ∈ tT := List.mem_filter.mpr ⟨List.mem_of_getElem? (i := 492) (by decide +kernel), by decide +kernel⟩
theorem kw_493 : Cond.code yX5_seal cX5_seal 5 (some .int) ∈ tT := List.mem_filter.mpr ⟨List.mem_of_getElem? (i := 493) (by decide +kernel), by decide +kernel⟩
theorem kw_494 : Cond.methodLink RX5 91 yX5_nowOf ∈ tT := List.mem_filter.mpr ⟨List.mem_of_getElem? (i := 494) (by decide +kernel), by decide +kernel⟩
theorem kw_496 : Cond.instanceMethod yX5_nowOf ∈ tT := List.mem_filter.mpr ⟨List.mem_of_getElem? (i := 496) (by decide +kernel), by decide +kernel⟩
theorem kw_497 : Cond.code yX5_nowOf cX5_nowOf 3 (some .int) ∈ tT := List.mem_filter.mpr ⟨List.mem_of_getElem? (i := 497) (by decide +kernel), by decide +kernel⟩
theorem kw_498 : Cond.methodLink RX5 88 yX5_lastOf ∈ tT := List.mem_filter.mpr ⟨List.mem_of_getElem? (i := 498) (by decide +kernel), by decide +kernel⟩
theorem kw_500 : Cond.instanceMethod yX5_lastOf ∈ tT := List.mem_filter.mpr ⟨List.mem_of_getElem? (i := 500) (by decide +kernel), by decide +kernel⟩
theorem kw_501 : Cond.code yX5_lastOf cX5_lastOf 4 (some .int) ∈ tT := List.mem_filter.mpr ⟨List.mem_of_getElem? (i := 501) (by decide +kernel), by decide +kernel⟩
theorem kw_502 : Cond.methodLink RL 26 yX5_drop ∈ tT := List.mem_filter.mpr ⟨List.mem_of_getElem? (i := 502) (by decide +kernel), by decide +kernel⟩
theorem kw_503 : Cond.instanceMethod yX5_drop ∈ tT := List.mem_filter.mpr ⟨List.mem_of_getElem? (i := 503) (by decide +kernel), by decide +kernel⟩
theorem kw_504 : Cond.selects RX5 yX5_drop yX5_drop ∈ tT := List.mem_filter.mpr ⟨List.mem_of_getElem? (i := 504) (by decide +kernel), by decide +kernel⟩
theorem kw_505 : Cond.code yX5_drop cX5_drop 2 (some .int) ∈ tT := List.mem_filter.mpr ⟨List.mem_of_getElem? (i := 505) (by decide +kernel), by decide +kernel⟩
theorem kw_506 : Cond.methodLink RL 31 yX5_at ∈ tT := List.mem_filter.mpr ⟨List.mem_of_getElem? (i := 506) (by decide +kernel), by decide +kernel⟩
theorem kw_507 : Cond.instanceMethod yX5_at ∈ tT := List.mem_filter.mpr ⟨List.mem_of_getElem? (i := 507) (by decide +kernel), by decide +kernel⟩
theorem kw_508 : Cond.selects RX5 yX5_at yX5_at ∈ tT := List.mem_filter.mpr ⟨List.mem_of_getElem? (i := 508) (by decide +kernel), by decide +kernel⟩
theorem kw_509 : Cond.code yX5_at cX5_at 3 (some .long) ∈ tT := List.mem_filter.mpr ⟨List.mem_of_getElem? (i := 509) (by decide +kernel), by decide +kernel⟩
theorem kw_510 : Cond.methodLink RX5 94 yX5_isHeight ∈ tT := List.mem_filter.mpr ⟨List.mem_of_getElem? (i := 510) (by decide +kernel), by decide +kernel⟩
theorem kw_512 : Cond.instanceMethod yX5_isHeight ∈ tT := List.mem_filter.mpr ⟨List.mem_of_getElem? (i := 512) (by decide +kernel), by decide +kernel⟩
theorem kw_513 : Cond.code yX5_isHeight cX5_isHeight 2 (some .boolean) ∈ tT := List.mem_filter.mpr ⟨List.mem_of_getElem? (i := 513) (by decide +kernel), by decide +kernel⟩
theorem kw_514 : Cond.constantLong RX5 97 (-4000000101) ∈ tT := List.mem_filter.mpr ⟨List.mem_of_getElem? (i := 514) (by decide +kernel), by decide +kernel⟩
theorem kw_515 : Cond.constantLong RX5 99 (-4000000104) ∈ tT := List.mem_filter.mpr ⟨List.mem_of_getElem? (i := 515) (by decide +kernel), by decide +kernel⟩
theorem kw_516 : Cond.methodLink RL 36 yX5_now ∈ tT := List.mem_filter.mpr ⟨List.mem_of_getElem? (i := 516) (by decide +kernel), by decide +kernel⟩
theorem kw_517 : Cond.instanceMethod yX5_now ∈ tT := List.mem_filter.mpr ⟨List.mem_of_getElem? (i := 517) (by decide +kernel), by decide +kernel⟩
theorem kw_518 : Cond.selects RX5 yX5_now yX5_now ∈ tT := List.mem_filter.mpr ⟨List.mem_of_getElem? (i := 518) (by decide +kernel), by decide +kernel⟩
theorem kw_519 : Cond.code yX5_now cX5_now 2 (some .long) ∈ tT := List.mem_filter.mpr ⟨List.mem_of_getElem? (i := 519) (by decide +kernel), by decide +kernel⟩
theorem kw_520 : Cond.methodLink RL 40 yX5_digest ∈ tT := List.mem_filter.mpr ⟨List.mem_of_getElem? (i := 520) (by decide +kernel), by decide +kernel⟩
theorem kw_521 : Cond.instanceMethod yX5_digest ∈ tT := List.mem_filter.mpr ⟨List.mem_of_getElem? (i := 521) (by decide +kernel), by decide +kernel⟩
theorem kw_522 : Cond.selects RX5 yX5_digest yX5_digest ∈ tT := List.mem_filter.mpr ⟨List.mem_of_getElem? (i := 522) (by decide +kernel), by decide +kernel⟩
theorem kw_523 : Cond.code yX5_digest cX5_digest 2 (some .long) ∈ tT := List.mem_filter.mpr ⟨List.mem_of_getElem? (i := 523) (by decide +kernel), by decide +kernel⟩
theorem kw_524 : Cond.methodLink RL 44 yX5_blame ∈ tT := List.mem_filter.mpr ⟨List.mem_of_getElem? (i := 524) (by decide +kernel), by decide +kernel⟩
theorem kw_525 : Cond.instanceMethod yX5_blame ∈ tT := List.mem_filter.mpr ⟨List.mem_of_getElem? (i := 525) (by decide +kernel), by decide +kernel⟩
theorem kw_526 : Cond.selects RX5 yX5_blame yX5_blame ∈ tT := List.mem_filter.mpr ⟨List.mem_of_getElem? (i := 526) (by decide +kernel), by decide +kernel⟩
theorem kw_527 : Cond.code yX5_blame cX5_blame 7 (some .int) ∈ tT := List.mem_filter.mpr ⟨List.mem_of_getElem? (i := 527) (by decide +kernel), by decide +kernel⟩
theorem kw_528 : Cond.methodLink RL 49 yX5_first ∈ tT := List.mem_filter.mpr ⟨List.mem_of_getElem? (i := 528) (by decide +kernel), by decide +kernel⟩
theorem kw_529 : Cond.instanceMethod yX5_first ∈ tT := List.mem_filter.mpr ⟨List.mem_of_getElem? (i := 529) (by decide +kernel), by decide +kernel⟩
theorem kw_530 : Cond.selects RX5 yX5_first yX5_first ∈ tT := List.mem_filter.mpr ⟨List.mem_of_getElem? (i := 530) (by decide +kernel), by decide +kernel⟩
theorem kw_531 : Cond.code yX5_first cX5_first 4 (some .int) ∈ tT := List.mem_filter.mpr ⟨List.mem_of_getElem? (i := 531) (by decide +kernel), by decide +kernel⟩
theorem kw_532 : Cond.methodLink RL 53 yX5_differs ∈ tT := List.mem_filter.mpr ⟨List.mem_of_getElem? (i := 532) (by decide +kernel), by decide +kernel⟩
theorem kw_533 : Cond.instanceMethod yX5_differs ∈ tT := List.mem_filter.mpr ⟨List.mem_of_getElem? (i := 533) (by decide +kernel), by decide +kernel⟩
theorem kw_534 : Cond.selects RX5 yX5_differs yX5_differs ∈ tT := List.mem_filter.mpr ⟨List.mem_of_getElem? (i := 534) (by decide +kernel), by decide +kernel⟩
theorem kw_535 : Cond.code yX5_differs cX5_differs 6 (some .int) ∈ tT := List.mem_filter.mpr ⟨List.mem_of_getElem? (i := 535) (by decide +kernel), by decide +kernel⟩
theorem kw_536 : Cond.methodLink RX5 101 yX5_bars ∈ tT := List.mem_filter.mpr ⟨List.mem_of_getElem? (i := 536) (by decide +kernel), by decide +kernel⟩
theorem kw_538 : Cond.instanceMethod yX5_bars ∈ tT := List.mem_filter.mpr ⟨List.mem_of_getElem? (i := 538) (by decide +kernel), by decide +kernel⟩
theorem kw_539 : Cond.code yX5_bars cX5_bars 3 (some .int) ∈ tT := List.mem_filter.mpr ⟨List.mem_of_getElem? (i := 539) (by decide +kernel), by decide +kernel⟩
theorem kw_540 : Cond.methodLink RL 57 yX5_difference ∈ tT := List.mem_filter.mpr ⟨List.mem_of_getElem? (i := 540) (by decide +kernel), by decide +kernel⟩
theorem kw_541 : Cond.instanceMethod yX5_difference ∈ tT := List.mem_filter.mpr ⟨List.mem_of_getElem? (i := 541) (by decide +kernel), by decide +kernel⟩
theorem kw_542 : Cond.selects RX5 yX5_difference yX5_difference ∈ tT := List.mem_filter.mpr ⟨List.mem_of_getElem? (i := 542) (by decide +kernel), by decide +kernel⟩
theorem kw_543 : Cond.code yX5_difference cX5_difference 7 (some .int) ∈ tT := List.mem_filter.mpr ⟨List.mem_of_getElem? (i := 543) (by decide +kernel), by decide +kernel⟩
theorem kw_544 : Cond.methodLink RL 62 yX5_rule ∈ tT := List.mem_filter.mpr ⟨List.mem_of_getElem? (i := 544) (by decide +kernel), by decide +kernel⟩
theorem kw_545 : Cond.instanceMethod yX5_rule ∈ tT := List.mem_filter.mpr ⟨List.mem_of_getElem? (i := 545) (by decide +kernel), by decide +kernel⟩
theorem kw_546 : Cond.selects RX5 yX5_rule yX5_rule ∈ tT := List.mem_filter.mpr ⟨List.mem_of_getElem? (i := 546) (by decide +kernel), by decide +kernel⟩
theorem kw_547 : Cond.code yX5_rule cX5_rule 3 (some .int) ∈ tT := List.mem_filter.mpr ⟨List.mem_of_getElem? (i := 547) (by decide +kernel), by decide +kernel⟩
theorem kw_548 : Cond.methodLink RL 66 yX5_prune ∈ tT := List.mem_filter.mpr ⟨List.mem_of_getElem? (i := 548) (by decide +kernel), by decide +kernel⟩
theorem kw_549 : Cond.instanceMethod yX5_prune ∈ tT := List.mem_filter.mpr ⟨List.mem_of_getElem? (i := 549) (by decide +kernel), by decide +kernel⟩
theorem kw_550 : Cond.selects RX5 yX5_prune yX5_prune ∈ tT := List.mem_filter.mpr ⟨List.mem_of_getElem? (i := 550) (by decide +kernel), by decide +kernel⟩
theorem kw_551 : Cond.code yX5_prune cX5_prune 4 (some .int) ∈ tT := List.mem_filter.mpr ⟨List.mem_of_getElem? (i := 551) (by decide +kernel), by decide +kernel⟩
theorem kw_552 : Cond.methodLink RX5 104 yX5_goes ∈ tT := List.mem_filter.mpr ⟨List.mem_of_getElem? (i := 552) (by decide +kernel), by decide +kernel⟩
theorem kw_554 : Cond.instanceMethod yX5_goes ∈ tT := List.mem_filter.mpr ⟨List.mem_of_getElem? (i := 554) (by decide +kernel), by decide +kernel⟩
theorem kw_555 : Cond.code yX5_goes cX5_goes 2 (some .boolean) ∈ tT := List.mem_filter.mpr ⟨List.mem_of_getElem? (i := 555) (by decide +kernel), by decide +kernel⟩
theorem kw_556 : Cond.methodLink RX5 107 yX5_isNeeded ∈ tT := List.mem_filter.mpr ⟨List.mem_of_getElem? (i := 556) (by decide +kernel), by decide +kernel⟩
theorem kw_558 : Cond.instanceMethod yX5_isNeeded ∈ tT := List.mem_filter.mpr ⟨List.mem_of_getElem? (i := 558) (by decide +kernel), by decide +kernel⟩
theorem kw_559 : Cond.code yX5_isNeeded cX5_isNeeded 5 (some .boolean) ∈ tT := List.mem_filter.mpr ⟨List.mem_of_getElem? (i := 559) (by decide +kernel), by decide +kernel⟩
theorem kw_560 : Cond.methodLink RL 70 yX5_pruned ∈ tT := List.mem_filter.mpr ⟨List.mem_of_getElem? (i := 560) (by decide +kernel), by decide +kernel⟩
theorem kw_561 : Cond.instanceMethod yX5_pruned ∈ tT := List.mem_filter.mpr ⟨List.mem_of_getElem? (i := 561) (by decide +kernel), by decide +kernel⟩
theorem kw_562 : Cond.selects RX5 yX5_pruned yX5_pruned ∈ tT := List.mem_filter.mpr ⟨List.mem_of_getElem? (i := 562) (by decide +kernel), by decide +kernel⟩
theorem kw_563 : Cond.code yX5_pruned cX5_pruned 2 (some .int) ∈ tT := List.mem_filter.mpr ⟨List.mem_of_getElem? (i := 563) (by decide +kernel), by decide +kernel⟩
theorem kw_564 : Cond.methodLink RL 74 yX5_bring ∈ tT := List.mem_filter.mpr ⟨List.mem_of_getElem? (i := 564) (by decide +kernel), by decide +kernel⟩
theorem kw_565 : Cond.instanceMethod yX5_bring ∈ tT := List.mem_filter.mpr ⟨List.mem_of_getElem? (i := 565) (by decide +kernel), by decide +kernel⟩
theorem kw_566 : Cond.selects RX5 yX5_bring yX5_bring ∈ tT := List.mem_filter.mpr ⟨List.mem_of_getElem? (i := 566) (by decide +kernel), by decide +kernel⟩
theorem kw_567 : Cond.code yX5_bring cX5_bring 3 (some .int) ∈ tT := List.mem_filter.mpr ⟨List.mem_of_getElem? (i := 567) (by decide +kernel), by decide +kernel⟩
theorem kw_568 : Cond.methodLink RL 78 yX5_forget ∈ tT := List.mem_filter.mpr ⟨List.mem_of_getElem? (i := 568) (by decide +kernel), by decide +kernel⟩
theorem kw_569 : Cond.instanceMethod yX5_forget ∈ tT := List.mem_filter.mpr ⟨List.mem_of_getElem? (i := 569) (by decide +kernel), by decide +kernel⟩
theorem kw_570 : Cond.selects RX5 yX5_forget yX5_forget ∈ tT := List.mem_filter.mpr ⟨List.mem_of_getElem? (i := 570) (by decide +kernel), by decide +kernel⟩
theorem kw_571 : Cond.code yX5_forget cX5_forget 2 (some .int) ∈ tT := List.mem_filter.mpr ⟨List.mem_of_getElem? (i := 571) (by decide +kernel), by decide +kernel⟩
theorem kw_572 : Cond.methodLink RX5 110 yX5_squeeze ∈ tT := List.mem_filter.mpr ⟨List.mem_of_getElem? (i := 572) (by decide +kernel), by decide +kernel⟩
theorem kw_574 : Cond.instanceMethod yX5_squeeze ∈ tT := List.mem_filter.mpr ⟨List.mem_of_getElem? (i := 574) (by decide +kernel), by decide +kernel⟩
theorem kw_575 : Cond.code yX5_squeeze cX5_squeeze 4 (some .int) ∈ tT := List.mem_filter.mpr ⟨List.mem_of_getElem? (i := 575) (by decide +kernel), by decide +kernel⟩
theorem kw_576 : Cond.methodLink RL 82 yX5_archive ∈ tT := List.mem_filter.mpr ⟨List.mem_of_getElem? (i := 576) (by decide +kernel), by decide +kernel⟩
theorem kw_577 : Cond.instanceMethod yX5_archive ∈ tT := List.mem_filter.mpr ⟨List.mem_of_getElem? (i := 577) (by decide +kernel), by decide +kernel⟩
theorem kw_578 : Cond.selects RX5 yX5_archive yX5_archive ∈ tT := List.mem_filter.mpr ⟨List.mem_of_getElem? (i := 578) (by decide +kernel), by decide +kernel⟩
theorem kw_579 : Cond.code yX5_archive cX5_archive 3 (some .int) ∈ tT := List.mem_filter.mpr ⟨List.mem_of_getElem? (i := 579) (by decide +kernel), by decide +kernel⟩
theorem kw_580 : Cond.methodLink RX5 113 yX5_rowsIn ∈ tT := List.mem_filter.mpr ⟨List.mem_of_getElem? (i := 580) (by decide +kernel), by decide +kernel⟩
theorem kw_582 : Cond.instanceMethod yX5_rowsIn ∈ tT := List.mem_filter.mpr ⟨List.mem_of_getElem? (i := 582) (by decide +kernel), by decide +kernel⟩
theorem kw_583 : Cond.code yX5_rowsIn cX5_rowsIn 4 (some .int) ∈ tT := List.mem_filter.mpr ⟨List.mem_of_getElem? (i := 583) (by decide +kernel), by decide +kernel⟩
theorem kw_584 : Cond.methodLink RX5 116 yX5_heightsBy ∈ tT := List.mem_filter.mpr ⟨List.mem_of_getElem? (i := 584) (by decide +kernel), by decide +kernel⟩
theorem kw_586 : Cond.instanceMethod yX5_heightsBy ∈ tT := List.mem_filter.mpr ⟨List.mem_of_getElem? (i := 586) (by decide +kernel), by decide +kernel⟩
theorem kw_587 : Cond.code yX5_heightsBy cX5_heightsBy 4 (some .int) ∈ tT := List.mem_filter.mpr ⟨List.mem_of_getElem? (i := 587) (by decide +kernel), by decide +kernel⟩
theorem kw_588 : Cond.methodLink RL 86 yX5_replay ∈ tT := List.mem_filter.mpr ⟨List.mem_of_getElem? (i := 588) (by decide +kernel), by decide +kernel⟩
theorem kw_589 : Cond.instanceMethod yX5_replay ∈ tT := List.mem_filter.mpr ⟨List.mem_of_getElem? (i := 589) (by decide +kernel), by decide +kernel⟩
theorem kw_590 : Cond.selects RX5 yX5_replay yX5_replay ∈ tT := List.mem_filter.mpr ⟨List.mem_of_getElem? (i := 590) (by decide +kernel), by decide +kernel⟩
theorem kw_591 : Cond.code yX5_replay cX5_replay 5 (some .long) ∈ tT := List.mem_filter.mpr ⟨List.mem_of_getElem? (i := 591) (by decide +kernel), by decide +kernel⟩
theorem kw_592 : Cond.methodLink RX5 119 yX5_barsReplay ∈ tT := List.mem_filter.mpr ⟨List.mem_of_getElem? (i := 592) (by decide +kernel), by decide +kernel⟩
theorem kw_594 : Cond.instanceMethod yX5_barsReplay ∈ tT := List.mem_filter.mpr ⟨List.mem_of_getElem? (i := 594) (by decide +kernel), by decide +kernel⟩
theorem kw_595 : Cond.code yX5_barsReplay cX5_barsReplay 3 (some .int) ∈ tT := List.mem_filter.mpr ⟨List.mem_of_getElem? (i := 595) (by decide +kernel), by decide +kernel⟩
theorem kw_596 : Cond.constantLong RX5 122 (4000000000) ∈ tT := List.mem_filter.mpr ⟨List.mem_of_getElem? (i := 596) (by decide +kernel), by decide +kernel⟩
theorem kw_597 : Cond.methodLink RL 90 yX5_replayed ∈ tT := List.mem_filter.mpr ⟨List.mem_of_getElem? (i := 597) (by decide +kernel), by decide +kernel⟩
theorem kw_598 : Cond.instanceMethod yX5_replayed ∈ tT := List.mem_filter.mpr ⟨List.mem_of_getElem? (i := 598) (by decide +kernel), by decide +kernel⟩
theorem kw_599 : Cond.selects RX5 yX5_replayed yX5_replayed ∈ tT := List.mem_filter.mpr ⟨List.mem_of_getElem? (i := 599) (by decide +kernel), by decide +kernel⟩
theorem kw_600 : Cond.code yX5_replayed cX5_replayed 6 (some .int) ∈ tT := List.mem_filter.mpr ⟨List.mem_of_getElem? (i := 600) (by decide +kernel), by decide +kernel⟩
theorem kw_601 : Cond.methodLink RL 95 yX5_proof ∈ tT := List.mem_filter.mpr ⟨List.mem_of_getElem? (i := 601) (by decide +kernel), by decide +kernel⟩
theorem kw_602 : Cond.instanceMethod yX5_proof ∈ tT := List.mem_filter.mpr ⟨List.mem_of_getElem? (i := 602) (by decide +kernel), by decide +kernel⟩
theorem kw_603 : Cond.selects RX5 yX5_proof yX5_proof ∈ tT := List.mem_filter.mpr ⟨List.mem_of_getElem? (i := 603) (by decide +kernel), by decide +kernel⟩
theorem kw_604 : Cond.code yX5_proof cX5_proof 6 (some .long) ∈ tT := List.mem_filter.mpr ⟨List.mem_of_getElem? (i := 604) (by decide +kernel), by decide +kernel⟩
theorem kw_605 : Cond.constantLong RX5 124 (-4000000102) ∈ tT := List.mem_filter.mpr ⟨List.mem_of_getElem? (i := 605) (by decide +kernel), by decide +kernel⟩
theorem kw_606 : Cond.methodLink RL 99 yX5_lay ∈ tT := List.mem_filter.mpr ⟨List.mem_of_getElem? (i := 606) (by decide +kernel), by decide +kernel⟩
theorem kw_607 : Cond.instanceMethod yX5_lay ∈ tT := List.mem_filter.mpr ⟨List.mem_of_getElem? (i := 607) (by decide +kernel), by decide +kernel⟩
theorem kw_608 : Cond.selects RX5 yX5_lay yX5_lay ∈ tT := List.mem_filter.mpr ⟨List.mem_of_getElem? (i := 608) (by decide +kernel), by decide +kernel⟩
theorem kw_609 : Cond.code yX5_lay cX5_lay 4 (some .int) ∈ tT := List.mem_filter.mpr ⟨List.mem_of_getElem? (i := 609) (by decide +kernel), by decide +kernel⟩
theorem kw_610 : Cond.methodLink RL 103 yX5_proves ∈ tT := List.mem_filter.mpr ⟨List.mem_of_getElem? (i := 610) (by decide +kernel), by decide +kernel⟩
theorem kw_611 : Cond.instanceMethod yX5_proves ∈ tT := List.mem_filter.mpr ⟨List.mem_of_getElem? (i := 611) (by decide +kernel), by decide +kernel⟩
theorem kw_612 : Cond.selects RX5 yX5_proves yX5_proves ∈ tT := List.mem_filter.mpr ⟨List.mem_of_getElem? (i := 612) (by decide +kernel), by decide +kernel⟩
theorem kw_613 : Cond.code yX5_proves cX5_proves 6 (some .int) ∈ tT := List.mem_filter.mpr ⟨List.mem_of_getElem? (i := 613) (by decide +kernel), by decide +kernel⟩
theorem kw_614 : Cond.methodLink RL 107 yX5_back ∈ tT := List.mem_filter.mpr ⟨List.mem_of_getElem? (i := 614) (by decide +kernel), by decide +kernel⟩
theorem kw_615 : Cond.instanceMethod yX5_back ∈ tT := List.mem_filter.mpr ⟨List.mem_of_getElem? (i := 615) (by decide +kernel), by decide +kernel⟩
theorem kw_616 : Cond.selects RX5 yX5_back yX5_back ∈ tT := List.mem_filter.mpr ⟨List.mem_of_getElem? (i := 616) (by decide +kernel), by decide +kernel⟩
theorem kw_617 : Cond.code yX5_back cX5_back 3 (some .int) ∈ tT := List.mem_filter.mpr ⟨List.mem_of_getElem? (i := 617) (by decide +kernel), by decide +kernel⟩
theorem kw_618 : Cond.methodLink RL 111 yX5_row ∈ tT := List.mem_filter.mpr ⟨List.mem_of_getElem? (i := 618) (by decide +kernel), by decide +kernel⟩
theorem kw_619 : Cond.instanceMethod yX5_row ∈ tT := List.mem_filter.mpr ⟨List.mem_of_getElem? (i := 619) (by decide +kernel), by decide +kernel⟩
theorem kw_620 : Cond.selects RX5 yX5_row yX5_row ∈ tT := List.mem_filter.mpr ⟨List.mem_of_getElem? (i := 620) (by decide +kernel), by decide +kernel⟩
theorem kw_621 : Cond.code yX5_row cX5_row 6 (some .int) ∈ tT := List.mem_filter.mpr ⟨List.mem_of_getElem? (i := 621) (by decide +kernel), by decide +kernel⟩
theorem kw_622 : Cond.methodLink RL 115 yX5_count ∈ tT := List.mem_filter.mpr ⟨List.mem_of_getElem? (i := 622) (by decide +kernel), by decide +kernel⟩
theorem kw_623 : Cond.instanceMethod yX5_count ∈ tT := List.mem_filter.mpr ⟨List.mem_of_getElem? (i := 623) (by decide +kernel), by decide +kernel⟩
theorem kw_624 : Cond.selects RX5 yX5_count yX5_count ∈ tT := List.mem_filter.mpr ⟨List.mem_of_getElem? (i := 624) (by decide +kernel), by decide +kernel⟩
theorem kw_625 : Cond.code yX5_count cX5_count 2 (some .int) ∈ tT := List.mem_filter.mpr ⟨List.mem_of_getElem? (i := 625) (by decide +kernel), by decide +kernel⟩
theorem kw_626 : Cond.methodLink RL 119 yX5_clear ∈ tT := List.mem_filter.mpr ⟨List.mem_of_getElem? (i := 626) (by decide +kernel), by decide +kernel⟩
theorem kw_627 : Cond.instanceMethod yX5_clear ∈ tT := List.mem_filter.mpr ⟨List.mem_of_getElem? (i := 627) (by decide +kernel), by decide +kernel⟩
theorem kw_628 : Cond.selects RX5 yX5_clear yX5_clear ∈ tT := List.mem_filter.mpr ⟨List.mem_of_getElem? (i := 628) (by decide +kernel), by decide +kernel⟩
theorem kw_629 : Cond.code yX5_clear cX5_clear 2 (some .int) ∈ tT := List.mem_filter.mpr ⟨List.mem_of_getElem? (i := 629) (by decide +kernel), by decide +kernel⟩
