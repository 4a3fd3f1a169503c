section
-- ===== PART A: goes FIRST, ahead of the names: the tables' words, and 'selects' of the private methods out of them =====
/-- a private method of a class that the tables say can be made, by its rows of tables_1 -/
def lw_okq (q : MethodName × Nat) : Prop := (q.1.cls ≠ "java/lang/invoke/MethodHandle" ∧ q.1.cls ≠ "java/lang/invoke/VarHandle") ∧ Cond.instantiable q.1.cls q.2 ∈ tables_1 ∧ Cond.privateMethod q.1 ∈ tables_1 ∧ Cond.instanceMethod q.1 ∈ tables_1
theorem lw_p0 : lw_okq (⟨"WeakenedPages", "settle", "(I)I"⟩, 11) := ⟨⟨by decide +kernel, by decide +kernel⟩, List.mem_of_getElem? (i := 11) (by decide +kernel), List.mem_of_getElem? (i := 262) (by decide +kernel), List.mem_of_getElem? (i := 263) (by decide +kernel)⟩
theorem lw_p1 : lw_okq (⟨"WeakenedPages", "performOnce", "(I)I"⟩, 11) := ⟨⟨by decide +kernel, by decide +kernel⟩, List.mem_of_getElem? (i := 11) (by decide +kernel), List.mem_of_getElem? (i := 496) (by decide +kernel), List.mem_of_getElem? (i := 497) (by decide +kernel)⟩
theorem lw_p2 : lw_okq (⟨"WeakenedPages", "noteRefusal", "(III)V"⟩, 11) := ⟨⟨by decide +kernel, by decide +kernel⟩, List.mem_of_getElem? (i := 11) (by decide +kernel), List.mem_of_getElem? (i := 508) (by decide +kernel), List.mem_of_getElem? (i := 509) (by decide +kernel)⟩
theorem lw_p3 : lw_okq (⟨"WeakenedPagesModel", "records", "()V"⟩, 15) := ⟨⟨by decide +kernel, by decide +kernel⟩, List.mem_of_getElem? (i := 591) (by decide +kernel), List.mem_of_getElem? (i := 658) (by decide +kernel), List.mem_of_getElem? (i := 659) (by decide +kernel)⟩
theorem lw_p4 : lw_okq (⟨"WeakenedPagesModel", "tries", "()V"⟩, 15) := ⟨⟨by decide +kernel, by decide +kernel⟩, List.mem_of_getElem? (i := 591) (by decide +kernel), List.mem_of_getElem? (i := 714) (by decide +kernel), List.mem_of_getElem? (i := 715) (by decide +kernel)⟩
theorem lw_p5 : lw_okq (⟨"WeakenedPagesModel", "becomes", "(I)I"⟩, 15) := ⟨⟨by decide +kernel, by decide +kernel⟩, List.mem_of_getElem? (i := 591) (by decide +kernel), List.mem_of_getElem? (i := 745) (by decide +kernel), List.mem_of_getElem? (i := 746) (by decide +kernel)⟩
theorem lw_p6 : lw_okq (⟨"WeakenedPagesModel", "readsOn", "([II)I"⟩, 15) := ⟨⟨by decide +kernel, by decide +kernel⟩, List.mem_of_getElem? (i := 591) (by decide +kernel), List.mem_of_getElem? (i := 753) (by decide +kernel), List.mem_of_getElem? (i := 754) (by decide +kernel)⟩
theorem lw_p7 : lw_okq (⟨"WeakenedPagesModel", "isText", "()Z"⟩, 15) := ⟨⟨by decide +kernel, by decide +kernel⟩, List.mem_of_getElem? (i := 591) (by decide +kernel), List.mem_of_getElem? (i := 824) (by decide +kernel), List.mem_of_getElem? (i := 825) (by decide +kernel)⟩
theorem lw_p8 : lw_okq (⟨"WeakenedPagesModel", "isOrder", "()Z"⟩, 15) := ⟨⟨by decide +kernel, by decide +kernel⟩, List.mem_of_getElem? (i := 591) (by decide +kernel), List.mem_of_getElem? (i := 828) (by decide +kernel), List.mem_of_getElem? (i := 829) (by decide +kernel)⟩
theorem lw_p9 : lw_okq (⟨"WeakenedPagesModel", "isNumber", "(II)Z"⟩, 15) := ⟨⟨by decide +kernel, by decide +kernel⟩, List.mem_of_getElem? (i := 591) (by decide +kernel), List.mem_of_getElem? (i := 832) (by decide +kernel), List.mem_of_getElem? (i := 833) (by decide +kernel)⟩
theorem lw_p10 : lw_okq (⟨"WeakenedPagesModel", "isAt", "(II)Z"⟩, 15) := ⟨⟨by decide +kernel, by decide +kernel⟩, List.mem_of_getElem? (i := 591) (by decide +kernel), List.mem_of_getElem? (i := 836) (by decide +kernel), List.mem_of_getElem? (i := 837) (by decide +kernel)⟩
theorem lw_p11 : lw_okq (⟨"WeakenedPagesModel", "isSign", "(I)Z"⟩, 15) := ⟨⟨by decide +kernel, by decide +kernel⟩, List.mem_of_getElem? (i := 591) (by decide +kernel), List.mem_of_getElem? (i := 840) (by decide +kernel), List.mem_of_getElem? (i := 841) (by decide +kernel)⟩
theorem lw_p12 : lw_okq (⟨"WeakenedPagesModel", "doesOnce", "(I)I"⟩, 15) := ⟨⟨by decide +kernel, by decide +kernel⟩, List.mem_of_getElem? (i := 591) (by decide +kernel), List.mem_of_getElem? (i := 844) (by decide +kernel), List.mem_of_getElem? (i := 845) (by decide +kernel)⟩
theorem lw_p13 : lw_okq (⟨"WeakenedPagesModel", "weakest", "()I"⟩, 15) := ⟨⟨by decide +kernel, by decide +kernel⟩, List.mem_of_getElem? (i := 591) (by decide +kernel), List.mem_of_getElem? (i := 880) (by decide +kernel), List.mem_of_getElem? (i := 881) (by decide +kernel)⟩
def lw_privs_1 : List (MethodName × Nat) := [(⟨"WeakenedPages", "settle", "(I)I"⟩, 11), (⟨"WeakenedPages", "performOnce", "(I)I"⟩, 11), (⟨"WeakenedPages", "noteRefusal", "(III)V"⟩, 11), (⟨"WeakenedPagesModel", "records", "()V"⟩, 15), (⟨"WeakenedPagesModel", "tries", "()V"⟩, 15), (⟨"WeakenedPagesModel", "becomes", "(I)I"⟩, 15), (⟨"WeakenedPagesModel", "readsOn", "([II)I"⟩, 15), (⟨"WeakenedPagesModel", "isText", "()Z"⟩, 15), (⟨"WeakenedPagesModel", "isOrder", "()Z"⟩, 15), (⟨"WeakenedPagesModel", "isNumber", "(II)Z"⟩, 15), (⟨"WeakenedPagesModel", "isAt", "(II)Z"⟩, 15), (⟨"WeakenedPagesModel", "isSign", "(I)Z"⟩, 15), (⟨"WeakenedPagesModel", "doesOnce", "(I)I"⟩, 15), (⟨"WeakenedPagesModel", "weakest", "()I"⟩, 15)]
theorem lw_r1 : ∀ q ∈ lw_privs_1, lw_okq q := List.forall_mem_cons.mpr ⟨lw_p0, List.forall_mem_cons.mpr ⟨lw_p1, List.forall_mem_cons.mpr ⟨lw_p2, List.forall_mem_cons.mpr ⟨lw_p3, List.forall_mem_cons.mpr ⟨lw_p4, List.forall_mem_cons.mpr ⟨lw_p5, List.forall_mem_cons.mpr ⟨lw_p6, List.forall_mem_cons.mpr ⟨lw_p7, List.forall_mem_cons.mpr ⟨lw_p8, List.forall_mem_cons.mpr ⟨lw_p9, List.forall_mem_cons.mpr ⟨lw_p10, List.forall_mem_cons.mpr ⟨lw_p11, List.forall_mem_cons.mpr ⟨lw_p12, List.forall_mem_cons.mpr ⟨lw_p13, fun _ h => absurd h List.not_mem_nil⟩⟩⟩⟩⟩⟩⟩⟩⟩⟩⟩⟩⟩⟩
def lw_privs : List (MethodName × Nat) := lw_privs_1
def lw_tbl : List Cond := k2_sels lw_privs ++ tables_1
theorem lw_privs_ok : ∀ q ∈ lw_privs, lw_okq q := lw_r1
def RX0 : String := "WeakenedPages$Buffer"
def TX0 : u_T := fun k => match k with
  | 0 => ("WeakenedPages$Buffer", "pages", "[I", true)
  | _ => ("WeakenedPages$Buffer", "size", "I", false)
def tyX0 : Nat → FieldType := fun k => match k with
  | 0 => .array .int
  | _ => .int
abbrev wsX00 : List Cond := u_ws RX0 TX0 2
theorem nmX0 : ∀ a, a < 2 → ∀ b, b < 2 → a ≠ b → (TX0 a).2.1 ≠ (TX0 b).2.1 := by decide +kernel
theorem tyX0_ok : ∀ k, k < 2 → parseFieldDescriptor (TX0 k).2.2.1 = some (tyX0 k) := by decide +kernel
abbrev cX0_init : ByteArray := prog_2_method_1_code
def yX0_init : MethodName := ⟨RX0, "<init>", "()V"⟩
abbrev cX0_copyFrom : ByteArray := prog_2_method_2_code
def yX0_copyFrom : MethodName := ⟨RX0, "copyFrom", "(LWeakenedPages$Buffer;)V"⟩
abbrev cX0_rankOf : ByteArray := prog_2_method_3_code
def yX0_rankOf : MethodName := ⟨RX0, "rankOf", "(I)I"⟩
abbrev cX0_putFirst : ByteArray := prog_2_method_4_code
def yX0_putFirst : MethodName := ⟨RX0, "putFirst", "(II)V"⟩
abbrev cX0_drop : ByteArray := prog_2_method_5_code
def yX0_drop : MethodName := ⟨RX0, "drop", "(I)V"⟩
abbrev cX0_shrinkTo : ByteArray := prog_2_method_6_code
def yX0_shrinkTo : MethodName := ⟨RX0, "shrinkTo", "(I)V"⟩
def RX1 : String := "WeakenedPages$ErasureLog"
def TX1 : u_T := fun k => match k with
  | 0 => ("WeakenedPages$ErasureLog", "blocks", "[I", true)
  | 1 => ("WeakenedPages$ErasureLog", "ticks", "[I", true)
  | 2 => ("WeakenedPages$ErasureLog", "weakenings", "[I", true)
  | _ => ("WeakenedPages$ErasureLog", "total", "I", false)
def tyX1 : Nat → FieldType := fun k => match k with
  | 0 => .array .int
  | 1 => .array .int
  | 2 => .array .int
  | _ => .int
abbrev wsX10 : List Cond := u_ws RX1 TX1 4
theorem nmX1 : ∀ a, a < 4 → ∀ b, b < 4 → a ≠ b → (TX1 a).2.1 ≠ (TX1 b).2.1 := by decide +kernel
theorem tyX1_ok : ∀ k, k < 4 → parseFieldDescriptor (TX1 k).2.2.1 = some (tyX1 k) := by decide +kernel
abbrev cX1_init : ByteArray := prog_3_method_1_code
def yX1_init : MethodName := ⟨RX1, "<init>", "()V"⟩
abbrev cX1_copyFrom : ByteArray := prog_3_method_2_code
def yX1_copyFrom : MethodName := ⟨RX1, "copyFrom", "(LWeakenedPages$ErasureLog;)V"⟩
abbrev cX1_note : ByteArray := prog_3_method_3_code
def yX1_note : MethodName := ⟨RX1, "note", "(III)V"⟩
def RX2 : String := "WeakenedPages$History"
def TX2 : u_T := fun k => match k with
  | 0 => ("WeakenedPages$History", "states", "[LWeakenedPages$Store;", true)
  | _ => ("WeakenedPages$History", "size", "I", false)
def tyX2 : Nat → FieldType := fun k => match k with
  | 0 => .array (.object "WeakenedPages$Store")
  | _ => .int
abbrev wsX20 : List Cond := u_ws RX2 TX2 2
theorem nmX2 : ∀ a, a < 2 → ∀ b, b < 2 → a ≠ b → (TX2 a).2.1 ≠ (TX2 b).2.1 := by decide +kernel
theorem tyX2_ok : ∀ k, k < 2 → parseFieldDescriptor (TX2 k).2.2.1 = some (tyX2 k) := by decide +kernel
abbrev cX2_init : ByteArray := prog_4_method_1_code
def yX2_init : MethodName := ⟨RX2, "<init>", "()V"⟩
abbrev cX2_record : ByteArray := prog_4_method_2_code
def yX2_record : MethodName := ⟨RX2, "record", "(LWeakenedPages$Store;)V"⟩
abbrev cX2_takeLatest : ByteArray := prog_4_method_3_code
def yX2_takeLatest : MethodName := ⟨RX2, "takeLatest", "(LWeakenedPages$Store;)V"⟩
def RX3 : String := "WeakenedPages$Orders"
def TX3 : u_T := fun k => match k with
  | 0 => ("WeakenedPages$Orders", "text", "[C", true)
  | 1 => ("WeakenedPages$Orders", "length", "I", false)
  | 2 => ("WeakenedPages$Orders", "letters", "[C", true)
  | 3 => ("WeakenedPages$Orders", "arguments", "[I", true)
  | 4 => ("WeakenedPages$Orders", "times", "[I", true)
  | 5 => ("WeakenedPages$Orders", "number", "I", false)
  | _ => ("WeakenedPages$Orders", "at", "I", false)
def tyX3 : Nat → FieldType := fun k => match k with
  | 0 => .array .char
  | 1 => .int
  | 2 => .array .char
  | 3 => .array .int
  | 4 => .array .int
  | 5 => .int
  | _ => .int
abbrev wsX30 : List Cond := u_ws RX3 TX3 7
theorem nmX3 : ∀ a, a < 7 → ∀ b, b < 7 → a ≠ b → (TX3 a).2.1 ≠ (TX3 b).2.1 := by decide +kernel
theorem tyX3_ok : ∀ k, k < 7 → parseFieldDescriptor (TX3 k).2.2.1 = some (tyX3 k) := by decide +kernel
abbrev cX3_init : ByteArray := prog_5_method_1_code
def yX3_init : MethodName := ⟨RX3, "<init>", "()V"⟩
abbrev cX3_append : ByteArray := prog_5_method_2_code
def yX3_append : MethodName := ⟨RX3, "append", "(C)I"⟩
abbrev cX3_empty : ByteArray := prog_5_method_3_code
def yX3_empty : MethodName := ⟨RX3, "empty", "()I"⟩
abbrev cX3_letterOf : ByteArray := prog_5_method_4_code
def yX3_letterOf : MethodName := ⟨RX3, "letterOf", "(I)C"⟩
abbrev cX3_argumentOf : ByteArray := prog_5_method_5_code
def yX3_argumentOf : MethodName := ⟨RX3, "argumentOf", "(I)I"⟩
abbrev cX3_timesOf : ByteArray := prog_5_method_6_code
def yX3_timesOf : MethodName := ⟨RX3, "timesOf", "(I)I"⟩
abbrev cX3_parse : ByteArray := prog_5_method_7_code
def yX3_parse : MethodName := ⟨RX3, "parse", "()I"⟩
abbrev cX3_parseOrder : ByteArray := prog_5_method_8_code
def yX3_parseOrder : MethodName := ⟨RX3, "parseOrder", "()Z"⟩
abbrev cX3_parseNumber : ByteArray := prog_5_method_9_code
def yX3_parseNumber : MethodName := ⟨RX3, "parseNumber", "(II)I"⟩
abbrev cX3_digitAt : ByteArray := prog_5_method_10_code
def yX3_digitAt : MethodName := ⟨RX3, "digitAt", "(I)I"⟩
def RX4 : String := "WeakenedPages$Store"
def TX4 : u_T := fun k => match k with
  | 0 => ("WeakenedPages$Store", "kinds", "[I", true)
  | 1 => ("WeakenedPages$Store", "erasures", "[I", true)
  | 2 => ("WeakenedPages$Store", "called", "[Z", true)
  | 3 => ("WeakenedPages$Store", "blockReads", "[I", true)
  | 4 => ("WeakenedPages$Store", "used", "[I", true)
  | 5 => ("WeakenedPages$Store", "held", "[I", true)
  | 6 => ("WeakenedPages$Store", "weakenings", "[I", true)
  | 7 => ("WeakenedPages$Store", "written", "[I", true)
  | 8 => ("WeakenedPages$Store", "placeOf", "[I", true)
  | 9 => ("WeakenedPages$Store", "pageReads", "[I", true)
  | 10 => ("WeakenedPages$Store", "settings", "[I", true)
  | 11 => ("WeakenedPages$Store", "buffer", "LWeakenedPages$Buffer;", true)
  | 12 => ("WeakenedPages$Store", "log", "LWeakenedPages$ErasureLog;", true)
  | 13 => ("WeakenedPages$Store", "open", "I", false)
  | 14 => ("WeakenedPages$Store", "tick", "I", false)
  | 15 => ("WeakenedPages$Store", "reads", "I", false)
  | 16 => ("WeakenedPages$Store", "bufferReads", "I", false)
  | _ => ("WeakenedPages$Store", "movedPages", "I", false)
def tyX4 : Nat → FieldType := fun k => match k with
  | 0 => .array .int
  | 1 => .array .int
  | 2 => .array .boolean
  | 3 => .array .int
  | 4 => .array .int
  | 5 => .array .int
  | 6 => .array .int
  | 7 => .array .int
  | 8 => .array .int
  | 9 => .array .int
  | 10 => .array .int
  | 11 => .object "WeakenedPages$Buffer"
  | 12 => .object "WeakenedPages$ErasureLog"
  | 13 => .int
  | 14 => .int
  | 15 => .int
  | 16 => .int
  | _ => .int
abbrev wsX40 : List Cond := u_ws RX4 TX4 18
theorem nmX4 : ∀ a, a < 18 → ∀ b, b < 18 → a ≠ b → (TX4 a).2.1 ≠ (TX4 b).2.1 := by decide +kernel
theorem tyX4_ok : ∀ k, k < 18 → parseFieldDescriptor (TX4 k).2.2.1 = some (tyX4 k) := by decide +kernel
abbrev cX4_init : ByteArray := prog_6_method_1_code
def yX4_init : MethodName := ⟨RX4, "<init>", "()V"⟩
abbrev cX4_copyFrom : ByteArray := prog_6_method_2_code
def yX4_copyFrom : MethodName := ⟨RX4, "copyFrom", "(LWeakenedPages$Store;)V"⟩
abbrev cX4_bears : ByteArray := prog_6_method_3_code
def yX4_bears : MethodName := ⟨RX4, "bears", "(I)I"⟩
abbrev cX4_isFree : ByteArray := prog_6_method_4_code
def yX4_isFree : MethodName := ⟨RX4, "isFree", "(I)Z"⟩
abbrev cX4_freeBlocks : ByteArray := prog_6_method_5_code
def yX4_freeBlocks : MethodName := ⟨RX4, "freeBlocks", "()I"⟩
abbrev cX4_hasPlace : ByteArray := prog_6_method_6_code
def yX4_hasPlace : MethodName := ⟨RX4, "hasPlace", "(I)Z"⟩
abbrev cX4_pagesIn : ByteArray := prog_6_method_7_code
def yX4_pagesIn : MethodName := ⟨RX4, "pagesIn", "(I)I"⟩
abbrev cX4_pagesInAll : ByteArray := prog_6_method_8_code
def yX4_pagesInAll : MethodName := ⟨RX4, "pagesInAll", "()I"⟩
abbrev cX4_greatestOfPages : ByteArray := prog_6_method_9_code
def yX4_greatestOfPages : MethodName := ⟨RX4, "greatestOfPages", "(I)I"⟩
abbrev cX4_hundredths : ByteArray := prog_6_method_10_code
def yX4_hundredths : MethodName := ⟨RX4, "hundredths", "(I)I"⟩
abbrev cX4_greatestHundredths : ByteArray := prog_6_method_11_code
def yX4_greatestHundredths : MethodName := ⟨RX4, "greatestHundredths", "()I"⟩
abbrev cX4_isMarked : ByteArray := prog_6_method_12_code
def yX4_isMarked : MethodName := ⟨RX4, "isMarked", "(I)Z"⟩
abbrev cX4_isOld : ByteArray := prog_6_method_13_code
def yX4_isOld : MethodName := ⟨RX4, "isOld", "(I)Z"⟩
abbrev cX4_markedBlocks : ByteArray := prog_6_method_14_code
def yX4_markedBlocks : MethodName := ⟨RX4, "markedBlocks", "()I"⟩
abbrev cX4_markedAhead : ByteArray := prog_6_method_15_code
def yX4_markedAhead : MethodName := ⟨RX4, "markedAhead", "(I)I"⟩
abbrev cX4_firstMarked : ByteArray := prog_6_method_16_code
def yX4_firstMarked : MethodName := ⟨RX4, "firstMarked", "()I"⟩
abbrev cX4_addedBy : ByteArray := prog_6_method_17_code
def yX4_addedBy : MethodName := ⟨RX4, "addedBy", "(II)I"⟩
abbrev cX4_readsLeft : ByteArray := prog_6_method_18_code
def yX4_readsLeft : MethodName := ⟨RX4, "readsLeft", "(I)I"⟩
abbrev cX4_mayRead : ByteArray := prog_6_method_19_code
def yX4_mayRead : MethodName := ⟨RX4, "mayRead", "(I)Z"⟩
abbrev cX4_readPlace : ByteArray := prog_6_method_20_code
def yX4_readPlace : MethodName := ⟨RX4, "readPlace", "(I)V"⟩
abbrev cX4_blockWithRoom : ByteArray := prog_6_method_21_code
def yX4_blockWithRoom : MethodName := ⟨RX4, "blockWithRoom", "()I"⟩
abbrev cX4_putInto : ByteArray := prog_6_method_22_code
def yX4_putInto : MethodName := ⟨RX4, "putInto", "(II)V"⟩
abbrev cX4_dropPlace : ByteArray := prog_6_method_23_code
def yX4_dropPlace : MethodName := ⟨RX4, "dropPlace", "(I)V"⟩
abbrev cX4_lowestPlaceWithPage : ByteArray := prog_6_method_24_code
def yX4_lowestPlaceWithPage : MethodName := ⟨RX4, "lowestPlaceWithPage", "(I)I"⟩
abbrev cX4_moveLowestPage : ByteArray := prog_6_method_25_code
def yX4_moveLowestPage : MethodName := ⟨RX4, "moveLowestPage", "(I)Z"⟩
abbrev cX4_erase : ByteArray := prog_6_method_26_code
def yX4_erase : MethodName := ⟨RX4, "erase", "(I)V"⟩
abbrev cX4_moveWhole : ByteArray := prog_6_method_27_code
def yX4_moveWhole : MethodName := ⟨RX4, "moveWhole", "(I)I"⟩
abbrev cX4_passOne : ByteArray := prog_6_method_28_code
def yX4_passOne : MethodName := ⟨RX4, "passOne", "()I"⟩
abbrev cX4_changeSetting : ByteArray := prog_6_method_29_code
def yX4_changeSetting : MethodName := ⟨RX4, "changeSetting", "(II)I"⟩
abbrev cX4_changeKind : ByteArray := prog_6_method_30_code
def yX4_changeKind : MethodName := ⟨RX4, "changeKind", "(II)I"⟩
abbrev cX4_changeCall : ByteArray := prog_6_method_31_code
def yX4_changeCall : MethodName := ⟨RX4, "changeCall", "(IZ)I"⟩
abbrev cX4_writePage : ByteArray := prog_6_method_32_code
def yX4_writePage : MethodName := ⟨RX4, "writePage", "(I)I"⟩
abbrev cX4_readPage : ByteArray := prog_6_method_33_code
def yX4_readPage : MethodName := ⟨RX4, "readPage", "(I)I"⟩
abbrev cX4_forgetPage : ByteArray := prog_6_method_34_code
def yX4_forgetPage : MethodName := ⟨RX4, "forgetPage", "(I)I"⟩
abbrev cX4_moveOnDemand : ByteArray := prog_6_method_35_code
def yX4_moveOnDemand : MethodName := ⟨RX4, "moveOnDemand", "(I)I"⟩
abbrev cX4_passTicks : ByteArray := prog_6_method_36_code
def yX4_passTicks : MethodName := ⟨RX4, "passTicks", "(I)I"⟩
def RX5 : String := "WeakenedPages"
def TX5 : u_T := fun k => match k with
  | 0 => ("WeakenedPages", "now", "LWeakenedPages$Store;", true)
  | 1 => ("WeakenedPages", "before", "LWeakenedPages$Store;", true)
  | 2 => ("WeakenedPages", "trial", "LWeakenedPages$Store;", true)
  | 3 => ("WeakenedPages", "snapshot", "LWeakenedPages$Store;", true)
  | 4 => ("WeakenedPages", "hasSnapshot", "Z", false)
  | 5 => ("WeakenedPages", "history", "LWeakenedPages$History;", true)
  | 6 => ("WeakenedPages", "orders", "LWeakenedPages$Orders;", true)
  | 7 => ("WeakenedPages", "wasRefused", "Z", false)
  | 8 => ("WeakenedPages", "refusedOrder", "I", false)
  | 9 => ("WeakenedPages", "refusedError", "I", false)
  | _ => ("WeakenedPages", "refusedTimes", "I", false)
def tyX5 : Nat → FieldType := fun k => match k with
  | 0 => .object "WeakenedPages$Store"
  | 1 => .object "WeakenedPages$Store"
  | 2 => .object "WeakenedPages$Store"
  | 3 => .object "WeakenedPages$Store"
  | 4 => .boolean
  | 5 => .object "WeakenedPages$History"
  | 6 => .object "WeakenedPages$Orders"
  | 7 => .boolean
  | 8 => .int
  | 9 => .int
  | _ => .int
abbrev wsX50 : List Cond := u_ws RX5 TX5 11
theorem nmX5 : ∀ a, a < 11 → ∀ b, b < 11 → a ≠ b → (TX5 a).2.1 ≠ (TX5 b).2.1 := by decide +kernel
theorem tyX5_ok : ∀ k, k < 11 → parseFieldDescriptor (TX5 k).2.2.1 = some (tyX5 k) := by decide +kernel
abbrev cX5_init : ByteArray := prog_1_method_1_code
def yX5_init : MethodName := ⟨RX5, "<init>", "()V"⟩
abbrev cX5_set : ByteArray := prog_1_method_2_code
def yX5_set : MethodName := ⟨RX5, "set", "(II)I"⟩
abbrev cX5_setKind : ByteArray := prog_1_method_3_code
def yX5_setKind : MethodName := ⟨RX5, "setKind", "(II)I"⟩
abbrev cX5_mark : ByteArray := prog_1_method_4_code
def yX5_mark : MethodName := ⟨RX5, "mark", "(IZ)I"⟩
abbrev cX5_write : ByteArray := prog_1_method_5_code
def yX5_write : MethodName := ⟨RX5, "write", "(I)I"⟩
abbrev cX5_read : ByteArray := prog_1_method_6_code
def yX5_read : MethodName := ⟨RX5, "read", "(I)I"⟩
abbrev cX5_forget : ByteArray := prog_1_method_7_code
def yX5_forget : MethodName := ⟨RX5, "forget", "(I)I"⟩
abbrev cX5_moveBlock : ByteArray := prog_1_method_8_code
def yX5_moveBlock : MethodName := ⟨RX5, "moveBlock", "(I)I"⟩
abbrev cX5_pass : ByteArray := prog_1_method_9_code
def yX5_pass : MethodName := ⟨RX5, "pass", "(I)I"⟩
abbrev cX5_settle : ByteArray := prog_1_method_10_code
def yX5_settle : MethodName := ⟨RX5, "settle", "(I)I"⟩
abbrev cX5_type : ByteArray := prog_1_method_11_code
def yX5_type : MethodName := ⟨RX5, "type", "(C)I"⟩
abbrev cX5_clearText : ByteArray := prog_1_method_12_code
def yX5_clearText : MethodName := ⟨RX5, "clearText", "()I"⟩
abbrev cX5_perform : ByteArray := prog_1_method_13_code
def yX5_perform : MethodName := ⟨RX5, "perform", "()I"⟩
abbrev cX5_performOnce : ByteArray := prog_1_method_14_code
def yX5_performOnce : MethodName := ⟨RX5, "performOnce", "(I)I"⟩
abbrev cX5_noteRefusal : ByteArray := prog_1_method_15_code
def yX5_noteRefusal : MethodName := ⟨RX5, "noteRefusal", "(III)V"⟩
abbrev cX5_refusal : ByteArray := prog_1_method_16_code
def yX5_refusal : MethodName := ⟨RX5, "refusal", "(I)I"⟩
abbrev cX5_undo : ByteArray := prog_1_method_17_code
def yX5_undo : MethodName := ⟨RX5, "undo", "()I"⟩
abbrev cX5_keep : ByteArray := prog_1_method_18_code
def yX5_keep : MethodName := ⟨RX5, "keep", "()I"⟩
abbrev cX5_restore : ByteArray := prog_1_method_19_code
def yX5_restore : MethodName := ⟨RX5, "restore", "()I"⟩
abbrev cX5_page : ByteArray := prog_1_method_20_code
def yX5_page : MethodName := ⟨RX5, "page", "(II)I"⟩
abbrev cX5_block : ByteArray := prog_1_method_21_code
def yX5_block : MethodName := ⟨RX5, "block", "(II)I"⟩
abbrev cX5_place : ByteArray := prog_1_method_22_code
def yX5_place : MethodName := ⟨RX5, "place", "(III)I"⟩
abbrev cX5_marked : ByteArray := prog_1_method_23_code
def yX5_marked : MethodName := ⟨RX5, "marked", "(I)I"⟩
abbrev cX5_quietIn : ByteArray := prog_1_method_24_code
def yX5_quietIn : MethodName := ⟨RX5, "quietIn", "()I"⟩
abbrev cX5_erasure : ByteArray := prog_1_method_25_code
def yX5_erasure : MethodName := ⟨RX5, "erasure", "(II)I"⟩
abbrev cX5_count : ByteArray := prog_1_method_26_code
def yX5_count : MethodName := ⟨RX5, "count", "(I)I"⟩
abbrev cX5_setting : ByteArray := prog_1_method_27_code
def yX5_setting : MethodName := ⟨RX5, "setting", "(I)I"⟩
abbrev cX5_isPage : ByteArray := prog_1_method_28_code
def yX5_isPage : MethodName := ⟨RX5, "isPage", "(I)Z"⟩
abbrev cX5_isBlock : ByteArray := prog_1_method_29_code
def yX5_isBlock : MethodName := ⟨RX5, "isBlock", "(I)Z"⟩
abbrev cX5_isSetting : ByteArray := prog_1_method_30_code
def yX5_isSetting : MethodName := ⟨RX5, "isSetting", "(I)Z"⟩
def RX6 : String := "WeakenedPagesModel"
def TX6 : u_T := fun k => match k with
  | 0 => ("WeakenedPagesModel", "now", "[I", true)
  | 1 => ("WeakenedPagesModel", "then", "[I", true)
  | 2 => ("WeakenedPagesModel", "back", "[I", true)
  | 3 => ("WeakenedPagesModel", "past", "[I", true)
  | 4 => ("WeakenedPagesModel", "kept", "I", false)
  | 5 => ("WeakenedPagesModel", "shot", "[I", true)
  | 6 => ("WeakenedPagesModel", "isShot", "Z", false)
  | 7 => ("WeakenedPagesModel", "text", "[I", true)
  | 8 => ("WeakenedPagesModel", "typed", "I", false)
  | 9 => ("WeakenedPagesModel", "at", "I", false)
  | 10 => ("WeakenedPagesModel", "value", "I", false)
  | 11 => ("WeakenedPagesModel", "told", "[I", true)
  | 12 => ("WeakenedPagesModel", "tolds", "I", false)
  | 13 => ("WeakenedPagesModel", "refused", "[I", true)
  | _ => ("WeakenedPagesModel", "isRefused", "Z", false)
def tyX6 : Nat → FieldType := fun k => match k with
  | 0 => .array .int
  | 1 => .array .int
  | 2 => .array .int
  | 3 => .array .int
  | 4 => .int
  | 5 => .array .int
  | 6 => .boolean
  | 7 => .array .int
  | 8 => .int
  | 9 => .int
  | 10 => .int
  | 11 => .array .int
  | 12 => .int
  | 13 => .array .int
  | _ => .boolean
abbrev wsX60 : List Cond := u_ws RX6 TX6 15
theorem nmX6 : ∀ a, a < 15 → ∀ b, b < 15 → a ≠ b → (TX6 a).2.1 ≠ (TX6 b).2.1 := by decide +kernel
theorem tyX6_ok : ∀ k, k < 15 → parseFieldDescriptor (TX6 k).2.2.1 = some (tyX6 k) := by decide +kernel
abbrev cX6_init : ByteArray := prog_8_method_1_code
def yX6_init : MethodName := ⟨RX6, "<init>", "()V"⟩
abbrev cX6_in : ByteArray := prog_8_method_3_code
def yX6_in : MethodName := ⟨RX6, "in", "(III)Z"⟩
abbrev cX6_isPage : ByteArray := prog_8_method_4_code
def yX6_isPage : MethodName := ⟨RX6, "isPage", "(I)Z"⟩
abbrev cX6_isBlock : ByteArray := prog_8_method_5_code
def yX6_isBlock : MethodName := ⟨RX6, "isBlock", "(I)Z"⟩
abbrev cX6_lays : ByteArray := prog_8_method_6_code
def yX6_lays : MethodName := ⟨RX6, "lays", "([II[II)V"⟩
abbrev cX6_records : ByteArray := prog_8_method_7_code
def yX6_records : MethodName := ⟨RX6, "records", "()V"⟩
abbrev cX6_becomes : ByteArray := prog_8_method_8_code
def yX6_becomes : MethodName := ⟨RX6, "becomes", "(I)I"⟩
abbrev cX6_tries : ByteArray := prog_8_method_9_code
def yX6_tries : MethodName := ⟨RX6, "tries", "()V"⟩
abbrev cX6_undo : ByteArray := prog_8_method_10_code
def yX6_undo : MethodName := ⟨RX6, "undo", "()I"⟩
abbrev cX6_keep : ByteArray := prog_8_method_11_code
def yX6_keep : MethodName := ⟨RX6, "keep", "()I"⟩
abbrev cX6_restore : ByteArray := prog_8_method_12_code
def yX6_restore : MethodName := ⟨RX6, "restore", "()I"⟩
abbrev cX6_holds : ByteArray := prog_8_method_13_code
def yX6_holds : MethodName := ⟨RX6, "holds", "([II)I"⟩
abbrev cX6_weak : ByteArray := prog_8_method_14_code
def yX6_weak : MethodName := ⟨RX6, "weak", "([II)I"⟩
abbrev cX6_placeOf : ByteArray := prog_8_method_15_code
def yX6_placeOf : MethodName := ⟨RX6, "placeOf", "([II)I"⟩
abbrev cX6_kind : ByteArray := prog_8_method_16_code
def yX6_kind : MethodName := ⟨RX6, "kind", "([II)I"⟩
abbrev cX6_bears : ByteArray := prog_8_method_17_code
def yX6_bears : MethodName := ⟨RX6, "bears", "([II)I"⟩
abbrev cX6_many : ByteArray := prog_8_method_18_code
def yX6_many : MethodName := ⟨RX6, "many", "([III)I"⟩
abbrev cX6_isFree : ByteArray := prog_8_method_19_code
def yX6_isFree : MethodName := ⟨RX6, "isFree", "([II)Z"⟩
abbrev cX6_free : ByteArray := prog_8_method_20_code
def yX6_free : MethodName := ⟨RX6, "free", "([I)I"⟩
abbrev cX6_weaker : ByteArray := prog_8_method_21_code
def yX6_weaker : MethodName := ⟨RX6, "weaker", "([III)I"⟩
abbrev cX6_readsLeft : ByteArray := prog_8_method_22_code
def yX6_readsLeft : MethodName := ⟨RX6, "readsLeft", "([II)I"⟩
abbrev cX6_reads : ByteArray := prog_8_method_23_code
def yX6_reads : MethodName := ⟨RX6, "reads", "([II)V"⟩
abbrev cX6_greatest : ByteArray := prog_8_method_24_code
def yX6_greatest : MethodName := ⟨RX6, "greatest", "([II)I"⟩
abbrev cX6_hundredths : ByteArray := prog_8_method_25_code
def yX6_hundredths : MethodName := ⟨RX6, "hundredths", "([II)I"⟩
abbrev cX6_isMarked : ByteArray := prog_8_method_26_code
def yX6_isMarked : MethodName := ⟨RX6, "isMarked", "([II)Z"⟩
abbrev cX6_marks : ByteArray := prog_8_method_27_code
def yX6_marks : MethodName := ⟨RX6, "marks", "([I)I"⟩
abbrev cX6_markedAt : ByteArray := prog_8_method_28_code
def yX6_markedAt : MethodName := ⟨RX6, "markedAt", "([II)I"⟩
abbrev cX6_buffered : ByteArray := prog_8_method_29_code
def yX6_buffered : MethodName := ⟨RX6, "buffered", "([II)I"⟩
abbrev cX6_leaves : ByteArray := prog_8_method_30_code
def yX6_leaves : MethodName := ⟨RX6, "leaves", "([II)V"⟩
abbrev cX6_fronts : ByteArray := prog_8_method_31_code
def yX6_fronts : MethodName := ⟨RX6, "fronts", "([II)V"⟩
abbrev cX6_isOpenFull : ByteArray := prog_8_method_32_code
def yX6_isOpenFull : MethodName := ⟨RX6, "isOpenFull", "([I)Z"⟩
abbrev cX6_bestFree : ByteArray := prog_8_method_33_code
def yX6_bestFree : MethodName := ⟨RX6, "bestFree", "([I)I"⟩
abbrev cX6_gives : ByteArray := prog_8_method_34_code
def yX6_gives : MethodName := ⟨RX6, "gives", "([II)I"⟩
abbrev cX6_lowestPage : ByteArray := prog_8_method_35_code
def yX6_lowestPage : MethodName := ⟨RX6, "lowestPage", "([II)I"⟩
abbrev cX6_shuts : ByteArray := prog_8_method_36_code
def yX6_shuts : MethodName := ⟨RX6, "shuts", "([II)V"⟩
abbrev cX6_moves : ByteArray := prog_8_method_37_code
def yX6_moves : MethodName := ⟨RX6, "moves", "([II)Z"⟩
abbrev cX6_erases : ByteArray := prog_8_method_38_code
def yX6_erases : MethodName := ⟨RX6, "erases", "([II)V"⟩
abbrev cX6_movesAll : ByteArray := prog_8_method_39_code
def yX6_movesAll : MethodName := ⟨RX6, "movesAll", "([II)I"⟩
abbrev cX6_ticksOn : ByteArray := prog_8_method_40_code
def yX6_ticksOn : MethodName := ⟨RX6, "ticksOn", "([I)I"⟩
abbrev cX6_writesOn : ByteArray := prog_8_method_41_code
def yX6_writesOn : MethodName := ⟨RX6, "writesOn", "([II)I"⟩
abbrev cX6_readsOn : ByteArray := prog_8_method_42_code
def yX6_readsOn : MethodName := ⟨RX6, "readsOn", "([II)I"⟩
abbrev cX6_passesOn : ByteArray := prog_8_method_43_code
def yX6_passesOn : MethodName := ⟨RX6, "passesOn", "([II)I"⟩
abbrev cX6_isFor : ByteArray := prog_8_method_44_code
def yX6_isFor : MethodName := ⟨RX6, "isFor", "(II)Z"⟩
abbrev cX6_set : ByteArray := prog_8_method_45_code
def yX6_set : MethodName := ⟨RX6, "set", "(II)I"⟩
abbrev cX6_setKind : ByteArray := prog_8_method_46_code
def yX6_setKind : MethodName := ⟨RX6, "setKind", "(II)I"⟩
abbrev cX6_mark : ByteArray := prog_8_method_47_code
def yX6_mark : MethodName := ⟨RX6, "mark", "(IZ)I"⟩
abbrev cX6_write : ByteArray := prog_8_method_48_code
def yX6_write : MethodName := ⟨RX6, "write", "(I)I"⟩
abbrev cX6_read : ByteArray := prog_8_method_49_code
def yX6_read : MethodName := ⟨RX6, "read", "(I)I"⟩
abbrev cX6_placed : ByteArray := prog_8_method_50_code
def yX6_placed : MethodName := ⟨RX6, "placed", "([I)I"⟩
abbrev cX6_forget : ByteArray := prog_8_method_51_code
def yX6_forget : MethodName := ⟨RX6, "forget", "(I)I"⟩
abbrev cX6_moveBlock : ByteArray := prog_8_method_52_code
def yX6_moveBlock : MethodName := ⟨RX6, "moveBlock", "(I)I"⟩
abbrev cX6_pass : ByteArray := prog_8_method_53_code
def yX6_pass : MethodName := ⟨RX6, "pass", "(I)I"⟩
abbrev cX6_type : ByteArray := prog_8_method_54_code
def yX6_type : MethodName := ⟨RX6, "type", "(C)I"⟩
abbrev cX6_clearText : ByteArray := prog_8_method_55_code
def yX6_clearText : MethodName := ⟨RX6, "clearText", "()I"⟩
abbrev cX6_isAt : ByteArray := prog_8_method_56_code
def yX6_isAt : MethodName := ⟨RX6, "isAt", "(II)Z"⟩
abbrev cX6_isSign : ByteArray := prog_8_method_57_code
def yX6_isSign : MethodName := ⟨RX6, "isSign", "(I)Z"⟩
abbrev cX6_isNumber : ByteArray := prog_8_method_58_code
def yX6_isNumber : MethodName := ⟨RX6, "isNumber", "(II)Z"⟩
abbrev cX6_isOrder : ByteArray := prog_8_method_59_code
def yX6_isOrder : MethodName := ⟨RX6, "isOrder", "()Z"⟩
abbrev cX6_isText : ByteArray := prog_8_method_60_code
def yX6_isText : MethodName := ⟨RX6, "isText", "()Z"⟩
abbrev cX6_doesOnce : ByteArray := prog_8_method_61_code
def yX6_doesOnce : MethodName := ⟨RX6, "doesOnce", "(I)I"⟩
abbrev cX6_perform : ByteArray := prog_8_method_62_code
def yX6_perform : MethodName := ⟨RX6, "perform", "()I"⟩
abbrev cX6_refusal : ByteArray := prog_8_method_63_code
def yX6_refusal : MethodName := ⟨RX6, "refusal", "(I)I"⟩
abbrev cX6_page : ByteArray := prog_8_method_64_code
def yX6_page : MethodName := ⟨RX6, "page", "(II)I"⟩
abbrev cX6_block : ByteArray := prog_8_method_65_code
def yX6_block : MethodName := ⟨RX6, "block", "(II)I"⟩
abbrev cX6_place : ByteArray := prog_8_method_66_code
def yX6_place : MethodName := ⟨RX6, "place", "(III)I"⟩
abbrev cX6_marked : ByteArray := prog_8_method_67_code
def yX6_marked : MethodName := ⟨RX6, "marked", "(I)I"⟩
abbrev cX6_quietIn : ByteArray := prog_8_method_68_code
def yX6_quietIn : MethodName := ⟨RX6, "quietIn", "()I"⟩
abbrev cX6_erasure : ByteArray := prog_8_method_69_code
def yX6_erasure : MethodName := ⟨RX6, "erasure", "(II)I"⟩
abbrev cX6_weakest : ByteArray := prog_8_method_70_code
def yX6_weakest : MethodName := ⟨RX6, "weakest", "()I"⟩
abbrev cX6_count : ByteArray := prog_8_method_71_code
def yX6_count : MethodName := ⟨RX6, "count", "(I)I"⟩
abbrev cX6_setting : ByteArray := prog_8_method_72_code
def yX6_setting : MethodName := ⟨RX6, "setting", "(I)I"⟩
def RL : String := "WeakenedPagesLaw"
abbrev cL_law : ByteArray := code
def yL_law : MethodName := ⟨RL, "law", "([I)Z"⟩
abbrev vwCl : List vw_C := [(RX0, TX0, 2), (RX1, TX1, 4), (RX2, TX2, 2), (RX3, TX3, 7), (RX4, TX4, 18), (RX5, TX5, 11), (RX6, TX6, 15)]
def W0 : List Cond := lw_tbl.filter goodWord
theorem W0_good : ∀ w ∈ W0, goodWord w = true := fun w h => (List.mem_filter.mp h).2
theorem W0_tbl : ∀ w ∈ W0, w ∈ lw_tbl := fun w h => (List.mem_filter.mp h).1
theorem W0_of {w : Cond} (h : w ∈ lw_tbl) (hg : goodWord w = true) : w ∈ W0 := List.mem_filter.mpr ⟨h, hg⟩
end
section
theorem dX0_init_0 : decode cX0_init 0 = .ok (.aload_n 0, 1) := by decide +kernel
theorem dX0_init_1 : decode cX0_init 1 = .ok (.invokespecial 3, 3) := by decide +kernel
theorem dX0_init_4 : decode cX0_init 4 = .ok (.aload_n 0, 1) := by decide +kernel
theorem dX0_init_5 : decode cX0_init 5 = .ok (.iconst 4, 1) := by decide +kernel
theorem dX0_init_6 : decode cX0_init 6 = .ok (.newarray .int, 2) := by decide +kernel
theorem dX0_init_8 : decode cX0_init 8 = .ok (.putfield 9, 3) := by decide +kernel
theorem dX0_init_11 : decode cX0_init 11 = .ok (.aload_n 0, 1) := by decide +kernel
theorem dX0_init_12 : decode cX0_init 12 = .ok (.iconst 0, 1) := by decide +kernel
theorem dX0_init_13 : decode cX0_init 13 = .ok (.putfield 15, 3) := by decide +kernel
theorem dX0_init_16 : decode cX0_init 16 = .ok (.return_, 1) := by decide +kernel
theorem dX0_copyFrom_0 : decode cX0_copyFrom 0 = .ok (.aload_n 1, 1) := by decide +kernel
theorem dX0_copyFrom_1 : decode cX0_copyFrom 1 = .ok (.getfield 9, 3) := by decide +kernel
theorem dX0_copyFrom_4 : decode cX0_copyFrom 4 = .ok (.iconst 0, 1) := by decide +kernel
theorem dX0_copyFrom_5 : decode cX0_copyFrom 5 = .ok (.aload_n 0, 1) := by decide +kernel
theorem dX0_copyFrom_6 : decode cX0_copyFrom 6 = .ok (.getfield 9, 3) := by decide +kernel
theorem dX0_copyFrom_9 : decode cX0_copyFrom 9 = .ok (.iconst 0, 1) := by decide +kernel
theorem dX0_copyFrom_10 : decode cX0_copyFrom 10 = .ok (.iconst 4, 1) := by decide +kernel
theorem dX0_copyFrom_11 : decode cX0_copyFrom 11 = .ok (.invokestatic 19, 3) := by decide +kernel
theorem dX0_copyFrom_14 : decode cX0_copyFrom 14 = .ok (.aload_n 0, 1) := by decide +kernel
theorem dX0_copyFrom_15 : decode cX0_copyFrom 15 = .ok (.aload_n 1, 1) := by decide +kernel
theorem dX0_copyFrom_16 : decode cX0_copyFrom 16 = .ok (.getfield 15, 3) := by decide +kernel
theorem dX0_copyFrom_19 : decode cX0_copyFrom 19 = .ok (.putfield 15, 3) := by decide +kernel
theorem dX0_copyFrom_22 : decode cX0_copyFrom 22 = .ok (.return_, 1) := by decide +kernel
theorem dX0_rankOf_0 : decode cX0_rankOf 0 = .ok (.iconst 0, 1) := by decide +kernel
theorem dX0_rankOf_1 : decode cX0_rankOf 1 = .ok (.istore_n 2, 1) := by decide +kernel
theorem dX0_rankOf_2 : decode cX0_rankOf 2 = .ok (.iload_n 2, 1) := by decide +kernel
theorem dX0_rankOf_3 : decode cX0_rankOf 3 = .ok (.aload_n 0, 1) := by decide +kernel
theorem dX0_rankOf_4 : decode cX0_rankOf 4 = .ok (.getfield 15, 3) := by decide +kernel
theorem dX0_rankOf_7 : decode cX0_rankOf 7 = .ok (.if_icmp .ge 26, 3) := by decide +kernel
theorem dX0_rankOf_10 : decode cX0_rankOf 10 = .ok (.iload_n 2, 1) := by decide +kernel
theorem dX0_rankOf_11 : decode cX0_rankOf 11 = .ok (.iconst 4, 1) := by decide +kernel
theorem dX0_rankOf_12 : decode cX0_rankOf 12 = .ok (.if_icmp .ge 21, 3) := by decide +kernel
theorem dX0_rankOf_15 : decode cX0_rankOf 15 = .ok (.aload_n 0, 1) := by decide +kernel
theorem dX0_rankOf_16 : decode cX0_rankOf 16 = .ok (.getfield 9, 3) := by decide +kernel
theorem dX0_rankOf_19 : decode cX0_rankOf 19 = .ok (.iload_n 2, 1) := by decide +kernel
theorem dX0_rankOf_20 : decode cX0_rankOf 20 = .ok (.iaload, 1) := by decide +kernel
theorem dX0_rankOf_21 : decode cX0_rankOf 21 = .ok (.iload_n 1, 1) := by decide +kernel
theorem dX0_rankOf_22 : decode cX0_rankOf 22 = .ok (.if_icmp .ne 5, 3) := by decide +kernel
theorem dX0_rankOf_25 : decode cX0_rankOf 25 = .ok (.iload_n 2, 1) := by decide +kernel
theorem dX0_rankOf_26 : decode cX0_rankOf 26 = .ok (.ireturn, 1) := by decide +kernel
theorem dX0_rankOf_27 : decode cX0_rankOf 27 = .ok (.iinc 2 1, 3) := by decide +kernel
theorem dX0_rankOf_30 : decode cX0_rankOf 30 = .ok (.goto (-28), 3) := by decide +kernel
theorem dX0_rankOf_33 : decode cX0_rankOf 33 = .ok (.iconst (-1), 1) := by decide +kernel
theorem dX0_rankOf_34 : decode cX0_rankOf 34 = .ok (.ireturn, 1) := by decide +kernel
theorem dX0_putFirst_0 : decode cX0_putFirst 0 = .ok (.aload_n 0, 1) := by decide +kernel
theorem dX0_putFirst_1 : decode cX0_putFirst 1 = .ok (.iload_n 1, 1) := by decide +kernel
theorem dX0_putFirst_2 : decode cX0_putFirst 2 = .ok (.invokevirtual 25, 3) := by decide +kernel
theorem dX0_putFirst_5 : decode cX0_putFirst 5 = .ok (.iload_n 2, 1) := by decide +kernel
theorem dX0_putFirst_6 : decode cX0_putFirst 6 = .ok (.iconst 4, 1) := by decide +kernel
theorem dX0_putFirst_7 : decode cX0_putFirst 7 = .ok (.invokestatic 29, 3) := by decide +kernel
theorem dX0_putFirst_10 : decode cX0_putFirst 10 = .ok (.istore_n 3, 1) := by decide +kernel
theorem dX0_putFirst_11 : decode cX0_putFirst 11 = .ok (.iload_n 3, 1) := by decide +kernel
theorem dX0_putFirst_12 : decode cX0_putFirst 12 = .ok (.iconst 1, 1) := by decide +kernel
theorem dX0_putFirst_13 : decode cX0_putFirst 13 = .ok (.if_icmp .ge 4, 3) := by decide +kernel
theorem dX0_putFirst_16 : decode cX0_putFirst 16 = .ok (.return_, 1) := by decide +kernel
theorem dX0_putFirst_17 : decode cX0_putFirst 17 = .ok (.aload_n 0, 1) := by decide +kernel
theorem dX0_putFirst_18 : decode cX0_putFirst 18 = .ok (.iload_n 3, 1) := by decide +kernel
theorem dX0_putFirst_19 : decode cX0_putFirst 19 = .ok (.iconst 1, 1) := by decide +kernel
theorem dX0_putFirst_20 : decode cX0_putFirst 20 = .ok (.isub, 1) := by decide +kernel
theorem dX0_putFirst_21 : decode cX0_putFirst 21 = .ok (.invokevirtual 35, 3) := by decide +kernel
theorem dX0_putFirst_24 : decode cX0_putFirst 24 = .ok (.aload_n 0, 1) := by decide +kernel
theorem dX0_putFirst_25 : decode cX0_putFirst 25 = .ok (.getfield 15, 3) := by decide +kernel
theorem dX0_putFirst_28 : decode cX0_putFirst 28 = .ok (.istore 4, 2) := by decide +kernel
theorem dX0_putFirst_30 : decode cX0_putFirst 30 = .ok (.iload 4, 2) := by decide +kernel
theorem dX0_putFirst_32 : decode cX0_putFirst 32 = .ok (.ifCond .le 25, 3) := by decide +kernel
theorem dX0_putFirst_35 : decode cX0_putFirst 35 = .ok (.aload_n 0, 1) := by decide +kernel
theorem dX0_putFirst_36 : decode cX0_putFirst 36 = .ok (.getfield 9, 3) := by decide +kernel
theorem dX0_putFirst_39 : decode cX0_putFirst 39 = .ok (.iload 4, 2) := by decide +kernel
theorem dX0_putFirst_41 : decode cX0_putFirst 41 = .ok (.aload_n 0, 1) := by decide +kernel
theorem dX0_putFirst_42 : decode cX0_putFirst 42 = .ok (.getfield 9, 3) := by decide +kernel
theorem dX0_putFirst_45 : decode cX0_putFirst 45 = .ok (.iload 4, 2) := by decide +kernel
theorem dX0_putFirst_47 : decode cX0_putFirst 47 = .ok (.iconst 1, 1) := by decide +kernel
theorem dX0_putFirst_48 : decode cX0_putFirst 48 = .ok (.isub, 1) := by decide +kernel
theorem dX0_putFirst_49 : decode cX0_putFirst 49 = .ok (.iaload, 1) := by decide +kernel
theorem dX0_putFirst_50 : decode cX0_putFirst 50 = .ok (.iastore, 1) := by decide +kernel
theorem dX0_putFirst_51 : decode cX0_putFirst 51 = .ok (.iinc 4 (-1), 3) := by decide +kernel
theorem dX0_putFirst_54 : decode cX0_putFirst 54 = .ok (.goto (-24), 3) := by decide +kernel
theorem dX0_putFirst_57 : decode cX0_putFirst 57 = .ok (.aload_n 0, 1) := by decide +kernel
theorem dX0_putFirst_58 : decode cX0_putFirst 58 = .ok (.getfield 9, 3) := by decide +kernel
theorem dX0_putFirst_61 : decode cX0_putFirst 61 = .ok (.iconst 0, 1) := by decide +kernel
theorem dX0_putFirst_62 : decode cX0_putFirst 62 = .ok (.iload_n 1, 1) := by decide +kernel
theorem dX0_putFirst_63 : decode cX0_putFirst 63 = .ok (.iastore, 1) := by decide +kernel
theorem dX0_putFirst_64 : decode cX0_putFirst 64 = .ok (.aload_n 0, 1) := by decide +kernel
theorem dX0_putFirst_65 : decode cX0_putFirst 65 = .ok (.dup, 1) := by decide +kernel
theorem dX0_putFirst_66 : decode cX0_putFirst 66 = .ok (.getfield 15, 3) := by decide +kernel
theorem dX0_putFirst_69 : decode cX0_putFirst 69 = .ok (.iconst 1, 1) := by decide +kernel
theorem dX0_putFirst_70 : decode cX0_putFirst 70 = .ok (.iadd, 1) := by decide +kernel
theorem dX0_putFirst_71 : decode cX0_putFirst 71 = .ok (.putfield 15, 3) := by decide +kernel
theorem dX0_putFirst_74 : decode cX0_putFirst 74 = .ok (.return_, 1) := by decide +kernel
theorem dX0_drop_0 : decode cX0_drop 0 = .ok (.aload_n 0, 1) := by decide +kernel
theorem dX0_drop_1 : decode cX0_drop 1 = .ok (.iload_n 1, 1) := by decide +kernel
theorem dX0_drop_2 : decode cX0_drop 2 = .ok (.invokevirtual 38, 3) := by decide +kernel
theorem dX0_drop_5 : decode cX0_drop 5 = .ok (.istore_n 2, 1) := by decide +kernel
theorem dX0_drop_6 : decode cX0_drop 6 = .ok (.iload_n 2, 1) := by decide +kernel
theorem dX0_drop_7 : decode cX0_drop 7 = .ok (.iconst (-1), 1) := by decide +kernel
theorem dX0_drop_8 : decode cX0_drop 8 = .ok (.if_icmp .ne 4, 3) := by decide +kernel
theorem dX0_drop_11 : decode cX0_drop 11 = .ok (.return_, 1) := by decide +kernel
theorem dX0_drop_12 : decode cX0_drop 12 = .ok (.iload_n 2, 1) := by decide +kernel
theorem dX0_drop_13 : decode cX0_drop 13 = .ok (.iconst 1, 1) := by decide +kernel
theorem dX0_drop_14 : decode cX0_drop 14 = .ok (.iadd, 1) := by decide +kernel
theorem dX0_drop_15 : decode cX0_drop 15 = .ok (.istore_n 3, 1) := by decide +kernel
theorem dX0_drop_16 : decode cX0_drop 16 = .ok (.iload_n 3, 1) := by decide +kernel
theorem dX0_drop_17 : decode cX0_drop 17 = .ok (.aload_n 0, 1) := by decide +kernel
theorem dX0_drop_18 : decode cX0_drop 18 = .ok (.getfield 15, 3) := by decide +kernel
theorem dX0_drop_21 : decode cX0_drop 21 = .ok (.if_icmp .ge 28, 3) := by decide +kernel
theorem dX0_drop_24 : decode cX0_drop 24 = .ok (.iload_n 3, 1) := by decide +kernel
theorem dX0_drop_25 : decode cX0_drop 25 = .ok (.iconst 4, 1) := by decide +kernel
theorem dX0_drop_26 : decode cX0_drop 26 = .ok (.if_icmp .ge 23, 3) := by decide +kernel
theorem dX0_drop_29 : decode cX0_drop 29 = .ok (.aload_n 0, 1) := by decide +kernel
theorem dX0_drop_30 : decode cX0_drop 30 = .ok (.getfield 9, 3) := by decide +kernel
theorem dX0_drop_33 : decode cX0_drop 33 = .ok (.iload_n 3, 1) := by decide +kernel
theorem dX0_drop_34 : decode cX0_drop 34 = .ok (.iconst 1, 1) := by decide +kernel
theorem dX0_drop_35 : decode cX0_drop 35 = .ok (.isub, 1) := by decide +kernel
theorem dX0_drop_36 : decode cX0_drop 36 = .ok (.aload_n 0, 1) := by decide +kernel
theorem dX0_drop_37 : decode cX0_drop 37 = .ok (.getfield 9, 3) := by decide +kernel
theorem dX0_drop_40 : decode cX0_drop 40 = .ok (.iload_n 3, 1) := by decide +kernel
theorem dX0_drop_41 : decode cX0_drop 41 = .ok (.iaload, 1) := by decide +kernel
theorem dX0_drop_42 : decode cX0_drop 42 = .ok (.iastore, 1) := by decide +kernel
theorem dX0_drop_43 : decode cX0_drop 43 = .ok (.iinc 3 1, 3) := by decide +kernel
theorem dX0_drop_46 : decode cX0_drop 46 = .ok (.goto (-30), 3) := by decide +kernel
theorem dX0_drop_49 : decode cX0_drop 49 = .ok (.aload_n 0, 1) := by decide +kernel
theorem dX0_drop_50 : decode cX0_drop 50 = .ok (.dup, 1) := by decide +kernel
theorem dX0_drop_51 : decode cX0_drop 51 = .ok (.getfield 15, 3) := by decide +kernel
theorem dX0_drop_54 : decode cX0_drop 54 = .ok (.iconst 1, 1) := by decide +kernel
theorem dX0_drop_55 : decode cX0_drop 55 = .ok (.isub, 1) := by decide +kernel
theorem dX0_drop_56 : decode cX0_drop 56 = .ok (.putfield 15, 3) := by decide +kernel
theorem dX0_drop_59 : decode cX0_drop 59 = .ok (.return_, 1) := by decide +kernel
theorem dX0_shrinkTo_0 : decode cX0_shrinkTo 0 = .ok (.aload_n 0, 1) := by decide +kernel
theorem dX0_shrinkTo_1 : decode cX0_shrinkTo 1 = .ok (.aload_n 0, 1) := by decide +kernel
theorem dX0_shrinkTo_2 : decode cX0_shrinkTo 2 = .ok (.getfield 15, 3) := by decide +kernel
theorem dX0_shrinkTo_5 : decode cX0_shrinkTo 5 = .ok (.iload_n 1, 1) := by decide +kernel
theorem dX0_shrinkTo_6 : decode cX0_shrinkTo 6 = .ok (.invokestatic 29, 3) := by decide +kernel
theorem dX0_shrinkTo_9 : decode cX0_shrinkTo 9 = .ok (.putfield 15, 3) := by decide +kernel
theorem dX0_shrinkTo_12 : decode cX0_shrinkTo 12 = .ok (.return_, 1) := by decide +kernel
theorem dX1_init_0 : decode cX1_init 0 = .ok (.aload_n 0, 1) := by decide +kernel
theorem dX1_init_1 : decode cX1_init 1 = .ok (.invokespecial 3, 3) := by decide +kernel
theorem dX1_init_4 : decode cX1_init 4 = .ok (.aload_n 0, 1) := by decide +kernel
theorem dX1_init_5 : decode cX1_init 5 = .ok (.bipush 8, 2) := by decide +kernel
theorem dX1_init_7 : decode cX1_init 7 = .ok (.newarray .int, 2) := by decide +kernel
theorem dX1_init_9 : decode cX1_init 9 = .ok (.putfield 9, 3) := by decide +kernel
theorem dX1_init_12 : decode cX1_init 12 = .ok (.aload_n 0, 1) := by decide +kernel
theorem dX1_init_13 : decode cX1_init 13 = .ok (.bipush 8, 2) := by decide +kernel
theorem dX1_init_15 : decode cX1_init 15 = .ok (.newarray .int, 2) := by decide +kernel
theorem dX1_init_17 : decode cX1_init 17 = .ok (.putfield 15, 3) := by decide +kernel
theorem dX1_init_20 : decode cX1_init 20 = .ok (.aload_n 0, 1) := by decide +kernel
theorem dX1_init_21 : decode cX1_init 21 = .ok (.bipush 8, 2) := by decide +kernel
theorem dX1_init_23 : decode cX1_init 23 = .ok (.newarray .int, 2) := by decide +kernel
theorem dX1_init_25 : decode cX1_init 25 = .ok (.putfield 18, 3) := by decide +kernel
theorem dX1_init_28 : decode cX1_init 28 = .ok (.aload_n 0, 1) := by decide +kernel
theorem dX1_init_29 : decode cX1_init 29 = .ok (.iconst 0, 1) := by decide +kernel
theorem dX1_init_30 : decode cX1_init 30 = .ok (.putfield 21, 3) := by decide +kernel
theorem dX1_init_33 : decode cX1_init 33 = .ok (.return_, 1) := by decide +kernel
theorem dX1_copyFrom_0 : decode cX1_copyFrom 0 = .ok (.aload_n 1, 1) := by decide +kernel
theorem dX1_copyFrom_1 : decode cX1_copyFrom 1 = .ok (.getfield 9, 3) := by decide +kernel
theorem dX1_copyFrom_4 : decode cX1_copyFrom 4 = .ok (.iconst 0, 1) := by decide +kernel
theorem dX1_copyFrom_5 : decode cX1_copyFrom 5 = .ok (.aload_n 0, 1) := by decide +kernel
theorem dX1_copyFrom_6 : decode cX1_copyFrom 6 = .ok (.getfield 9, 3) := by decide +kernel
theorem dX1_copyFrom_9 : decode cX1_copyFrom 9 = .ok (.iconst 0, 1) := by decide +kernel
theorem dX1_copyFrom_10 : decode cX1_copyFrom 10 = .ok (.bipush 8, 2) := by decide +kernel
theorem dX1_copyFrom_12 : decode cX1_copyFrom 12 = .ok (.invokestatic 25, 3) := by decide +kernel
theorem dX1_copyFrom_15 : decode cX1_copyFrom 15 = .ok (.aload_n 1, 1) := by decide +kernel
theorem dX1_copyFrom_16 : decode cX1_copyFrom 16 = .ok (.getfield 15, 3) := by decide +kernel
theorem dX1_copyFrom_19 : decode cX1_copyFrom 19 = .ok (.iconst 0, 1) := by decide +kernel
theorem dX1_copyFrom_20 : decode cX1_copyFrom 20 = .ok (.aload_n 0, 1) := by decide +kernel
theorem dX1_copyFrom_21 : decode cX1_copyFrom 21 = .ok (.getfield 15, 3) := by decide +kernel
theorem dX1_copyFrom_24 : decode cX1_copyFrom 24 = .ok (.iconst 0, 1) := by decide +kernel
theorem dX1_copyFrom_25 : decode cX1_copyFrom 25 = .ok (.bipush 8, 2) := by decide +kernel
theorem dX1_copyFrom_27 : decode cX1_copyFrom 27 = .ok (.invokestatic 25, 3) := by decide +kernel
theorem dX1_copyFrom_30 : decode cX1_copyFrom 30 = .ok (.aload_n 1, 1) := by decide +kernel
theorem dX1_copyFrom_31 : decode cX1_copyFrom 31 = .ok (.getfield 18, 3) := by decide +kernel
theorem dX1_copyFrom_34 : decode cX1_copyFrom 34 = .ok (.iconst 0, 1) := by decide +kernel
theorem dX1_copyFrom_35 : decode cX1_copyFrom 35 = .ok (.aload_n 0, 1) := by decide +kernel
theorem dX1_copyFrom_36 : decode cX1_copyFrom 36 = .ok (.getfield 18, 3) := by decide +kernel
theorem dX1_copyFrom_39 : decode cX1_copyFrom 39 = .ok (.iconst 0, 1) := by decide +kernel
theorem dX1_copyFrom_40 : decode cX1_copyFrom 40 = .ok (.bipush 8, 2) := by decide +kernel
theorem dX1_copyFrom_42 : decode cX1_copyFrom 42 = .ok (.invokestatic 25, 3) := by decide +kernel
theorem dX1_copyFrom_45 : decode cX1_copyFrom 45 = .ok (.aload_n 0, 1) := by decide +kernel
theorem dX1_copyFrom_46 : decode cX1_copyFrom 46 = .ok (.aload_n 1, 1) := by decide +kernel
theorem dX1_copyFrom_47 : decode cX1_copyFrom 47 = .ok (.getfield 21, 3) := by decide +kernel
theorem dX1_copyFrom_50 : decode cX1_copyFrom 50 = .ok (.putfield 21, 3) := by decide +kernel
theorem dX1_copyFrom_53 : decode cX1_copyFrom 53 = .ok (.return_, 1) := by decide +kernel
theorem dX1_note_0 : decode cX1_note 0 = .ok (.bipush 7, 2) := by decide +kernel
theorem dX1_note_2 : decode cX1_note 2 = .ok (.istore 4, 2) := by decide +kernel
theorem dX1_note_4 : decode cX1_note 4 = .ok (.iload 4, 2) := by decide +kernel
theorem dX1_note_6 : decode cX1_note 6 = .ok (.ifCond .le 57, 3) := by decide +kernel
theorem dX1_note_9 : decode cX1_note 9 = .ok (.aload_n 0, 1) := by decide +kernel
theorem dX1_note_10 : decode cX1_note 10 = .ok (.getfield 9, 3) := by decide +kernel
theorem dX1_note_13 : decode cX1_note 13 = .ok (.iload 4, 2) := by decide +kernel
theorem dX1_note_15 : decode cX1_note 15 = .ok (.aload_n 0, 1) := by decide +kernel
theorem dX1_note_16 : decode cX1_note 16 = .ok (.getfield 9, 3) := by decide +kernel
theorem dX1_note_19 : decode cX1_note 19 = .ok (.iload 4, 2) := by decide +kernel
theorem dX1_note_21 : decode cX1_note 21 = .ok (.iconst 1, 1) := by decide +kernel
theorem dX1_note_22 : decode cX1_note 22 = .ok (.isub, 1) := by decide +kernel
theorem dX1_note_23 : decode cX1_note 23 = .ok (.iaload, 1) := by decide +kernel
theorem dX1_note_24 : decode cX1_note 24 = .ok (.iastore, 1) := by decide +kernel
theorem dX1_note_25 : decode cX1_note 25 = .ok (.aload_n 0, 1) := by decide +kernel
theorem dX1_note_26 : decode cX1_note 26 = .ok (.getfield 15, 3) := by decide +kernel
theorem dX1_note_29 : decode cX1_note 29 = .ok (.iload 4, 2) := by decide +kernel
theorem dX1_note_31 : decode cX1_note 31 = .ok (.aload_n 0, 1) := by decide +kernel
theorem dX1_note_32 : decode cX1_note 32 = .ok (.getfield 15, 3) := by decide +kernel
theorem dX1_note_35 : decode cX1_note 35 = .ok (.iload 4, 2) := by decide +kernel
theorem dX1_note_37 : decode cX1_note 37 = .ok (.iconst 1, 1) := by decide +kernel
theorem dX1_note_38 : decode cX1_note 38 = .ok (.isub, 1) := by decide +kernel
theorem dX1_note_39 : decode cX1_note 39 = .ok (.iaload, 1) := by decide +kernel
theorem dX1_note_40 : decode cX1_note 40 = .ok (.iastore, 1) := by decide +kernel
theorem dX1_note_41 : decode cX1_note 41 = .ok (.aload_n 0, 1) := by decide +kernel
theorem dX1_note_42 : decode cX1_note 42 = .ok (.getfield 18, 3) := by decide +kernel
theorem dX1_note_45 : decode cX1_note 45 = .ok (.iload 4, 2) := by decide +kernel
theorem dX1_note_47 : decode cX1_note 47 = .ok (.aload_n 0, 1) := by decide +kernel
theorem dX1_note_48 : decode cX1_note 48 = .ok (.getfield 18, 3) := by decide +kernel
theorem dX1_note_51 : decode cX1_note 51 = .ok (.iload 4, 2) := by decide +kernel
theorem dX1_note_53 : decode cX1_note 53 = .ok (.iconst 1, 1) := by decide +kernel
theorem dX1_note_54 : decode cX1_note 54 = .ok (.isub, 1) := by decide +kernel
theorem dX1_note_55 : decode cX1_note 55 = .ok (.iaload, 1) := by decide +kernel
theorem dX1_note_56 : decode cX1_note 56 = .ok (.iastore, 1) := by decide +kernel
theorem dX1_note_57 : decode cX1_note 57 = .ok (.iinc 4 (-1), 3) := by decide +kernel
theorem dX1_note_60 : decode cX1_note 60 = .ok (.goto (-56), 3) := by decide +kernel
theorem dX1_note_63 : decode cX1_note 63 = .ok (.aload_n 0, 1) := by decide +kernel
theorem dX1_note_64 : decode cX1_note 64 = .ok (.getfield 9, 3) := by decide +kernel
theorem dX1_note_67 : decode cX1_note 67 = .ok (.iconst 0, 1) := by decide +kernel
theorem dX1_note_68 : decode cX1_note 68 = .ok (.iload_n 1, 1) := by decide +kernel
theorem dX1_note_69 : decode cX1_note 69 = .ok (.iastore, 1) := by decide +kernel
theorem dX1_note_70 : decode cX1_note 70 = .ok (.aload_n 0, 1) := by decide +kernel
theorem dX1_note_71 : decode cX1_note 71 = .ok (.getfield 15, 3) := by decide +kernel
theorem dX1_note_74 : decode cX1_note 74 = .ok (.iconst 0, 1) := by decide +kernel
theorem dX1_note_75 : decode cX1_note 75 = .ok (.iload_n 2, 1) := by decide +kernel
theorem dX1_note_76 : decode cX1_note 76 = .ok (.iastore, 1) := by decide +kernel
theorem dX1_note_77 : decode cX1_note 77 = .ok (.aload_n 0, 1) := by decide +kernel
theorem dX1_note_78 : decode cX1_note 78 = .ok (.getfield 18, 3) := by decide +kernel
theorem dX1_note_81 : decode cX1_note 81 = .ok (.iconst 0, 1) := by decide +kernel
theorem dX1_note_82 : decode cX1_note 82 = .ok (.iload_n 3, 1) := by decide +kernel
theorem dX1_note_83 : decode cX1_note 83 = .ok (.iastore, 1) := by decide +kernel
theorem dX1_note_84 : decode cX1_note 84 = .ok (.aload_n 0, 1) := by decide +kernel
theorem dX1_note_85 : decode cX1_note 85 = .ok (.dup, 1) := by decide +kernel
theorem dX1_note_86 : decode cX1_note 86 = .ok (.getfield 21, 3) := by decide +kernel
theorem dX1_note_89 : decode cX1_note 89 = .ok (.iconst 1, 1) := by decide +kernel
theorem dX1_note_90 : decode cX1_note 90 = .ok (.iadd, 1) := by decide +kernel
theorem dX1_note_91 : decode cX1_note 91 = .ok (.putfield 21, 3) := by decide +kernel
theorem dX1_note_94 : decode cX1_note 94 = .ok (.return_, 1) := by decide +kernel
theorem dX2_init_0 : decode cX2_init 0 = .ok (.aload_n 0, 1) := by decide +kernel
theorem dX2_init_1 : decode cX2_init 1 = .ok (.invokespecial 3, 3) := by decide +kernel
theorem dX2_init_4 : decode cX2_init 4 = .ok (.aload_n 0, 1) := by decide +kernel
theorem dX2_init_5 : decode cX2_init 5 = .ok (.iconst 4, 1) := by decide +kernel
theorem dX2_init_6 : decode cX2_init 6 = .ok (.anewarray 9, 3) := by decide +kernel
theorem dX2_init_9 : decode cX2_init 9 = .ok (.putfield 11, 3) := by decide +kernel
theorem dX2_init_12 : decode cX2_init 12 = .ok (.aload_n 0, 1) := by decide +kernel
theorem dX2_init_13 : decode cX2_init 13 = .ok (.iconst 0, 1) := by decide +kernel
theorem dX2_init_14 : decode cX2_init 14 = .ok (.putfield 17, 3) := by decide +kernel
theorem dX2_init_17 : decode cX2_init 17 = .ok (.iconst 0, 1) := by decide +kernel
theorem dX2_init_18 : decode cX2_init 18 = .ok (.istore_n 1, 1) := by decide +kernel
theorem dX2_init_19 : decode cX2_init 19 = .ok (.iload_n 1, 1) := by decide +kernel
theorem dX2_init_20 : decode cX2_init 20 = .ok (.iconst 4, 1) := by decide +kernel
theorem dX2_init_21 : decode cX2_init 21 = .ok (.if_icmp .ge 22, 3) := by decide +kernel
theorem dX2_init_24 : decode cX2_init 24 = .ok (.aload_n 0, 1) := by decide +kernel
theorem dX2_init_25 : decode cX2_init 25 = .ok (.getfield 11, 3) := by decide +kernel
theorem dX2_init_28 : decode cX2_init 28 = .ok (.iload_n 1, 1) := by decide +kernel
theorem dX2_init_29 : decode cX2_init 29 = .ok (.new 9, 3) := by decide +kernel
theorem dX2_init_32 : decode cX2_init 32 = .ok (.dup, 1) := by decide +kernel
theorem dX2_init_33 : decode cX2_init 33 = .ok (.invokespecial 21, 3) := by decide +kernel
theorem dX2_init_36 : decode cX2_init 36 = .ok (.aastore, 1) := by decide +kernel
theorem dX2_init_37 : decode cX2_init 37 = .ok (.iinc 1 1, 3) := by decide +kernel
theorem dX2_init_40 : decode cX2_init 40 = .ok (.goto (-21), 3) := by decide +kernel
theorem dX2_init_43 : decode cX2_init 43 = .ok (.return_, 1) := by decide +kernel
theorem dX2_record_0 : decode cX2_record 0 = .ok (.aload_n 0, 1) := by decide +kernel
theorem dX2_record_1 : decode cX2_record 1 = .ok (.getfield 11, 3) := by decide +kernel
theorem dX2_record_4 : decode cX2_record 4 = .ok (.iconst 3, 1) := by decide +kernel
theorem dX2_record_5 : decode cX2_record 5 = .ok (.aaload, 1) := by decide +kernel
theorem dX2_record_6 : decode cX2_record 6 = .ok (.astore_n 2, 1) := by decide +kernel
theorem dX2_record_7 : decode cX2_record 7 = .ok (.iconst 3, 1) := by decide +kernel
theorem dX2_record_8 : decode cX2_record 8 = .ok (.istore_n 3, 1) := by decide +kernel
theorem dX2_record_9 : decode cX2_record 9 = .ok (.iload_n 3, 1) := by decide +kernel
theorem dX2_record_10 : decode cX2_record 10 = .ok (.ifCond .le 23, 3) := by decide +kernel
theorem dX2_record_13 : decode cX2_record 13 = .ok (.aload_n 0, 1) := by decide +kernel
theorem dX2_record_14 : decode cX2_record 14 = .ok (.getfield 11, 3) := by decide +kernel
theorem dX2_record_17 : decode cX2_record 17 = .ok (.iload_n 3, 1) := by decide +kernel
theorem dX2_record_18 : decode cX2_record 18 = .ok (.aload_n 0, 1) := by decide +kernel
theorem dX2_record_19 : decode cX2_record 19 = .ok (.getfield 11, 3) := by decide +kernel
theorem dX2_record_22 : decode cX2_record 22 = .ok (.iload_n 3, 1) := by decide +kernel
theorem dX2_record_23 : decode cX2_record 23 = .ok (.iconst 1, 1) := by decide +kernel
theorem dX2_record_24 : decode cX2_record 24 = .ok (.isub, 1) := by decide +kernel
theorem dX2_record_25 : decode cX2_record 25 = .ok (.aaload, 1) := by decide +kernel
theorem dX2_record_26 : decode cX2_record 26 = .ok (.aastore, 1) := by decide +kernel
theorem dX2_record_27 : decode cX2_record 27 = .ok (.iinc 3 (-1), 3) := by decide +kernel
theorem dX2_record_30 : decode cX2_record 30 = .ok (.goto (-21), 3) := by decide +kernel
theorem dX2_record_33 : decode cX2_record 33 = .ok (.aload_n 0, 1) := by decide +kernel
theorem dX2_record_34 : decode cX2_record 34 = .ok (.getfield 11, 3) := by decide +kernel
theorem dX2_record_37 : decode cX2_record 37 = .ok (.iconst 0, 1) := by decide +kernel
theorem dX2_record_38 : decode cX2_record 38 = .ok (.aload_n 2, 1) := by decide +kernel
theorem dX2_record_39 : decode cX2_record 39 = .ok (.aastore, 1) := by decide +kernel
theorem dX2_record_40 : decode cX2_record 40 = .ok (.aload_n 2, 1) := by decide +kernel
theorem dX2_record_41 : decode cX2_record 41 = .ok (.ifnull 8, 3) := by decide +kernel
theorem dX2_record_44 : decode cX2_record 44 = .ok (.aload_n 2, 1) := by decide +kernel
theorem dX2_record_45 : decode cX2_record 45 = .ok (.aload_n 1, 1) := by decide +kernel
theorem dX2_record_46 : decode cX2_record 46 = .ok (.invokevirtual 22, 3) := by decide +kernel
theorem dX2_record_49 : decode cX2_record 49 = .ok (.aload_n 0, 1) := by decide +kernel
theorem dX2_record_50 : decode cX2_record 50 = .ok (.aload_n 0, 1) := by decide +kernel
theorem dX2_record_51 : decode cX2_record 51 = .ok (.getfield 17, 3) := by decide +kernel
theorem dX2_record_54 : decode cX2_record 54 = .ok (.iconst 1, 1) := by decide +kernel
theorem dX2_record_55 : decode cX2_record 55 = .ok (.iadd, 1) := by decide +kernel
theorem dX2_record_56 : decode cX2_record 56 = .ok (.iconst 4, 1) := by decide +kernel
theorem dX2_record_57 : decode cX2_record 57 = .ok (.invokestatic 26, 3) := by decide +kernel
theorem dX2_record_60 : decode cX2_record 60 = .ok (.putfield 17, 3) := by decide +kernel
theorem dX2_record_63 : decode cX2_record 63 = .ok (.return_, 1) := by decide +kernel
theorem dX2_takeLatest_0 : decode cX2_takeLatest 0 = .ok (.aload_n 0, 1) := by decide +kernel
theorem dX2_takeLatest_1 : decode cX2_takeLatest 1 = .ok (.getfield 11, 3) := by decide +kernel
theorem dX2_takeLatest_4 : decode cX2_takeLatest 4 = .ok (.iconst 0, 1) := by decide +kernel
theorem dX2_takeLatest_5 : decode cX2_takeLatest 5 = .ok (.aaload, 1) := by decide +kernel
theorem dX2_takeLatest_6 : decode cX2_takeLatest 6 = .ok (.astore_n 2, 1) := by decide +kernel
theorem dX2_takeLatest_7 : decode cX2_takeLatest 7 = .ok (.aload_n 0, 1) := by decide +kernel
theorem dX2_takeLatest_8 : decode cX2_takeLatest 8 = .ok (.getfield 17, 3) := by decide +kernel
theorem dX2_takeLatest_11 : decode cX2_takeLatest 11 = .ok (.ifCond .eq 7, 3) := by decide +kernel
theorem dX2_takeLatest_14 : decode cX2_takeLatest 14 = .ok (.aload_n 2, 1) := by decide +kernel
theorem dX2_takeLatest_15 : decode cX2_takeLatest 15 = .ok (.ifnonnull 4, 3) := by decide +kernel
theorem dX2_takeLatest_18 : decode cX2_takeLatest 18 = .ok (.return_, 1) := by decide +kernel
theorem dX2_takeLatest_19 : decode cX2_takeLatest 19 = .ok (.aload_n 1, 1) := by decide +kernel
theorem dX2_takeLatest_20 : decode cX2_takeLatest 20 = .ok (.aload_n 2, 1) := by decide +kernel
theorem dX2_takeLatest_21 : decode cX2_takeLatest 21 = .ok (.invokevirtual 22, 3) := by decide +kernel
theorem dX2_takeLatest_24 : decode cX2_takeLatest 24 = .ok (.iconst 1, 1) := by decide +kernel
theorem dX2_takeLatest_25 : decode cX2_takeLatest 25 = .ok (.istore_n 3, 1) := by decide +kernel
theorem dX2_takeLatest_26 : decode cX2_takeLatest 26 = .ok (.iload_n 3, 1) := by decide +kernel
theorem dX2_takeLatest_27 : decode cX2_takeLatest 27 = .ok (.iconst 4, 1) := by decide +kernel
theorem dX2_takeLatest_28 : decode cX2_takeLatest 28 = .ok (.if_icmp .ge 23, 3) := by decide +kernel
theorem dX2_takeLatest_31 : decode cX2_takeLatest 31 = .ok (.aload_n 0, 1) := by decide +kernel
theorem dX2_takeLatest_32 : decode cX2_takeLatest 32 = .ok (.getfield 11, 3) := by decide +kernel
theorem dX2_takeLatest_35 : decode cX2_takeLatest 35 = .ok (.iload_n 3, 1) := by decide +kernel
theorem dX2_takeLatest_36 : decode cX2_takeLatest 36 = .ok (.iconst 1, 1) := by decide +kernel
theorem dX2_takeLatest_37 : decode cX2_takeLatest 37 = .ok (.isub, 1) := by decide +kernel
theorem dX2_takeLatest_38 : decode cX2_takeLatest 38 = .ok (.aload_n 0, 1) := by decide +kernel
theorem dX2_takeLatest_39 : decode cX2_takeLatest 39 = .ok (.getfield 11, 3) := by decide +kernel
theorem dX2_takeLatest_42 : decode cX2_takeLatest 42 = .ok (.iload_n 3, 1) := by decide +kernel
theorem dX2_takeLatest_43 : decode cX2_takeLatest 43 = .ok (.aaload, 1) := by decide +kernel
theorem dX2_takeLatest_44 : decode cX2_takeLatest 44 = .ok (.aastore, 1) := by decide +kernel
theorem dX2_takeLatest_45 : decode cX2_takeLatest 45 = .ok (.iinc 3 1, 3) := by decide +kernel
theorem dX2_takeLatest_48 : decode cX2_takeLatest 48 = .ok (.goto (-22), 3) := by decide +kernel
theorem dX2_takeLatest_51 : decode cX2_takeLatest 51 = .ok (.aload_n 0, 1) := by decide +kernel
theorem dX2_takeLatest_52 : decode cX2_takeLatest 52 = .ok (.getfield 11, 3) := by decide +kernel
theorem dX2_takeLatest_55 : decode cX2_takeLatest 55 = .ok (.iconst 3, 1) := by decide +kernel
theorem dX2_takeLatest_56 : decode cX2_takeLatest 56 = .ok (.aload_n 2, 1) := by decide +kernel
theorem dX2_takeLatest_57 : decode cX2_takeLatest 57 = .ok (.aastore, 1) := by decide +kernel
theorem dX2_takeLatest_58 : decode cX2_takeLatest 58 = .ok (.aload_n 0, 1) := by decide +kernel
theorem dX2_takeLatest_59 : decode cX2_takeLatest 59 = .ok (.dup, 1) := by decide +kernel
theorem dX2_takeLatest_60 : decode cX2_takeLatest 60 = .ok (.getfield 17, 3) := by decide +kernel
theorem dX2_takeLatest_63 : decode cX2_takeLatest 63 = .ok (.iconst 1, 1) := by decide +kernel
theorem dX2_takeLatest_64 : decode cX2_takeLatest 64 = .ok (.isub, 1) := by decide +kernel
theorem dX2_takeLatest_65 : decode cX2_takeLatest 65 = .ok (.putfield 17, 3) := by decide +kernel
theorem dX2_takeLatest_68 : decode cX2_takeLatest 68 = .ok (.return_, 1) := by decide +kernel
theorem dX3_init_0 : decode cX3_init 0 = .ok (.aload_n 0, 1) := by decide +kernel
theorem dX3_init_1 : decode cX3_init 1 = .ok (.invokespecial 3, 3) := by decide +kernel
theorem dX3_init_4 : decode cX3_init 4 = .ok (.aload_n 0, 1) := by decide +kernel
theorem dX3_init_5 : decode cX3_init 5 = .ok (.bipush 60, 2) := by decide +kernel
theorem dX3_init_7 : decode cX3_init 7 = .ok (.newarray .char, 2) := by decide +kernel
theorem dX3_init_9 : decode cX3_init 9 = .ok (.putfield 9, 3) := by decide +kernel
theorem dX3_init_12 : decode cX3_init 12 = .ok (.aload_n 0, 1) := by decide +kernel
theorem dX3_init_13 : decode cX3_init 13 = .ok (.iconst 0, 1) := by decide +kernel
theorem dX3_init_14 : decode cX3_init 14 = .ok (.putfield 15, 3) := by decide +kernel
theorem dX3_init_17 : decode cX3_init 17 = .ok (.aload_n 0, 1) := by decide +kernel
theorem dX3_init_18 : decode cX3_init 18 = .ok (.bipush 32, 2) := by decide +kernel
theorem dX3_init_20 : decode cX3_init 20 = .ok (.newarray .char, 2) := by decide +kernel
theorem dX3_init_22 : decode cX3_init 22 = .ok (.putfield 19, 3) := by decide +kernel
theorem dX3_init_25 : decode cX3_init 25 = .ok (.aload_n 0, 1) := by decide +kernel
theorem dX3_init_26 : decode cX3_init 26 = .ok (.bipush 32, 2) := by decide +kernel
theorem dX3_init_28 : decode cX3_init 28 = .ok (.newarray .int, 2) := by decide +kernel
theorem dX3_init_30 : decode cX3_init 30 = .ok (.putfield 22, 3) := by decide +kernel
theorem dX3_init_33 : decode cX3_init 33 = .ok (.aload_n 0, 1) := by decide +kernel
theorem dX3_init_34 : decode cX3_init 34 = .ok (.bipush 32, 2) := by decide +kernel
theorem dX3_init_36 : decode cX3_init 36 = .ok (.newarray .int, 2) := by decide +kernel
theorem dX3_init_38 : decode cX3_init 38 = .ok (.putfield 26, 3) := by decide +kernel
theorem dX3_init_41 : decode cX3_init 41 = .ok (.aload_n 0, 1) := by decide +kernel
theorem dX3_init_42 : decode cX3_init 42 = .ok (.iconst 0, 1) := by decide +kernel
theorem dX3_init_43 : decode cX3_init 43 = .ok (.putfield 29, 3) := by decide +kernel
theorem dX3_init_46 : decode cX3_init 46 = .ok (.aload_n 0, 1) := by decide +kernel
theorem dX3_init_47 : decode cX3_init 47 = .ok (.iconst 0, 1) := by decide +kernel
theorem dX3_init_48 : decode cX3_init 48 = .ok (.putfield 32, 3) := by decide +kernel
theorem dX3_init_51 : decode cX3_init 51 = .ok (.return_, 1) := by decide +kernel
theorem dX3_append_0 : decode cX3_append 0 = .ok (.aload_n 0, 1) := by decide +kernel
theorem dX3_append_1 : decode cX3_append 1 = .ok (.getfield 15, 3) := by decide +kernel
theorem dX3_append_4 : decode cX3_append 4 = .ok (.bipush 60, 2) := by decide +kernel
theorem dX3_append_6 : decode cX3_append 6 = .ok (.if_icmp .lt 6, 3) := by decide +kernel
theorem dX3_append_9 : decode cX3_append 9 = .ok (.bipush (-3), 2) := by decide +kernel
theorem dX3_append_11 : decode cX3_append 11 = .ok (.ireturn, 1) := by decide +kernel
theorem dX3_append_12 : decode cX3_append 12 = .ok (.aload_n 0, 1) := by decide +kernel
theorem dX3_append_13 : decode cX3_append 13 = .ok (.getfield 9, 3) := by decide +kernel
theorem dX3_append_16 : decode cX3_append 16 = .ok (.aload_n 0, 1) := by decide +kernel
theorem dX3_append_17 : decode cX3_append 17 = .ok (.getfield 15, 3) := by decide +kernel
theorem dX3_append_20 : decode cX3_append 20 = .ok (.iload_n 1, 1) := by decide +kernel
theorem dX3_append_21 : decode cX3_append 21 = .ok (.castore, 1) := by decide +kernel
theorem dX3_append_22 : decode cX3_append 22 = .ok (.aload_n 0, 1) := by decide +kernel
theorem dX3_append_23 : decode cX3_append 23 = .ok (.dup, 1) := by decide +kernel
theorem dX3_append_24 : decode cX3_append 24 = .ok (.getfield 15, 3) := by decide +kernel
theorem dX3_append_27 : decode cX3_append 27 = .ok (.iconst 1, 1) := by decide +kernel
theorem dX3_append_28 : decode cX3_append 28 = .ok (.iadd, 1) := by decide +kernel
theorem dX3_append_29 : decode cX3_append 29 = .ok (.putfield 15, 3) := by decide +kernel
theorem dX3_append_32 : decode cX3_append 32 = .ok (.aload_n 0, 1) := by decide +kernel
theorem dX3_append_33 : decode cX3_append 33 = .ok (.getfield 15, 3) := by decide +kernel
theorem dX3_append_36 : decode cX3_append 36 = .ok (.ireturn, 1) := by decide +kernel
theorem dX3_empty_0 : decode cX3_empty 0 = .ok (.aload_n 0, 1) := by decide +kernel
theorem dX3_empty_1 : decode cX3_empty 1 = .ok (.getfield 15, 3) := by decide +kernel
theorem dX3_empty_4 : decode cX3_empty 4 = .ok (.istore_n 1, 1) := by decide +kernel
theorem dX3_empty_5 : decode cX3_empty 5 = .ok (.aload_n 0, 1) := by decide +kernel
theorem dX3_empty_6 : decode cX3_empty 6 = .ok (.iconst 0, 1) := by decide +kernel
theorem dX3_empty_7 : decode cX3_empty 7 = .ok (.putfield 15, 3) := by decide +kernel
theorem dX3_empty_10 : decode cX3_empty 10 = .ok (.iload_n 1, 1) := by decide +kernel
theorem dX3_empty_11 : decode cX3_empty 11 = .ok (.ireturn, 1) := by decide +kernel
theorem dX3_letterOf_0 : decode cX3_letterOf 0 = .ok (.iload_n 1, 1) := by decide +kernel
theorem dX3_letterOf_1 : decode cX3_letterOf 1 = .ok (.ifCond .lt 11, 3) := by decide +kernel
theorem dX3_letterOf_4 : decode cX3_letterOf 4 = .ok (.iload_n 1, 1) := by decide +kernel
theorem dX3_letterOf_5 : decode cX3_letterOf 5 = .ok (.aload_n 0, 1) := by decide +kernel
theorem dX3_letterOf_6 : decode cX3_letterOf 6 = .ok (.getfield 29, 3) := by decide +kernel
theorem dX3_letterOf_9 : decode cX3_letterOf 9 = .ok (.if_icmp .lt 8, 3) := by decide +kernel
theorem dX3_letterOf_12 : decode cX3_letterOf 12 = .ok (.bipush 116, 2) := by decide +kernel
theorem dX3_letterOf_14 : decode cX3_letterOf 14 = .ok (.goto 9, 3) := by decide +kernel
theorem dX3_letterOf_17 : decode cX3_letterOf 17 = .ok (.aload_n 0, 1) := by decide +kernel
theorem dX3_letterOf_18 : decode cX3_letterOf 18 = .ok (.getfield 19, 3) := by decide +kernel
theorem dX3_letterOf_21 : decode cX3_letterOf 21 = .ok (.iload_n 1, 1) := by decide +kernel
theorem dX3_letterOf_22 : decode cX3_letterOf 22 = .ok (.caload, 1) := by decide +kernel
theorem dX3_letterOf_23 : decode cX3_letterOf 23 = .ok (.ireturn, 1) := by decide +kernel
theorem dX3_argumentOf_0 : decode cX3_argumentOf 0 = .ok (.iload_n 1, 1) := by decide +kernel
theorem dX3_argumentOf_1 : decode cX3_argumentOf 1 = .ok (.ifCond .lt 11, 3) := by decide +kernel
theorem dX3_argumentOf_4 : decode cX3_argumentOf 4 = .ok (.iload_n 1, 1) := by decide +kernel
theorem dX3_argumentOf_5 : decode cX3_argumentOf 5 = .ok (.aload_n 0, 1) := by decide +kernel
theorem dX3_argumentOf_6 : decode cX3_argumentOf 6 = .ok (.getfield 29, 3) := by decide +kernel
theorem dX3_argumentOf_9 : decode cX3_argumentOf 9 = .ok (.if_icmp .lt 7, 3) := by decide +kernel
theorem dX3_argumentOf_12 : decode cX3_argumentOf 12 = .ok (.iconst 0, 1) := by decide +kernel
theorem dX3_argumentOf_13 : decode cX3_argumentOf 13 = .ok (.goto 9, 3) := by decide +kernel
theorem dX3_argumentOf_16 : decode cX3_argumentOf 16 = .ok (.aload_n 0, 1) := by decide +kernel
theorem dX3_argumentOf_17 : decode cX3_argumentOf 17 = .ok (.getfield 22, 3) := by decide +kernel
theorem dX3_argumentOf_20 : decode cX3_argumentOf 20 = .ok (.iload_n 1, 1) := by decide +kernel
theorem dX3_argumentOf_21 : decode cX3_argumentOf 21 = .ok (.iaload, 1) := by decide +kernel
theorem dX3_argumentOf_22 : decode cX3_argumentOf 22 = .ok (.ireturn, 1) := by decide +kernel
theorem dX3_timesOf_0 : decode cX3_timesOf 0 = .ok (.iload_n 1, 1) := by decide +kernel
theorem dX3_timesOf_1 : decode cX3_timesOf 1 = .ok (.ifCond .lt 11, 3) := by decide +kernel
theorem dX3_timesOf_4 : decode cX3_timesOf 4 = .ok (.iload_n 1, 1) := by decide +kernel
theorem dX3_timesOf_5 : decode cX3_timesOf 5 = .ok (.aload_n 0, 1) := by decide +kernel
theorem dX3_timesOf_6 : decode cX3_timesOf 6 = .ok (.getfield 29, 3) := by decide +kernel
theorem dX3_timesOf_9 : decode cX3_timesOf 9 = .ok (.if_icmp .lt 7, 3) := by decide +kernel
theorem dX3_timesOf_12 : decode cX3_timesOf 12 = .ok (.iconst 0, 1) := by decide +kernel
theorem dX3_timesOf_13 : decode cX3_timesOf 13 = .ok (.goto 9, 3) := by decide +kernel
theorem dX3_timesOf_16 : decode cX3_timesOf 16 = .ok (.aload_n 0, 1) := by decide +kernel
theorem dX3_timesOf_17 : decode cX3_timesOf 17 = .ok (.getfield 26, 3) := by decide +kernel
theorem dX3_timesOf_20 : decode cX3_timesOf 20 = .ok (.iload_n 1, 1) := by decide +kernel
theorem dX3_timesOf_21 : decode cX3_timesOf 21 = .ok (.iaload, 1) := by decide +kernel
theorem dX3_timesOf_22 : decode cX3_timesOf 22 = .ok (.ireturn, 1) := by decide +kernel
theorem dX3_parse_0 : decode cX3_parse 0 = .ok (.aload_n 0, 1) := by decide +kernel
theorem dX3_parse_1 : decode cX3_parse 1 = .ok (.iconst 0, 1) := by decide +kernel
theorem dX3_parse_2 : decode cX3_parse 2 = .ok (.putfield 29, 3) := by decide +kernel
theorem dX3_parse_5 : decode cX3_parse 5 = .ok (.aload_n 0, 1) := by decide +kernel
theorem dX3_parse_6 : decode cX3_parse 6 = .ok (.iconst 0, 1) := by decide +kernel
theorem dX3_parse_7 : decode cX3_parse 7 = .ok (.putfield 32, 3) := by decide +kernel
theorem dX3_parse_10 : decode cX3_parse 10 = .ok (.iconst 0, 1) := by decide +kernel
theorem dX3_parse_11 : decode cX3_parse 11 = .ok (.istore_n 1, 1) := by decide +kernel
theorem dX3_parse_12 : decode cX3_parse 12 = .ok (.iload_n 1, 1) := by decide +kernel
theorem dX3_parse_13 : decode cX3_parse 13 = .ok (.bipush 32, 2) := by decide +kernel
theorem dX3_parse_15 : decode cX3_parse 15 = .ok (.if_icmp .ge 63, 3) := by decide +kernel
theorem dX3_parse_18 : decode cX3_parse 18 = .ok (.aload_n 0, 1) := by decide +kernel
theorem dX3_parse_19 : decode cX3_parse 19 = .ok (.invokevirtual 35, 3) := by decide +kernel
theorem dX3_parse_22 : decode cX3_parse 22 = .ok (.ifCond .ne 8, 3) := by decide +kernel
theorem dX3_parse_25 : decode cX3_parse 25 = .ok (.aload_n 0, 1) := by decide +kernel
theorem dX3_parse_26 : decode cX3_parse 26 = .ok (.getfield 32, 3) := by decide +kernel
theorem dX3_parse_29 : decode cX3_parse 29 = .ok (.ireturn, 1) := by decide +kernel
theorem dX3_parse_30 : decode cX3_parse 30 = .ok (.aload_n 0, 1) := by decide +kernel
theorem dX3_parse_31 : decode cX3_parse 31 = .ok (.getfield 32, 3) := by decide +kernel
theorem dX3_parse_34 : decode cX3_parse 34 = .ok (.aload_n 0, 1) := by decide +kernel
theorem dX3_parse_35 : decode cX3_parse 35 = .ok (.getfield 15, 3) := by decide +kernel
theorem dX3_parse_38 : decode cX3_parse 38 = .ok (.if_icmp .lt 5, 3) := by decide +kernel
theorem dX3_parse_41 : decode cX3_parse 41 = .ok (.iconst (-1), 1) := by decide +kernel
theorem dX3_parse_42 : decode cX3_parse 42 = .ok (.ireturn, 1) := by decide +kernel
theorem dX3_parse_43 : decode cX3_parse 43 = .ok (.aload_n 0, 1) := by decide +kernel
theorem dX3_parse_44 : decode cX3_parse 44 = .ok (.getfield 9, 3) := by decide +kernel
theorem dX3_parse_47 : decode cX3_parse 47 = .ok (.aload_n 0, 1) := by decide +kernel
theorem dX3_parse_48 : decode cX3_parse 48 = .ok (.getfield 32, 3) := by decide +kernel
theorem dX3_parse_51 : decode cX3_parse 51 = .ok (.caload, 1) := by decide +kernel
theorem dX3_parse_52 : decode cX3_parse 52 = .ok (.bipush 44, 2) := by decide +kernel
theorem dX3_parse_54 : decode cX3_parse 54 = .ok (.if_icmp .eq 8, 3) := by decide +kernel
theorem dX3_parse_57 : decode cX3_parse 57 = .ok (.aload_n 0, 1) := by decide +kernel
theorem dX3_parse_58 : decode cX3_parse 58 = .ok (.getfield 32, 3) := by decide +kernel
theorem dX3_parse_61 : decode cX3_parse 61 = .ok (.ireturn, 1) := by decide +kernel
theorem dX3_parse_62 : decode cX3_parse 62 = .ok (.aload_n 0, 1) := by decide +kernel
theorem dX3_parse_63 : decode cX3_parse 63 = .ok (.dup, 1) := by decide +kernel
theorem dX3_parse_64 : decode cX3_parse 64 = .ok (.getfield 32, 3) := by decide +kernel
theorem dX3_parse_67 : decode cX3_parse 67 = .ok (.iconst 1, 1) := by decide +kernel
theorem dX3_parse_68 : decode cX3_parse 68 = .ok (.iadd, 1) := by decide +kernel
theorem dX3_parse_69 : decode cX3_parse 69 = .ok (.putfield 32, 3) := by decide +kernel
theorem dX3_parse_72 : decode cX3_parse 72 = .ok (.iinc 1 1, 3) := by decide +kernel
theorem dX3_parse_75 : decode cX3_parse 75 = .ok (.goto (-63), 3) := by decide +kernel
theorem dX3_parse_78 : decode cX3_parse 78 = .ok (.aload_n 0, 1) := by decide +kernel
theorem dX3_parse_79 : decode cX3_parse 79 = .ok (.getfield 32, 3) := by decide +kernel
theorem dX3_parse_82 : decode cX3_parse 82 = .ok (.ireturn, 1) := by decide +kernel
theorem dX3_parseOrder_0 : decode cX3_parseOrder 0 = .ok (.aload_n 0, 1) := by decide +kernel
theorem dX3_parseOrder_1 : decode cX3_parseOrder 1 = .ok (.getfield 32, 3) := by decide +kernel
theorem dX3_parseOrder_4 : decode cX3_parseOrder 4 = .ok (.aload_n 0, 1) := by decide +kernel
theorem dX3_parseOrder_5 : decode cX3_parseOrder 5 = .ok (.getfield 15, 3) := by decide +kernel
theorem dX3_parseOrder_8 : decode cX3_parseOrder 8 = .ok (.if_icmp .ge 12, 3) := by decide +kernel
theorem dX3_parseOrder_11 : decode cX3_parseOrder 11 = .ok (.aload_n 0, 1) := by decide +kernel
theorem dX3_parseOrder_12 : decode cX3_parseOrder 12 = .ok (.getfield 29, 3) := by decide +kernel
theorem dX3_parseOrder_15 : decode cX3_parseOrder 15 = .ok (.bipush 32, 2) := by decide +kernel
theorem dX3_parseOrder_17 : decode cX3_parseOrder 17 = .ok (.if_icmp .lt 5, 3) := by decide +kernel
theorem dX3_parseOrder_20 : decode cX3_parseOrder 20 = .ok (.iconst 0, 1) := by decide +kernel
theorem dX3_parseOrder_21 : decode cX3_parseOrder 21 = .ok (.ireturn, 1) := by decide +kernel
theorem dX3_parseOrder_22 : decode cX3_parseOrder 22 = .ok (.aload_n 0, 1) := by decide +kernel
theorem dX3_parseOrder_23 : decode cX3_parseOrder 23 = .ok (.getfield 9, 3) := by decide +kernel
theorem dX3_parseOrder_26 : decode cX3_parseOrder 26 = .ok (.aload_n 0, 1) := by decide +kernel
theorem dX3_parseOrder_27 : decode cX3_parseOrder 27 = .ok (.getfield 32, 3) := by decide +kernel
theorem dX3_parseOrder_30 : decode cX3_parseOrder 30 = .ok (.caload, 1) := by decide +kernel
theorem dX3_parseOrder_31 : decode cX3_parseOrder 31 = .ok (.istore_n 1, 1) := by decide +kernel
theorem dX3_parseOrder_32 : decode cX3_parseOrder 32 = .ok (.iload_n 1, 1) := by decide +kernel
theorem dX3_parseOrder_33 : decode cX3_parseOrder 33 = .ok (.bipush 114, 2) := by decide +kernel
theorem dX3_parseOrder_35 : decode cX3_parseOrder 35 = .ok (.if_icmp .eq 17, 3) := by decide +kernel
theorem dX3_parseOrder_38 : decode cX3_parseOrder 38 = .ok (.iload_n 1, 1) := by decide +kernel
theorem dX3_parseOrder_39 : decode cX3_parseOrder 39 = .ok (.bipush 119, 2) := by decide +kernel
theorem dX3_parseOrder_41 : decode cX3_parseOrder 41 = .ok (.if_icmp .eq 11, 3) := by decide +kernel
theorem dX3_parseOrder_44 : decode cX3_parseOrder 44 = .ok (.iload_n 1, 1) := by decide +kernel
theorem dX3_parseOrder_45 : decode cX3_parseOrder 45 = .ok (.bipush 116, 2) := by decide +kernel
theorem dX3_parseOrder_47 : decode cX3_parseOrder 47 = .ok (.if_icmp .eq 5, 3) := by decide +kernel
theorem dX3_parseOrder_50 : decode cX3_parseOrder 50 = .ok (.iconst 0, 1) := by decide +kernel
theorem dX3_parseOrder_51 : decode cX3_parseOrder 51 = .ok (.ireturn, 1) := by decide +kernel
theorem dX3_parseOrder_52 : decode cX3_parseOrder 52 = .ok (.aload_n 0, 1) := by decide +kernel
theorem dX3_parseOrder_53 : decode cX3_parseOrder 53 = .ok (.dup, 1) := by decide +kernel
theorem dX3_parseOrder_54 : decode cX3_parseOrder 54 = .ok (.getfield 32, 3) := by decide +kernel
theorem dX3_parseOrder_57 : decode cX3_parseOrder 57 = .ok (.iconst 1, 1) := by decide +kernel
theorem dX3_parseOrder_58 : decode cX3_parseOrder 58 = .ok (.iadd, 1) := by decide +kernel
theorem dX3_parseOrder_59 : decode cX3_parseOrder 59 = .ok (.putfield 32, 3) := by decide +kernel
theorem dX3_parseOrder_62 : decode cX3_parseOrder 62 = .ok (.iload_n 1, 1) := by decide +kernel
theorem dX3_parseOrder_63 : decode cX3_parseOrder 63 = .ok (.bipush 116, 2) := by decide +kernel
theorem dX3_parseOrder_65 : decode cX3_parseOrder 65 = .ok (.if_icmp .ne 13, 3) := by decide +kernel
theorem dX3_parseOrder_68 : decode cX3_parseOrder 68 = .ok (.aload_n 0, 1) := by decide +kernel
theorem dX3_parseOrder_69 : decode cX3_parseOrder 69 = .ok (.iconst 1, 1) := by decide +kernel
theorem dX3_parseOrder_70 : decode cX3_parseOrder 70 = .ok (.bipush 99, 2) := by decide +kernel
theorem dX3_parseOrder_72 : decode cX3_parseOrder 72 = .ok (.invokevirtual 39, 3) := by decide +kernel
theorem dX3_parseOrder_75 : decode cX3_parseOrder 75 = .ok (.goto 10, 3) := by decide +kernel
theorem dX3_parseOrder_78 : decode cX3_parseOrder 78 = .ok (.aload_n 0, 1) := by decide +kernel
theorem dX3_parseOrder_79 : decode cX3_parseOrder 79 = .ok (.iconst 0, 1) := by decide +kernel
theorem dX3_parseOrder_80 : decode cX3_parseOrder 80 = .ok (.bipush 23, 2) := by decide +kernel
theorem dX3_parseOrder_82 : decode cX3_parseOrder 82 = .ok (.invokevirtual 39, 3) := by decide +kernel
theorem dX3_parseOrder_85 : decode cX3_parseOrder 85 = .ok (.istore_n 2, 1) := by decide +kernel
theorem dX3_parseOrder_86 : decode cX3_parseOrder 86 = .ok (.iload_n 2, 1) := by decide +kernel
theorem dX3_parseOrder_87 : decode cX3_parseOrder 87 = .ok (.iconst (-1), 1) := by decide +kernel
theorem dX3_parseOrder_88 : decode cX3_parseOrder 88 = .ok (.if_icmp .ne 5, 3) := by decide +kernel
theorem dX3_parseOrder_91 : decode cX3_parseOrder 91 = .ok (.iconst 0, 1) := by decide +kernel
theorem dX3_parseOrder_92 : decode cX3_parseOrder 92 = .ok (.ireturn, 1) := by decide +kernel
theorem dX3_parseOrder_93 : decode cX3_parseOrder 93 = .ok (.iconst 1, 1) := by decide +kernel
theorem dX3_parseOrder_94 : decode cX3_parseOrder 94 = .ok (.istore_n 3, 1) := by decide +kernel
theorem dX3_parseOrder_95 : decode cX3_parseOrder 95 = .ok (.iload_n 1, 1) := by decide +kernel
theorem dX3_parseOrder_96 : decode cX3_parseOrder 96 = .ok (.bipush 114, 2) := by decide +kernel
theorem dX3_parseOrder_98 : decode cX3_parseOrder 98 = .ok (.if_icmp .ne 53, 3) := by decide +kernel
theorem dX3_parseOrder_101 : decode cX3_parseOrder 101 = .ok (.aload_n 0, 1) := by decide +kernel
theorem dX3_parseOrder_102 : decode cX3_parseOrder 102 = .ok (.getfield 32, 3) := by decide +kernel
theorem dX3_parseOrder_105 : decode cX3_parseOrder 105 = .ok (.aload_n 0, 1) := by decide +kernel
theorem dX3_parseOrder_106 : decode cX3_parseOrder 106 = .ok (.getfield 15, 3) := by decide +kernel
theorem dX3_parseOrder_109 : decode cX3_parseOrder 109 = .ok (.if_icmp .ge 42, 3) := by decide +kernel
theorem dX3_parseOrder_112 : decode cX3_parseOrder 112 = .ok (.aload_n 0, 1) := by decide +kernel
theorem dX3_parseOrder_113 : decode cX3_parseOrder 113 = .ok (.getfield 9, 3) := by decide +kernel
theorem dX3_parseOrder_116 : decode cX3_parseOrder 116 = .ok (.aload_n 0, 1) := by decide +kernel
theorem dX3_parseOrder_117 : decode cX3_parseOrder 117 = .ok (.getfield 32, 3) := by decide +kernel
theorem dX3_parseOrder_120 : decode cX3_parseOrder 120 = .ok (.caload, 1) := by decide +kernel
theorem dX3_parseOrder_121 : decode cX3_parseOrder 121 = .ok (.bipush 42, 2) := by decide +kernel
theorem dX3_parseOrder_123 : decode cX3_parseOrder 123 = .ok (.if_icmp .ne 28, 3) := by decide +kernel
theorem dX3_parseOrder_126 : decode cX3_parseOrder 126 = .ok (.aload_n 0, 1) := by decide +kernel
theorem dX3_parseOrder_127 : decode cX3_parseOrder 127 = .ok (.dup, 1) := by decide +kernel
theorem dX3_parseOrder_128 : decode cX3_parseOrder 128 = .ok (.getfield 32, 3) := by decide +kernel
theorem dX3_parseOrder_131 : decode cX3_parseOrder 131 = .ok (.iconst 1, 1) := by decide +kernel
theorem dX3_parseOrder_132 : decode cX3_parseOrder 132 = .ok (.iadd, 1) := by decide +kernel
theorem dX3_parseOrder_133 : decode cX3_parseOrder 133 = .ok (.putfield 32, 3) := by decide +kernel
theorem dX3_parseOrder_136 : decode cX3_parseOrder 136 = .ok (.aload_n 0, 1) := by decide +kernel
theorem dX3_parseOrder_137 : decode cX3_parseOrder 137 = .ok (.iconst 1, 1) := by decide +kernel
theorem dX3_parseOrder_138 : decode cX3_parseOrder 138 = .ok (.bipush 99, 2) := by decide +kernel
theorem dX3_parseOrder_140 : decode cX3_parseOrder 140 = .ok (.invokevirtual 39, 3) := by decide +kernel
theorem dX3_parseOrder_143 : decode cX3_parseOrder 143 = .ok (.istore_n 3, 1) := by decide +kernel
theorem dX3_parseOrder_144 : decode cX3_parseOrder 144 = .ok (.iload_n 3, 1) := by decide +kernel
theorem dX3_parseOrder_145 : decode cX3_parseOrder 145 = .ok (.iconst (-1), 1) := by decide +kernel
theorem dX3_parseOrder_146 : decode cX3_parseOrder 146 = .ok (.if_icmp .ne 5, 3) := by decide +kernel
theorem dX3_parseOrder_149 : decode cX3_parseOrder 149 = .ok (.iconst 0, 1) := by decide +kernel
theorem dX3_parseOrder_150 : decode cX3_parseOrder 150 = .ok (.ireturn, 1) := by decide +kernel
theorem dX3_parseOrder_151 : decode cX3_parseOrder 151 = .ok (.aload_n 0, 1) := by decide +kernel
theorem dX3_parseOrder_152 : decode cX3_parseOrder 152 = .ok (.getfield 19, 3) := by decide +kernel
theorem dX3_parseOrder_155 : decode cX3_parseOrder 155 = .ok (.aload_n 0, 1) := by decide +kernel
theorem dX3_parseOrder_156 : decode cX3_parseOrder 156 = .ok (.getfield 29, 3) := by decide +kernel
theorem dX3_parseOrder_159 : decode cX3_parseOrder 159 = .ok (.iload_n 1, 1) := by decide +kernel
theorem dX3_parseOrder_160 : decode cX3_parseOrder 160 = .ok (.castore, 1) := by decide +kernel
theorem dX3_parseOrder_161 : decode cX3_parseOrder 161 = .ok (.aload_n 0, 1) := by decide +kernel
theorem dX3_parseOrder_162 : decode cX3_parseOrder 162 = .ok (.getfield 22, 3) := by decide +kernel
theorem dX3_parseOrder_165 : decode cX3_parseOrder 165 = .ok (.aload_n 0, 1) := by decide +kernel
theorem dX3_parseOrder_166 : decode cX3_parseOrder 166 = .ok (.getfield 29, 3) := by decide +kernel
theorem dX3_parseOrder_169 : decode cX3_parseOrder 169 = .ok (.iload_n 2, 1) := by decide +kernel
theorem dX3_parseOrder_170 : decode cX3_parseOrder 170 = .ok (.iastore, 1) := by decide +kernel
theorem dX3_parseOrder_171 : decode cX3_parseOrder 171 = .ok (.aload_n 0, 1) := by decide +kernel
theorem dX3_parseOrder_172 : decode cX3_parseOrder 172 = .ok (.getfield 26, 3) := by decide +kernel
theorem dX3_parseOrder_175 : decode cX3_parseOrder 175 = .ok (.aload_n 0, 1) := by decide +kernel
theorem dX3_parseOrder_176 : decode cX3_parseOrder 176 = .ok (.getfield 29, 3) := by decide +kernel
theorem dX3_parseOrder_179 : decode cX3_parseOrder 179 = .ok (.iload_n 3, 1) := by decide +kernel
theorem dX3_parseOrder_180 : decode cX3_parseOrder 180 = .ok (.iastore, 1) := by decide +kernel
theorem dX3_parseOrder_181 : decode cX3_parseOrder 181 = .ok (.aload_n 0, 1) := by decide +kernel
theorem dX3_parseOrder_182 : decode cX3_parseOrder 182 = .ok (.dup, 1) := by decide +kernel
theorem dX3_parseOrder_183 : decode cX3_parseOrder 183 = .ok (.getfield 29, 3) := by decide +kernel
theorem dX3_parseOrder_186 : decode cX3_parseOrder 186 = .ok (.iconst 1, 1) := by decide +kernel
theorem dX3_parseOrder_187 : decode cX3_parseOrder 187 = .ok (.iadd, 1) := by decide +kernel
theorem dX3_parseOrder_188 : decode cX3_parseOrder 188 = .ok (.putfield 29, 3) := by decide +kernel
theorem dX3_parseOrder_191 : decode cX3_parseOrder 191 = .ok (.iconst 1, 1) := by decide +kernel
theorem dX3_parseOrder_192 : decode cX3_parseOrder 192 = .ok (.ireturn, 1) := by decide +kernel
theorem dX3_parseNumber_0 : decode cX3_parseNumber 0 = .ok (.aload_n 0, 1) := by decide +kernel
theorem dX3_parseNumber_1 : decode cX3_parseNumber 1 = .ok (.aload_n 0, 1) := by decide +kernel
theorem dX3_parseNumber_2 : decode cX3_parseNumber 2 = .ok (.getfield 32, 3) := by decide +kernel
theorem dX3_parseNumber_5 : decode cX3_parseNumber 5 = .ok (.invokevirtual 43, 3) := by decide +kernel
theorem dX3_parseNumber_8 : decode cX3_parseNumber 8 = .ok (.istore_n 3, 1) := by decide +kernel
theorem dX3_parseNumber_9 : decode cX3_parseNumber 9 = .ok (.iload_n 3, 1) := by decide +kernel
theorem dX3_parseNumber_10 : decode cX3_parseNumber 10 = .ok (.iconst (-1), 1) := by decide +kernel
theorem dX3_parseNumber_11 : decode cX3_parseNumber 11 = .ok (.if_icmp .eq 8, 3) := by decide +kernel
theorem dX3_parseNumber_14 : decode cX3_parseNumber 14 = .ok (.iload_n 3, 1) := by decide +kernel
theorem dX3_parseNumber_15 : decode cX3_parseNumber 15 = .ok (.iload_n 1, 1) := by decide +kernel
theorem dX3_parseNumber_16 : decode cX3_parseNumber 16 = .ok (.if_icmp .ge 5, 3) := by decide +kernel
theorem dX3_parseNumber_19 : decode cX3_parseNumber 19 = .ok (.iconst (-1), 1) := by decide +kernel
theorem dX3_parseNumber_20 : decode cX3_parseNumber 20 = .ok (.ireturn, 1) := by decide +kernel
theorem dX3_parseNumber_21 : decode cX3_parseNumber 21 = .ok (.aload_n 0, 1) := by decide +kernel
theorem dX3_parseNumber_22 : decode cX3_parseNumber 22 = .ok (.dup, 1) := by decide +kernel
theorem dX3_parseNumber_23 : decode cX3_parseNumber 23 = .ok (.getfield 32, 3) := by decide +kernel
theorem dX3_parseNumber_26 : decode cX3_parseNumber 26 = .ok (.iconst 1, 1) := by decide +kernel
theorem dX3_parseNumber_27 : decode cX3_parseNumber 27 = .ok (.iadd, 1) := by decide +kernel
theorem dX3_parseNumber_28 : decode cX3_parseNumber 28 = .ok (.putfield 32, 3) := by decide +kernel
theorem dX3_parseNumber_31 : decode cX3_parseNumber 31 = .ok (.aload_n 0, 1) := by decide +kernel
theorem dX3_parseNumber_32 : decode cX3_parseNumber 32 = .ok (.aload_n 0, 1) := by decide +kernel
theorem dX3_parseNumber_33 : decode cX3_parseNumber 33 = .ok (.getfield 32, 3) := by decide +kernel
theorem dX3_parseNumber_36 : decode cX3_parseNumber 36 = .ok (.invokevirtual 43, 3) := by decide +kernel
theorem dX3_parseNumber_39 : decode cX3_parseNumber 39 = .ok (.istore 4, 2) := by decide +kernel
theorem dX3_parseNumber_41 : decode cX3_parseNumber 41 = .ok (.iload_n 3, 1) := by decide +kernel
theorem dX3_parseNumber_42 : decode cX3_parseNumber 42 = .ok (.ifCond .le 38, 3) := by decide +kernel
theorem dX3_parseNumber_45 : decode cX3_parseNumber 45 = .ok (.iload 4, 2) := by decide +kernel
theorem dX3_parseNumber_47 : decode cX3_parseNumber 47 = .ok (.iconst (-1), 1) := by decide +kernel
theorem dX3_parseNumber_48 : decode cX3_parseNumber 48 = .ok (.if_icmp .eq 32, 3) := by decide +kernel
theorem dX3_parseNumber_51 : decode cX3_parseNumber 51 = .ok (.bipush 10, 2) := by decide +kernel
theorem dX3_parseNumber_53 : decode cX3_parseNumber 53 = .ok (.iload_n 3, 1) := by decide +kernel
theorem dX3_parseNumber_54 : decode cX3_parseNumber 54 = .ok (.imul, 1) := by decide +kernel
theorem dX3_parseNumber_55 : decode cX3_parseNumber 55 = .ok (.iload 4, 2) := by decide +kernel
theorem dX3_parseNumber_57 : decode cX3_parseNumber 57 = .ok (.iadd, 1) := by decide +kernel
theorem dX3_parseNumber_58 : decode cX3_parseNumber 58 = .ok (.iload_n 2, 1) := by decide +kernel
theorem dX3_parseNumber_59 : decode cX3_parseNumber 59 = .ok (.if_icmp .gt 21, 3) := by decide +kernel
theorem dX3_parseNumber_62 : decode cX3_parseNumber 62 = .ok (.bipush 10, 2) := by decide +kernel
theorem dX3_parseNumber_64 : decode cX3_parseNumber 64 = .ok (.iload_n 3, 1) := by decide +kernel
theorem dX3_parseNumber_65 : decode cX3_parseNumber 65 = .ok (.imul, 1) := by decide +kernel
theorem dX3_parseNumber_66 : decode cX3_parseNumber 66 = .ok (.iload 4, 2) := by decide +kernel
theorem dX3_parseNumber_68 : decode cX3_parseNumber 68 = .ok (.iadd, 1) := by decide +kernel
theorem dX3_parseNumber_69 : decode cX3_parseNumber 69 = .ok (.istore_n 3, 1) := by decide +kernel
theorem dX3_parseNumber_70 : decode cX3_parseNumber 70 = .ok (.aload_n 0, 1) := by decide +kernel
theorem dX3_parseNumber_71 : decode cX3_parseNumber 71 = .ok (.dup, 1) := by decide +kernel
theorem dX3_parseNumber_72 : decode cX3_parseNumber 72 = .ok (.getfield 32, 3) := by decide +kernel
theorem dX3_parseNumber_75 : decode cX3_parseNumber 75 = .ok (.iconst 1, 1) := by decide +kernel
theorem dX3_parseNumber_76 : decode cX3_parseNumber 76 = .ok (.iadd, 1) := by decide +kernel
theorem dX3_parseNumber_77 : decode cX3_parseNumber 77 = .ok (.putfield 32, 3) := by decide +kernel
theorem dX3_parseNumber_80 : decode cX3_parseNumber 80 = .ok (.iload_n 3, 1) := by decide +kernel
theorem dX3_parseNumber_81 : decode cX3_parseNumber 81 = .ok (.ireturn, 1) := by decide +kernel
theorem dX3_digitAt_0 : decode cX3_digitAt 0 = .ok (.iload_n 1, 1) := by decide +kernel
theorem dX3_digitAt_1 : decode cX3_digitAt 1 = .ok (.ifCond .lt 33, 3) := by decide +kernel
theorem dX3_digitAt_4 : decode cX3_digitAt 4 = .ok (.iload_n 1, 1) := by decide +kernel
theorem dX3_digitAt_5 : decode cX3_digitAt 5 = .ok (.aload_n 0, 1) := by decide +kernel
theorem dX3_digitAt_6 : decode cX3_digitAt 6 = .ok (.getfield 15, 3) := by decide +kernel
theorem dX3_digitAt_9 : decode cX3_digitAt 9 = .ok (.if_icmp .ge 25, 3) := by decide +kernel
theorem dX3_digitAt_12 : decode cX3_digitAt 12 = .ok (.aload_n 0, 1) := by decide +kernel
theorem dX3_digitAt_13 : decode cX3_digitAt 13 = .ok (.getfield 9, 3) := by decide +kernel
theorem dX3_digitAt_16 : decode cX3_digitAt 16 = .ok (.iload_n 1, 1) := by decide +kernel
theorem dX3_digitAt_17 : decode cX3_digitAt 17 = .ok (.caload, 1) := by decide +kernel
theorem dX3_digitAt_18 : decode cX3_digitAt 18 = .ok (.bipush 48, 2) := by decide +kernel
theorem dX3_digitAt_20 : decode cX3_digitAt 20 = .ok (.if_icmp .lt 14, 3) := by decide +kernel
theorem dX3_digitAt_23 : decode cX3_digitAt 23 = .ok (.aload_n 0, 1) := by decide +kernel
theorem dX3_digitAt_24 : decode cX3_digitAt 24 = .ok (.getfield 9, 3) := by decide +kernel
theorem dX3_digitAt_27 : decode cX3_digitAt 27 = .ok (.iload_n 1, 1) := by decide +kernel
theorem dX3_digitAt_28 : decode cX3_digitAt 28 = .ok (.caload, 1) := by decide +kernel
theorem dX3_digitAt_29 : decode cX3_digitAt 29 = .ok (.bipush 57, 2) := by decide +kernel
theorem dX3_digitAt_31 : decode cX3_digitAt 31 = .ok (.if_icmp .le 5, 3) := by decide +kernel
theorem dX3_digitAt_34 : decode cX3_digitAt 34 = .ok (.iconst (-1), 1) := by decide +kernel
theorem dX3_digitAt_35 : decode cX3_digitAt 35 = .ok (.ireturn, 1) := by decide +kernel
theorem dX3_digitAt_36 : decode cX3_digitAt 36 = .ok (.aload_n 0, 1) := by decide +kernel
theorem dX3_digitAt_37 : decode cX3_digitAt 37 = .ok (.getfield 9, 3) := by decide +kernel
theorem dX3_digitAt_40 : decode cX3_digitAt 40 = .ok (.iload_n 1, 1) := by decide +kernel
theorem dX3_digitAt_41 : decode cX3_digitAt 41 = .ok (.caload, 1) := by decide +kernel
theorem dX3_digitAt_42 : decode cX3_digitAt 42 = .ok (.bipush 48, 2) := by decide +kernel
theorem dX3_digitAt_44 : decode cX3_digitAt 44 = .ok (.isub, 1) := by decide +kernel
theorem dX3_digitAt_45 : decode cX3_digitAt 45 = .ok (.ireturn, 1) := by decide +kernel
theorem dX4_init_0 : decode cX4_init 0 = .ok (.aload_n 0, 1) := by decide +kernel
theorem dX4_init_1 : decode cX4_init 1 = .ok (.invokespecial 3, 3) := by decide +kernel
theorem dX4_init_4 : decode cX4_init 4 = .ok (.aload_n 0, 1) := by decide +kernel
theorem dX4_init_5 : decode cX4_init 5 = .ok (.bipush 6, 2) := by decide +kernel
theorem dX4_init_7 : decode cX4_init 7 = .ok (.newarray .int, 2) := by decide +kernel
theorem dX4_init_9 : decode cX4_init 9 = .ok (.putfield 9, 3) := by decide +kernel
theorem dX4_init_12 : decode cX4_init 12 = .ok (.aload_n 0, 1) := by decide +kernel
theorem dX4_init_13 : decode cX4_init 13 = .ok (.bipush 6, 2) := by decide +kernel
theorem dX4_init_15 : decode cX4_init 15 = .ok (.newarray .int, 2) := by decide +kernel
theorem dX4_init_17 : decode cX4_init 17 = .ok (.putfield 15, 3) := by decide +kernel
theorem dX4_init_20 : decode cX4_init 20 = .ok (.aload_n 0, 1) := by decide +kernel
theorem dX4_init_21 : decode cX4_init 21 = .ok (.bipush 6, 2) := by decide +kernel
theorem dX4_init_23 : decode cX4_init 23 = .ok (.newarray .boolean, 2) := by decide +kernel
theorem dX4_init_25 : decode cX4_init 25 = .ok (.putfield 18, 3) := by decide +kernel
theorem dX4_init_28 : decode cX4_init 28 = .ok (.aload_n 0, 1) := by decide +kernel
theorem dX4_init_29 : decode cX4_init 29 = .ok (.bipush 6, 2) := by decide +kernel
theorem dX4_init_31 : decode cX4_init 31 = .ok (.newarray .int, 2) := by decide +kernel
theorem dX4_init_33 : decode cX4_init 33 = .ok (.putfield 22, 3) := by decide +kernel
theorem dX4_init_36 : decode cX4_init 36 = .ok (.aload_n 0, 1) := by decide +kernel
theorem dX4_init_37 : decode cX4_init 37 = .ok (.bipush 6, 2) := by decide +kernel
theorem dX4_init_39 : decode cX4_init 39 = .ok (.newarray .int, 2) := by decide +kernel
theorem dX4_init_41 : decode cX4_init 41 = .ok (.putfield 25, 3) := by decide +kernel
theorem dX4_init_44 : decode cX4_init 44 = .ok (.aload_n 0, 1) := by decide +kernel
theorem dX4_init_45 : decode cX4_init 45 = .ok (.bipush 48, 2) := by decide +kernel
theorem dX4_init_47 : decode cX4_init 47 = .ok (.newarray .int, 2) := by decide +kernel
theorem dX4_init_49 : decode cX4_init 49 = .ok (.putfield 28, 3) := by decide +kernel
theorem dX4_init_52 : decode cX4_init 52 = .ok (.aload_n 0, 1) := by decide +kernel
theorem dX4_init_53 : decode cX4_init 53 = .ok (.bipush 48, 2) := by decide +kernel
theorem dX4_init_55 : decode cX4_init 55 = .ok (.newarray .int, 2) := by decide +kernel
theorem dX4_init_57 : decode cX4_init 57 = .ok (.putfield 31, 3) := by decide +kernel
theorem dX4_init_60 : decode cX4_init 60 = .ok (.aload_n 0, 1) := by decide +kernel
theorem dX4_init_61 : decode cX4_init 61 = .ok (.bipush 48, 2) := by decide +kernel
theorem dX4_init_63 : decode cX4_init 63 = .ok (.newarray .int, 2) := by decide +kernel
theorem dX4_init_65 : decode cX4_init 65 = .ok (.putfield 34, 3) := by decide +kernel
theorem dX4_init_68 : decode cX4_init 68 = .ok (.aload_n 0, 1) := by decide +kernel
theorem dX4_init_69 : decode cX4_init 69 = .ok (.bipush 24, 2) := by decide +kernel
theorem dX4_init_71 : decode cX4_init 71 = .ok (.newarray .int, 2) := by decide +kernel
theorem dX4_init_73 : decode cX4_init 73 = .ok (.putfield 37, 3) := by decide +kernel
theorem dX4_init_76 : decode cX4_init 76 = .ok (.aload_n 0, 1) := by decide +kernel
theorem dX4_init_77 : decode cX4_init 77 = .ok (.bipush 24, 2) := by decide +kernel
theorem dX4_init_79 : decode cX4_init 79 = .ok (.newarray .int, 2) := by decide +kernel
theorem dX4_init_81 : decode cX4_init 81 = .ok (.putfield 40, 3) := by decide +kernel
theorem dX4_init_84 : decode cX4_init 84 = .ok (.aload_n 0, 1) := by decide +kernel
theorem dX4_init_85 : decode cX4_init 85 = .ok (.iconst 5, 1) := by decide +kernel
theorem dX4_init_86 : decode cX4_init 86 = .ok (.newarray .int, 2) := by decide +kernel
theorem dX4_init_88 : decode cX4_init 88 = .ok (.putfield 43, 3) := by decide +kernel
theorem dX4_init_91 : decode cX4_init 91 = .ok (.aload_n 0, 1) := by decide +kernel
theorem dX4_init_92 : decode cX4_init 92 = .ok (.new 46, 3) := by decide +kernel
theorem dX4_init_95 : decode cX4_init 95 = .ok (.dup, 1) := by decide +kernel
theorem dX4_init_96 : decode cX4_init 96 = .ok (.invokespecial 48, 3) := by decide +kernel
theorem dX4_init_99 : decode cX4_init 99 = .ok (.putfield 49, 3) := by decide +kernel
theorem dX4_init_102 : decode cX4_init 102 = .ok (.aload_n 0, 1) := by decide +kernel
theorem dX4_init_103 : decode cX4_init 103 = .ok (.new 53, 3) := by decide +kernel
theorem dX4_init_106 : decode cX4_init 106 = .ok (.dup, 1) := by decide +kernel
theorem dX4_init_107 : decode cX4_init 107 = .ok (.invokespecial 55, 3) := by decide +kernel
theorem dX4_init_110 : decode cX4_init 110 = .ok (.putfield 56, 3) := by decide +kernel
theorem dX4_init_113 : decode cX4_init 113 = .ok (.aload_n 0, 1) := by decide +kernel
theorem dX4_init_114 : decode cX4_init 114 = .ok (.iconst (-1), 1) := by decide +kernel
theorem dX4_init_115 : decode cX4_init 115 = .ok (.putfield 60, 3) := by decide +kernel
theorem dX4_init_118 : decode cX4_init 118 = .ok (.aload_n 0, 1) := by decide +kernel
theorem dX4_init_119 : decode cX4_init 119 = .ok (.iconst 0, 1) := by decide +kernel
theorem dX4_init_120 : decode cX4_init 120 = .ok (.putfield 64, 3) := by decide +kernel
theorem dX4_init_123 : decode cX4_init 123 = .ok (.aload_n 0, 1) := by decide +kernel
theorem dX4_init_124 : decode cX4_init 124 = .ok (.iconst 0, 1) := by decide +kernel
theorem dX4_init_125 : decode cX4_init 125 = .ok (.putfield 67, 3) := by decide +kernel
theorem dX4_init_128 : decode cX4_init 128 = .ok (.aload_n 0, 1) := by decide +kernel
theorem dX4_init_129 : decode cX4_init 129 = .ok (.iconst 0, 1) := by decide +kernel
theorem dX4_init_130 : decode cX4_init 130 = .ok (.putfield 70, 3) := by decide +kernel
theorem dX4_init_133 : decode cX4_init 133 = .ok (.aload_n 0, 1) := by decide +kernel
theorem dX4_init_134 : decode cX4_init 134 = .ok (.iconst 0, 1) := by decide +kernel
theorem dX4_init_135 : decode cX4_init 135 = .ok (.putfield 73, 3) := by decide +kernel
theorem dX4_init_138 : decode cX4_init 138 = .ok (.getstatic 76, 3) := by decide +kernel
theorem dX4_init_141 : decode cX4_init 141 = .ok (.iconst 0, 1) := by decide +kernel
theorem dX4_init_142 : decode cX4_init 142 = .ok (.aload_n 0, 1) := by decide +kernel
theorem dX4_init_143 : decode cX4_init 143 = .ok (.getfield 9, 3) := by decide +kernel
theorem dX4_init_146 : decode cX4_init 146 = .ok (.iconst 0, 1) := by decide +kernel
theorem dX4_init_147 : decode cX4_init 147 = .ok (.bipush 6, 2) := by decide +kernel
theorem dX4_init_149 : decode cX4_init 149 = .ok (.invokestatic 79, 3) := by decide +kernel
theorem dX4_init_152 : decode cX4_init 152 = .ok (.getstatic 85, 3) := by decide +kernel
theorem dX4_init_155 : decode cX4_init 155 = .ok (.iconst 0, 1) := by decide +kernel
theorem dX4_init_156 : decode cX4_init 156 = .ok (.aload_n 0, 1) := by decide +kernel
theorem dX4_init_157 : decode cX4_init 157 = .ok (.getfield 43, 3) := by decide +kernel
theorem dX4_init_160 : decode cX4_init 160 = .ok (.iconst 0, 1) := by decide +kernel
theorem dX4_init_161 : decode cX4_init 161 = .ok (.iconst 5, 1) := by decide +kernel
theorem dX4_init_162 : decode cX4_init 162 = .ok (.invokestatic 79, 3) := by decide +kernel
theorem dX4_init_165 : decode cX4_init 165 = .ok (.iconst 0, 1) := by decide +kernel
theorem dX4_init_166 : decode cX4_init 166 = .ok (.istore_n 1, 1) := by decide +kernel
theorem dX4_init_167 : decode cX4_init 167 = .ok (.iload_n 1, 1) := by decide +kernel
theorem dX4_init_168 : decode cX4_init 168 = .ok (.bipush 48, 2) := by decide +kernel
theorem dX4_init_170 : decode cX4_init 170 = .ok (.if_icmp .ge 16, 3) := by decide +kernel
theorem dX4_init_173 : decode cX4_init 173 = .ok (.aload_n 0, 1) := by decide +kernel
theorem dX4_init_174 : decode cX4_init 174 = .ok (.getfield 28, 3) := by decide +kernel
theorem dX4_init_177 : decode cX4_init 177 = .ok (.iload_n 1, 1) := by decide +kernel
theorem dX4_init_178 : decode cX4_init 178 = .ok (.iconst (-1), 1) := by decide +kernel
theorem dX4_init_179 : decode cX4_init 179 = .ok (.iastore, 1) := by decide +kernel
theorem dX4_init_180 : decode cX4_init 180 = .ok (.iinc 1 1, 3) := by decide +kernel
theorem dX4_init_183 : decode cX4_init 183 = .ok (.goto (-16), 3) := by decide +kernel
theorem dX4_init_186 : decode cX4_init 186 = .ok (.iconst 0, 1) := by decide +kernel
theorem dX4_init_187 : decode cX4_init 187 = .ok (.istore_n 1, 1) := by decide +kernel
theorem dX4_init_188 : decode cX4_init 188 = .ok (.iload_n 1, 1) := by decide +kernel
theorem dX4_init_189 : decode cX4_init 189 = .ok (.bipush 24, 2) := by decide +kernel
theorem dX4_init_191 : decode cX4_init 191 = .ok (.if_icmp .ge 16, 3) := by decide +kernel
theorem dX4_init_194 : decode cX4_init 194 = .ok (.aload_n 0, 1) := by decide +kernel
theorem dX4_init_195 : decode cX4_init 195 = .ok (.getfield 37, 3) := by decide +kernel
theorem dX4_init_198 : decode cX4_init 198 = .ok (.iload_n 1, 1) := by decide +kernel
theorem dX4_init_199 : decode cX4_init 199 = .ok (.iconst (-1), 1) := by decide +kernel
theorem dX4_init_200 : decode cX4_init 200 = .ok (.iastore, 1) := by decide +kernel
theorem dX4_init_201 : decode cX4_init 201 = .ok (.iinc 1 1, 3) := by decide +kernel
theorem dX4_init_204 : decode cX4_init 204 = .ok (.goto (-16), 3) := by decide +kernel
theorem dX4_init_207 : decode cX4_init 207 = .ok (.return_, 1) := by decide +kernel
theorem dX4_copyFrom_0 : decode cX4_copyFrom 0 = .ok (.aload_n 1, 1) := by decide +kernel
theorem dX4_copyFrom_1 : decode cX4_copyFrom 1 = .ok (.getfield 9, 3) := by decide +kernel
theorem dX4_copyFrom_4 : decode cX4_copyFrom 4 = .ok (.iconst 0, 1) := by decide +kernel
theorem dX4_copyFrom_5 : decode cX4_copyFrom 5 = .ok (.aload_n 0, 1) := by decide +kernel
theorem dX4_copyFrom_6 : decode cX4_copyFrom 6 = .ok (.getfield 9, 3) := by decide +kernel
theorem dX4_copyFrom_9 : decode cX4_copyFrom 9 = .ok (.iconst 0, 1) := by decide +kernel
theorem dX4_copyFrom_10 : decode cX4_copyFrom 10 = .ok (.bipush 6, 2) := by decide +kernel
theorem dX4_copyFrom_12 : decode cX4_copyFrom 12 = .ok (.invokestatic 79, 3) := by decide +kernel
theorem dX4_copyFrom_15 : decode cX4_copyFrom 15 = .ok (.aload_n 1, 1) := by decide +kernel
theorem dX4_copyFrom_16 : decode cX4_copyFrom 16 = .ok (.getfield 15, 3) := by decide +kernel
theorem dX4_copyFrom_19 : decode cX4_copyFrom 19 = .ok (.iconst 0, 1) := by decide +kernel
theorem dX4_copyFrom_20 : decode cX4_copyFrom 20 = .ok (.aload_n 0, 1) := by decide +kernel
theorem dX4_copyFrom_21 : decode cX4_copyFrom 21 = .ok (.getfield 15, 3) := by decide +kernel
theorem dX4_copyFrom_24 : decode cX4_copyFrom 24 = .ok (.iconst 0, 1) := by decide +kernel
theorem dX4_copyFrom_25 : decode cX4_copyFrom 25 = .ok (.bipush 6, 2) := by decide +kernel
theorem dX4_copyFrom_27 : decode cX4_copyFrom 27 = .ok (.invokestatic 79, 3) := by decide +kernel
theorem dX4_copyFrom_30 : decode cX4_copyFrom 30 = .ok (.aload_n 1, 1) := by decide +kernel
theorem dX4_copyFrom_31 : decode cX4_copyFrom 31 = .ok (.getfield 22, 3) := by decide +kernel
theorem dX4_copyFrom_34 : decode cX4_copyFrom 34 = .ok (.iconst 0, 1) := by decide +kernel
theorem dX4_copyFrom_35 : decode cX4_copyFrom 35 = .ok (.aload_n 0, 1) := by decide +kernel
theorem dX4_copyFrom_36 : decode cX4_copyFrom 36 = .ok (.getfield 22, 3) := by decide +kernel
theorem dX4_copyFrom_39 : decode cX4_copyFrom 39 = .ok (.iconst 0, 1) := by decide +kernel
theorem dX4_copyFrom_40 : decode cX4_copyFrom 40 = .ok (.bipush 6, 2) := by decide +kernel
theorem dX4_copyFrom_42 : decode cX4_copyFrom 42 = .ok (.invokestatic 79, 3) := by decide +kernel
theorem dX4_copyFrom_45 : decode cX4_copyFrom 45 = .ok (.aload_n 1, 1) := by decide +kernel
theorem dX4_copyFrom_46 : decode cX4_copyFrom 46 = .ok (.getfield 25, 3) := by decide +kernel
theorem dX4_copyFrom_49 : decode cX4_copyFrom 49 = .ok (.iconst 0, 1) := by decide +kernel
theorem dX4_copyFrom_50 : decode cX4_copyFrom 50 = .ok (.aload_n 0, 1) := by decide +kernel
theorem dX4_copyFrom_51 : decode cX4_copyFrom 51 = .ok (.getfield 25, 3) := by decide +kernel
theorem dX4_copyFrom_54 : decode cX4_copyFrom 54 = .ok (.iconst 0, 1) := by decide +kernel
theorem dX4_copyFrom_55 : decode cX4_copyFrom 55 = .ok (.bipush 6, 2) := by decide +kernel
theorem dX4_copyFrom_57 : decode cX4_copyFrom 57 = .ok (.invokestatic 79, 3) := by decide +kernel
theorem dX4_copyFrom_60 : decode cX4_copyFrom 60 = .ok (.aload_n 1, 1) := by decide +kernel
theorem dX4_copyFrom_61 : decode cX4_copyFrom 61 = .ok (.getfield 28, 3) := by decide +kernel
theorem dX4_copyFrom_64 : decode cX4_copyFrom 64 = .ok (.iconst 0, 1) := by decide +kernel
theorem dX4_copyFrom_65 : decode cX4_copyFrom 65 = .ok (.aload_n 0, 1) := by decide +kernel
theorem dX4_copyFrom_66 : decode cX4_copyFrom 66 = .ok (.getfield 28, 3) := by decide +kernel
theorem dX4_copyFrom_69 : decode cX4_copyFrom 69 = .ok (.iconst 0, 1) := by decide +kernel
theorem dX4_copyFrom_70 : decode cX4_copyFrom 70 = .ok (.bipush 48, 2) := by decide +kernel
theorem dX4_copyFrom_72 : decode cX4_copyFrom 72 = .ok (.invokestatic 79, 3) := by decide +kernel
theorem dX4_copyFrom_75 : decode cX4_copyFrom 75 = .ok (.aload_n 1, 1) := by decide +kernel
theorem dX4_copyFrom_76 : decode cX4_copyFrom 76 = .ok (.getfield 31, 3) := by decide +kernel
theorem dX4_copyFrom_79 : decode cX4_copyFrom 79 = .ok (.iconst 0, 1) := by decide +kernel
theorem dX4_copyFrom_80 : decode cX4_copyFrom 80 = .ok (.aload_n 0, 1) := by decide +kernel
theorem dX4_copyFrom_81 : decode cX4_copyFrom 81 = .ok (.getfield 31, 3) := by decide +kernel
theorem dX4_copyFrom_84 : decode cX4_copyFrom 84 = .ok (.iconst 0, 1) := by decide +kernel
theorem dX4_copyFrom_85 : decode cX4_copyFrom 85 = .ok (.bipush 48, 2) := by decide +kernel
theorem dX4_copyFrom_87 : decode cX4_copyFrom 87 = .ok (.invokestatic 79, 3) := by decide +kernel
theorem dX4_copyFrom_90 : decode cX4_copyFrom 90 = .ok (.aload_n 1, 1) := by decide +kernel
theorem dX4_copyFrom_91 : decode cX4_copyFrom 91 = .ok (.getfield 34, 3) := by decide +kernel
theorem dX4_copyFrom_94 : decode cX4_copyFrom 94 = .ok (.iconst 0, 1) := by decide +kernel
theorem dX4_copyFrom_95 : decode cX4_copyFrom 95 = .ok (.aload_n 0, 1) := by decide +kernel
theorem dX4_copyFrom_96 : decode cX4_copyFrom 96 = .ok (.getfield 34, 3) := by decide +kernel
theorem dX4_copyFrom_99 : decode cX4_copyFrom 99 = .ok (.iconst 0, 1) := by decide +kernel
theorem dX4_copyFrom_100 : decode cX4_copyFrom 100 = .ok (.bipush 48, 2) := by decide +kernel
theorem dX4_copyFrom_102 : decode cX4_copyFrom 102 = .ok (.invokestatic 79, 3) := by decide +kernel
theorem dX4_copyFrom_105 : decode cX4_copyFrom 105 = .ok (.aload_n 1, 1) := by decide +kernel
theorem dX4_copyFrom_106 : decode cX4_copyFrom 106 = .ok (.getfield 37, 3) := by decide +kernel
theorem dX4_copyFrom_109 : decode cX4_copyFrom 109 = .ok (.iconst 0, 1) := by decide +kernel
theorem dX4_copyFrom_110 : decode cX4_copyFrom 110 = .ok (.aload_n 0, 1) := by decide +kernel
theorem dX4_copyFrom_111 : decode cX4_copyFrom 111 = .ok (.getfield 37, 3) := by decide +kernel
theorem dX4_copyFrom_114 : decode cX4_copyFrom 114 = .ok (.iconst 0, 1) := by decide +kernel
theorem dX4_copyFrom_115 : decode cX4_copyFrom 115 = .ok (.bipush 24, 2) := by decide +kernel
theorem dX4_copyFrom_117 : decode cX4_copyFrom 117 = .ok (.invokestatic 79, 3) := by decide +kernel
theorem dX4_copyFrom_120 : decode cX4_copyFrom 120 = .ok (.aload_n 1, 1) := by decide +kernel
theorem dX4_copyFrom_121 : decode cX4_copyFrom 121 = .ok (.getfield 40, 3) := by decide +kernel
theorem dX4_copyFrom_124 : decode cX4_copyFrom 124 = .ok (.iconst 0, 1) := by decide +kernel
theorem dX4_copyFrom_125 : decode cX4_copyFrom 125 = .ok (.aload_n 0, 1) := by decide +kernel
theorem dX4_copyFrom_126 : decode cX4_copyFrom 126 = .ok (.getfield 40, 3) := by decide +kernel
theorem dX4_copyFrom_129 : decode cX4_copyFrom 129 = .ok (.iconst 0, 1) := by decide +kernel
theorem dX4_copyFrom_130 : decode cX4_copyFrom 130 = .ok (.bipush 24, 2) := by decide +kernel
theorem dX4_copyFrom_132 : decode cX4_copyFrom 132 = .ok (.invokestatic 79, 3) := by decide +kernel
theorem dX4_copyFrom_135 : decode cX4_copyFrom 135 = .ok (.aload_n 1, 1) := by decide +kernel
theorem dX4_copyFrom_136 : decode cX4_copyFrom 136 = .ok (.getfield 43, 3) := by decide +kernel
theorem dX4_copyFrom_139 : decode cX4_copyFrom 139 = .ok (.iconst 0, 1) := by decide +kernel
theorem dX4_copyFrom_140 : decode cX4_copyFrom 140 = .ok (.aload_n 0, 1) := by decide +kernel
theorem dX4_copyFrom_141 : decode cX4_copyFrom 141 = .ok (.getfield 43, 3) := by decide +kernel
theorem dX4_copyFrom_144 : decode cX4_copyFrom 144 = .ok (.iconst 0, 1) := by decide +kernel
theorem dX4_copyFrom_145 : decode cX4_copyFrom 145 = .ok (.iconst 5, 1) := by decide +kernel
theorem dX4_copyFrom_146 : decode cX4_copyFrom 146 = .ok (.invokestatic 79, 3) := by decide +kernel
theorem dX4_copyFrom_149 : decode cX4_copyFrom 149 = .ok (.iconst 0, 1) := by decide +kernel
theorem dX4_copyFrom_150 : decode cX4_copyFrom 150 = .ok (.istore_n 2, 1) := by decide +kernel
theorem dX4_copyFrom_151 : decode cX4_copyFrom 151 = .ok (.iload_n 2, 1) := by decide +kernel
theorem dX4_copyFrom_152 : decode cX4_copyFrom 152 = .ok (.bipush 6, 2) := by decide +kernel
theorem dX4_copyFrom_154 : decode cX4_copyFrom 154 = .ok (.if_icmp .ge 21, 3) := by decide +kernel
theorem dX4_copyFrom_157 : decode cX4_copyFrom 157 = .ok (.aload_n 0, 1) := by decide +kernel
theorem dX4_copyFrom_158 : decode cX4_copyFrom 158 = .ok (.getfield 18, 3) := by decide +kernel
theorem dX4_copyFrom_161 : decode cX4_copyFrom 161 = .ok (.iload_n 2, 1) := by decide +kernel
theorem dX4_copyFrom_162 : decode cX4_copyFrom 162 = .ok (.aload_n 1, 1) := by decide +kernel
theorem dX4_copyFrom_163 : decode cX4_copyFrom 163 = .ok (.getfield 18, 3) := by decide +kernel
theorem dX4_copyFrom_166 : decode cX4_copyFrom 166 = .ok (.iload_n 2, 1) := by decide +kernel
theorem dX4_copyFrom_167 : decode cX4_copyFrom 167 = .ok (.baload, 1) := by decide +kernel
theorem dX4_copyFrom_168 : decode cX4_copyFrom 168 = .ok (.bastore, 1) := by decide +kernel
theorem dX4_copyFrom_169 : decode cX4_copyFrom 169 = .ok (.iinc 2 1, 3) := by decide +kernel
theorem dX4_copyFrom_172 : decode cX4_copyFrom 172 = .ok (.goto (-21), 3) := by decide +kernel
theorem dX4_copyFrom_175 : decode cX4_copyFrom 175 = .ok (.aload_n 0, 1) := by decide +kernel
theorem dX4_copyFrom_176 : decode cX4_copyFrom 176 = .ok (.getfield 49, 3) := by decide +kernel
theorem dX4_copyFrom_179 : decode cX4_copyFrom 179 = .ok (.aload_n 1, 1) := by decide +kernel
theorem dX4_copyFrom_180 : decode cX4_copyFrom 180 = .ok (.getfield 49, 3) := by decide +kernel
theorem dX4_copyFrom_183 : decode cX4_copyFrom 183 = .ok (.invokevirtual 88, 3) := by decide +kernel
theorem dX4_copyFrom_186 : decode cX4_copyFrom 186 = .ok (.aload_n 0, 1) := by decide +kernel
theorem dX4_copyFrom_187 : decode cX4_copyFrom 187 = .ok (.getfield 56, 3) := by decide +kernel
theorem dX4_copyFrom_190 : decode cX4_copyFrom 190 = .ok (.aload_n 1, 1) := by decide +kernel
theorem dX4_copyFrom_191 : decode cX4_copyFrom 191 = .ok (.getfield 56, 3) := by decide +kernel
theorem dX4_copyFrom_194 : decode cX4_copyFrom 194 = .ok (.invokevirtual 92, 3) := by decide +kernel
theorem dX4_copyFrom_197 : decode cX4_copyFrom 197 = .ok (.aload_n 0, 1) := by decide +kernel
theorem dX4_copyFrom_198 : decode cX4_copyFrom 198 = .ok (.aload_n 1, 1) := by decide +kernel
theorem dX4_copyFrom_199 : decode cX4_copyFrom 199 = .ok (.getfield 60, 3) := by decide +kernel
theorem dX4_copyFrom_202 : decode cX4_copyFrom 202 = .ok (.putfield 60, 3) := by decide +kernel
theorem dX4_copyFrom_205 : decode cX4_copyFrom 205 = .ok (.aload_n 0, 1) := by decide +kernel
theorem dX4_copyFrom_206 : decode cX4_copyFrom 206 = .ok (.aload_n 1, 1) := by decide +kernel
theorem dX4_copyFrom_207 : decode cX4_copyFrom 207 = .ok (.getfield 64, 3) := by decide +kernel
theorem dX4_copyFrom_210 : decode cX4_copyFrom 210 = .ok (.putfield 64, 3) := by decide +kernel
theorem dX4_copyFrom_213 : decode cX4_copyFrom 213 = .ok (.aload_n 0, 1) := by decide +kernel
theorem dX4_copyFrom_214 : decode cX4_copyFrom 214 = .ok (.aload_n 1, 1) := by decide +kernel
theorem dX4_copyFrom_215 : decode cX4_copyFrom 215 = .ok (.getfield 67, 3) := by decide +kernel
theorem dX4_copyFrom_218 : decode cX4_copyFrom 218 = .ok (.putfield 67, 3) := by decide +kernel
theorem dX4_copyFrom_221 : decode cX4_copyFrom 221 = .ok (.aload_n 0, 1) := by decide +kernel
theorem dX4_copyFrom_222 : decode cX4_copyFrom 222 = .ok (.aload_n 1, 1) := by decide +kernel
theorem dX4_copyFrom_223 : decode cX4_copyFrom 223 = .ok (.getfield 70, 3) := by decide +kernel
theorem dX4_copyFrom_226 : decode cX4_copyFrom 226 = .ok (.putfield 70, 3) := by decide +kernel
theorem dX4_copyFrom_229 : decode cX4_copyFrom 229 = .ok (.aload_n 0, 1) := by decide +kernel
theorem dX4_copyFrom_230 : decode cX4_copyFrom 230 = .ok (.aload_n 1, 1) := by decide +kernel
theorem dX4_copyFrom_231 : decode cX4_copyFrom 231 = .ok (.getfield 73, 3) := by decide +kernel
theorem dX4_copyFrom_234 : decode cX4_copyFrom 234 = .ok (.putfield 73, 3) := by decide +kernel
theorem dX4_copyFrom_237 : decode cX4_copyFrom 237 = .ok (.return_, 1) := by decide +kernel
theorem dX4_bears_0 : decode cX4_bears 0 = .ok (.aload_n 0, 1) := by decide +kernel
theorem dX4_bears_1 : decode cX4_bears 1 = .ok (.getfield 9, 3) := by decide +kernel
theorem dX4_bears_4 : decode cX4_bears 4 = .ok (.iload_n 1, 1) := by decide +kernel
theorem dX4_bears_5 : decode cX4_bears 5 = .ok (.iaload, 1) := by decide +kernel
theorem dX4_bears_6 : decode cX4_bears 6 = .ok (.istore_n 2, 1) := by decide +kernel
theorem dX4_bears_7 : decode cX4_bears 7 = .ok (.iload_n 2, 1) := by decide +kernel
theorem dX4_bears_8 : decode cX4_bears 8 = .ok (.ifCond .lt 8, 3) := by decide +kernel
theorem dX4_bears_11 : decode cX4_bears 11 = .ok (.iload_n 2, 1) := by decide +kernel
theorem dX4_bears_12 : decode cX4_bears 12 = .ok (.iconst 2, 1) := by decide +kernel
theorem dX4_bears_13 : decode cX4_bears 13 = .ok (.if_icmp .le 6, 3) := by decide +kernel
theorem dX4_bears_16 : decode cX4_bears 16 = .ok (.bipush 20, 2) := by decide +kernel
theorem dX4_bears_18 : decode cX4_bears 18 = .ok (.ireturn, 1) := by decide +kernel
theorem dX4_bears_19 : decode cX4_bears 19 = .ok (.getstatic 95, 3) := by decide +kernel
theorem dX4_bears_22 : decode cX4_bears 22 = .ok (.iload_n 2, 1) := by decide +kernel
theorem dX4_bears_23 : decode cX4_bears 23 = .ok (.iaload, 1) := by decide +kernel
theorem dX4_bears_24 : decode cX4_bears 24 = .ok (.getstatic 98, 3) := by decide +kernel
theorem dX4_bears_27 : decode cX4_bears 27 = .ok (.iload_n 2, 1) := by decide +kernel
theorem dX4_bears_28 : decode cX4_bears 28 = .ok (.iaload, 1) := by decide +kernel
theorem dX4_bears_29 : decode cX4_bears 29 = .ok (.aload_n 0, 1) := by decide +kernel
theorem dX4_bears_30 : decode cX4_bears 30 = .ok (.getfield 15, 3) := by decide +kernel
theorem dX4_bears_33 : decode cX4_bears 33 = .ok (.iload_n 1, 1) := by decide +kernel
theorem dX4_bears_34 : decode cX4_bears 34 = .ok (.iaload, 1) := by decide +kernel
theorem dX4_bears_35 : decode cX4_bears 35 = .ok (.imul, 1) := by decide +kernel
theorem dX4_bears_36 : decode cX4_bears 36 = .ok (.isub, 1) := by decide +kernel
theorem dX4_bears_37 : decode cX4_bears 37 = .ok (.istore_n 3, 1) := by decide +kernel
theorem dX4_bears_38 : decode cX4_bears 38 = .ok (.iload_n 3, 1) := by decide +kernel
theorem dX4_bears_39 : decode cX4_bears 39 = .ok (.bipush 20, 2) := by decide +kernel
theorem dX4_bears_41 : decode cX4_bears 41 = .ok (.if_icmp .ge 8, 3) := by decide +kernel
theorem dX4_bears_44 : decode cX4_bears 44 = .ok (.bipush 20, 2) := by decide +kernel
theorem dX4_bears_46 : decode cX4_bears 46 = .ok (.goto 4, 3) := by decide +kernel
theorem dX4_bears_49 : decode cX4_bears 49 = .ok (.iload_n 3, 1) := by decide +kernel
theorem dX4_bears_50 : decode cX4_bears 50 = .ok (.ireturn, 1) := by decide +kernel
theorem dX4_isFree_0 : decode cX4_isFree 0 = .ok (.aload_n 0, 1) := by decide +kernel
theorem dX4_isFree_1 : decode cX4_isFree 1 = .ok (.getfield 25, 3) := by decide +kernel
theorem dX4_isFree_4 : decode cX4_isFree 4 = .ok (.iload_n 1, 1) := by decide +kernel
theorem dX4_isFree_5 : decode cX4_isFree 5 = .ok (.iaload, 1) := by decide +kernel
theorem dX4_isFree_6 : decode cX4_isFree 6 = .ok (.ifCond .ne 15, 3) := by decide +kernel
theorem dX4_isFree_9 : decode cX4_isFree 9 = .ok (.iload_n 1, 1) := by decide +kernel
theorem dX4_isFree_10 : decode cX4_isFree 10 = .ok (.aload_n 0, 1) := by decide +kernel
theorem dX4_isFree_11 : decode cX4_isFree 11 = .ok (.getfield 60, 3) := by decide +kernel
theorem dX4_isFree_14 : decode cX4_isFree 14 = .ok (.if_icmp .eq 7, 3) := by decide +kernel
theorem dX4_isFree_17 : decode cX4_isFree 17 = .ok (.iconst 1, 1) := by decide +kernel
theorem dX4_isFree_18 : decode cX4_isFree 18 = .ok (.goto 4, 3) := by decide +kernel
theorem dX4_isFree_21 : decode cX4_isFree 21 = .ok (.iconst 0, 1) := by decide +kernel
theorem dX4_isFree_22 : decode cX4_isFree 22 = .ok (.ireturn, 1) := by decide +kernel
theorem dX4_freeBlocks_0 : decode cX4_freeBlocks 0 = .ok (.iconst 0, 1) := by decide +kernel
theorem dX4_freeBlocks_1 : decode cX4_freeBlocks 1 = .ok (.istore_n 1, 1) := by decide +kernel
theorem dX4_freeBlocks_2 : decode cX4_freeBlocks 2 = .ok (.iconst 0, 1) := by decide +kernel
theorem dX4_freeBlocks_3 : decode cX4_freeBlocks 3 = .ok (.istore_n 2, 1) := by decide +kernel
theorem dX4_freeBlocks_4 : decode cX4_freeBlocks 4 = .ok (.iload_n 2, 1) := by decide +kernel
theorem dX4_freeBlocks_5 : decode cX4_freeBlocks 5 = .ok (.bipush 6, 2) := by decide +kernel
theorem dX4_freeBlocks_7 : decode cX4_freeBlocks 7 = .ok (.if_icmp .ge 20, 3) := by decide +kernel
theorem dX4_freeBlocks_10 : decode cX4_freeBlocks 10 = .ok (.aload_n 0, 1) := by decide +kernel
theorem dX4_freeBlocks_11 : decode cX4_freeBlocks 11 = .ok (.iload_n 2, 1) := by decide +kernel
theorem dX4_freeBlocks_12 : decode cX4_freeBlocks 12 = .ok (.invokevirtual 101, 3) := by decide +kernel
theorem dX4_freeBlocks_15 : decode cX4_freeBlocks 15 = .ok (.ifCond .eq 6, 3) := by decide +kernel
theorem dX4_freeBlocks_18 : decode cX4_freeBlocks 18 = .ok (.iinc 1 1, 3) := by decide +kernel
theorem dX4_freeBlocks_21 : decode cX4_freeBlocks 21 = .ok (.iinc 2 1, 3) := by decide +kernel
theorem dX4_freeBlocks_24 : decode cX4_freeBlocks 24 = .ok (.goto (-20), 3) := by decide +kernel
theorem dX4_freeBlocks_27 : decode cX4_freeBlocks 27 = .ok (.iload_n 1, 1) := by decide +kernel
theorem dX4_freeBlocks_28 : decode cX4_freeBlocks 28 = .ok (.ireturn, 1) := by decide +kernel
theorem dX4_hasPlace_0 : decode cX4_hasPlace 0 = .ok (.iload_n 1, 1) := by decide +kernel
theorem dX4_hasPlace_1 : decode cX4_hasPlace 1 = .ok (.invokestatic 105, 3) := by decide +kernel
theorem dX4_hasPlace_4 : decode cX4_hasPlace 4 = .ok (.ifCond .eq 27, 3) := by decide +kernel
theorem dX4_hasPlace_7 : decode cX4_hasPlace 7 = .ok (.aload_n 0, 1) := by decide +kernel
theorem dX4_hasPlace_8 : decode cX4_hasPlace 8 = .ok (.getfield 37, 3) := by decide +kernel
theorem dX4_hasPlace_11 : decode cX4_hasPlace 11 = .ok (.iload_n 1, 1) := by decide +kernel
theorem dX4_hasPlace_12 : decode cX4_hasPlace 12 = .ok (.iaload, 1) := by decide +kernel
theorem dX4_hasPlace_13 : decode cX4_hasPlace 13 = .ok (.ifCond .lt 18, 3) := by decide +kernel
theorem dX4_hasPlace_16 : decode cX4_hasPlace 16 = .ok (.aload_n 0, 1) := by decide +kernel
theorem dX4_hasPlace_17 : decode cX4_hasPlace 17 = .ok (.getfield 37, 3) := by decide +kernel
theorem dX4_hasPlace_20 : decode cX4_hasPlace 20 = .ok (.iload_n 1, 1) := by decide +kernel
theorem dX4_hasPlace_21 : decode cX4_hasPlace 21 = .ok (.iaload, 1) := by decide +kernel
theorem dX4_hasPlace_22 : decode cX4_hasPlace 22 = .ok (.bipush 48, 2) := by decide +kernel
theorem dX4_hasPlace_24 : decode cX4_hasPlace 24 = .ok (.if_icmp .ge 7, 3) := by decide +kernel
theorem dX4_hasPlace_27 : decode cX4_hasPlace 27 = .ok (.iconst 1, 1) := by decide +kernel
theorem dX4_hasPlace_28 : decode cX4_hasPlace 28 = .ok (.goto 4, 3) := by decide +kernel
theorem dX4_hasPlace_31 : decode cX4_hasPlace 31 = .ok (.iconst 0, 1) := by decide +kernel
theorem dX4_hasPlace_32 : decode cX4_hasPlace 32 = .ok (.ireturn, 1) := by decide +kernel
theorem dX4_pagesIn_0 : decode cX4_pagesIn 0 = .ok (.iconst 0, 1) := by decide +kernel
theorem dX4_pagesIn_1 : decode cX4_pagesIn 1 = .ok (.istore_n 2, 1) := by decide +kernel
theorem dX4_pagesIn_2 : decode cX4_pagesIn 2 = .ok (.iload_n 1, 1) := by decide +kernel
theorem dX4_pagesIn_3 : decode cX4_pagesIn 3 = .ok (.bipush 8, 2) := by decide +kernel
theorem dX4_pagesIn_5 : decode cX4_pagesIn 5 = .ok (.imul, 1) := by decide +kernel
theorem dX4_pagesIn_6 : decode cX4_pagesIn 6 = .ok (.istore_n 3, 1) := by decide +kernel
theorem dX4_pagesIn_7 : decode cX4_pagesIn 7 = .ok (.iload_n 3, 1) := by decide +kernel
theorem dX4_pagesIn_8 : decode cX4_pagesIn 8 = .ok (.istore 4, 2) := by decide +kernel
theorem dX4_pagesIn_10 : decode cX4_pagesIn 10 = .ok (.iload 4, 2) := by decide +kernel
theorem dX4_pagesIn_12 : decode cX4_pagesIn 12 = .ok (.iload_n 3, 1) := by decide +kernel
theorem dX4_pagesIn_13 : decode cX4_pagesIn 13 = .ok (.bipush 8, 2) := by decide +kernel
theorem dX4_pagesIn_15 : decode cX4_pagesIn 15 = .ok (.iadd, 1) := by decide +kernel
theorem dX4_pagesIn_16 : decode cX4_pagesIn 16 = .ok (.if_icmp .ge 22, 3) := by decide +kernel
theorem dX4_pagesIn_19 : decode cX4_pagesIn 19 = .ok (.aload_n 0, 1) := by decide +kernel
theorem dX4_pagesIn_20 : decode cX4_pagesIn 20 = .ok (.getfield 28, 3) := by decide +kernel
theorem dX4_pagesIn_23 : decode cX4_pagesIn 23 = .ok (.iload 4, 2) := by decide +kernel
theorem dX4_pagesIn_25 : decode cX4_pagesIn 25 = .ok (.iaload, 1) := by decide +kernel
theorem dX4_pagesIn_26 : decode cX4_pagesIn 26 = .ok (.ifCond .lt 6, 3) := by decide +kernel
theorem dX4_pagesIn_29 : decode cX4_pagesIn 29 = .ok (.iinc 2 1, 3) := by decide +kernel
theorem dX4_pagesIn_32 : decode cX4_pagesIn 32 = .ok (.iinc 4 1, 3) := by decide +kernel
theorem dX4_pagesIn_35 : decode cX4_pagesIn 35 = .ok (.goto (-25), 3) := by decide +kernel
theorem dX4_pagesIn_38 : decode cX4_pagesIn 38 = .ok (.iload_n 2, 1) := by decide +kernel
theorem dX4_pagesIn_39 : decode cX4_pagesIn 39 = .ok (.ireturn, 1) := by decide +kernel
theorem dX4_pagesInAll_0 : decode cX4_pagesInAll 0 = .ok (.iconst 0, 1) := by decide +kernel
theorem dX4_pagesInAll_1 : decode cX4_pagesInAll 1 = .ok (.istore_n 1, 1) := by decide +kernel
theorem dX4_pagesInAll_2 : decode cX4_pagesInAll 2 = .ok (.iconst 0, 1) := by decide +kernel
theorem dX4_pagesInAll_3 : decode cX4_pagesInAll 3 = .ok (.istore_n 2, 1) := by decide +kernel
theorem dX4_pagesInAll_4 : decode cX4_pagesInAll 4 = .ok (.iload_n 2, 1) := by decide +kernel
theorem dX4_pagesInAll_5 : decode cX4_pagesInAll 5 = .ok (.bipush 6, 2) := by decide +kernel
theorem dX4_pagesInAll_7 : decode cX4_pagesInAll 7 = .ok (.if_icmp .ge 17, 3) := by decide +kernel
theorem dX4_pagesInAll_10 : decode cX4_pagesInAll 10 = .ok (.iload_n 1, 1) := by decide +kernel
theorem dX4_pagesInAll_11 : decode cX4_pagesInAll 11 = .ok (.aload_n 0, 1) := by decide +kernel
theorem dX4_pagesInAll_12 : decode cX4_pagesInAll 12 = .ok (.iload_n 2, 1) := by decide +kernel
theorem dX4_pagesInAll_13 : decode cX4_pagesInAll 13 = .ok (.invokevirtual 108, 3) := by decide +kernel
theorem dX4_pagesInAll_16 : decode cX4_pagesInAll 16 = .ok (.iadd, 1) := by decide +kernel
theorem dX4_pagesInAll_17 : decode cX4_pagesInAll 17 = .ok (.istore_n 1, 1) := by decide +kernel
theorem dX4_pagesInAll_18 : decode cX4_pagesInAll 18 = .ok (.iinc 2 1, 3) := by decide +kernel
theorem dX4_pagesInAll_21 : decode cX4_pagesInAll 21 = .ok (.goto (-17), 3) := by decide +kernel
theorem dX4_pagesInAll_24 : decode cX4_pagesInAll 24 = .ok (.iload_n 1, 1) := by decide +kernel
theorem dX4_pagesInAll_25 : decode cX4_pagesInAll 25 = .ok (.ireturn, 1) := by decide +kernel
theorem dX4_greatestOfPages_0 : decode cX4_greatestOfPages 0 = .ok (.iconst 0, 1) := by decide +kernel
theorem dX4_greatestOfPages_1 : decode cX4_greatestOfPages 1 = .ok (.istore_n 2, 1) := by decide +kernel
theorem dX4_greatestOfPages_2 : decode cX4_greatestOfPages 2 = .ok (.iload_n 1, 1) := by decide +kernel
theorem dX4_greatestOfPages_3 : decode cX4_greatestOfPages 3 = .ok (.bipush 8, 2) := by decide +kernel
theorem dX4_greatestOfPages_5 : decode cX4_greatestOfPages 5 = .ok (.imul, 1) := by decide +kernel
theorem dX4_greatestOfPages_6 : decode cX4_greatestOfPages 6 = .ok (.istore_n 3, 1) := by decide +kernel
theorem dX4_greatestOfPages_7 : decode cX4_greatestOfPages 7 = .ok (.iload_n 3, 1) := by decide +kernel
theorem dX4_greatestOfPages_8 : decode cX4_greatestOfPages 8 = .ok (.istore 4, 2) := by decide +kernel
theorem dX4_greatestOfPages_10 : decode cX4_greatestOfPages 10 = .ok (.iload 4, 2) := by decide +kernel
theorem dX4_greatestOfPages_12 : decode cX4_greatestOfPages 12 = .ok (.iload_n 3, 1) := by decide +kernel
theorem dX4_greatestOfPages_13 : decode cX4_greatestOfPages 13 = .ok (.bipush 8, 2) := by decide +kernel
theorem dX4_greatestOfPages_15 : decode cX4_greatestOfPages 15 = .ok (.iadd, 1) := by decide +kernel
theorem dX4_greatestOfPages_16 : decode cX4_greatestOfPages 16 = .ok (.if_icmp .ge 38, 3) := by decide +kernel
theorem dX4_greatestOfPages_19 : decode cX4_greatestOfPages 19 = .ok (.aload_n 0, 1) := by decide +kernel
theorem dX4_greatestOfPages_20 : decode cX4_greatestOfPages 20 = .ok (.getfield 28, 3) := by decide +kernel
theorem dX4_greatestOfPages_23 : decode cX4_greatestOfPages 23 = .ok (.iload 4, 2) := by decide +kernel
theorem dX4_greatestOfPages_25 : decode cX4_greatestOfPages 25 = .ok (.iaload, 1) := by decide +kernel
theorem dX4_greatestOfPages_26 : decode cX4_greatestOfPages 26 = .ok (.ifCond .lt 22, 3) := by decide +kernel
theorem dX4_greatestOfPages_29 : decode cX4_greatestOfPages 29 = .ok (.aload_n 0, 1) := by decide +kernel
theorem dX4_greatestOfPages_30 : decode cX4_greatestOfPages 30 = .ok (.getfield 31, 3) := by decide +kernel
theorem dX4_greatestOfPages_33 : decode cX4_greatestOfPages 33 = .ok (.iload 4, 2) := by decide +kernel
theorem dX4_greatestOfPages_35 : decode cX4_greatestOfPages 35 = .ok (.iaload, 1) := by decide +kernel
theorem dX4_greatestOfPages_36 : decode cX4_greatestOfPages 36 = .ok (.iload_n 2, 1) := by decide +kernel
theorem dX4_greatestOfPages_37 : decode cX4_greatestOfPages 37 = .ok (.if_icmp .le 11, 3) := by decide +kernel
theorem dX4_greatestOfPages_40 : decode cX4_greatestOfPages 40 = .ok (.aload_n 0, 1) := by decide +kernel
theorem dX4_greatestOfPages_41 : decode cX4_greatestOfPages 41 = .ok (.getfield 31, 3) := by decide +kernel
theorem dX4_greatestOfPages_44 : decode cX4_greatestOfPages 44 = .ok (.iload 4, 2) := by decide +kernel
theorem dX4_greatestOfPages_46 : decode cX4_greatestOfPages 46 = .ok (.iaload, 1) := by decide +kernel
theorem dX4_greatestOfPages_47 : decode cX4_greatestOfPages 47 = .ok (.istore_n 2, 1) := by decide +kernel
theorem dX4_greatestOfPages_48 : decode cX4_greatestOfPages 48 = .ok (.iinc 4 1, 3) := by decide +kernel
theorem dX4_greatestOfPages_51 : decode cX4_greatestOfPages 51 = .ok (.goto (-41), 3) := by decide +kernel
theorem dX4_greatestOfPages_54 : decode cX4_greatestOfPages 54 = .ok (.iload_n 2, 1) := by decide +kernel
theorem dX4_greatestOfPages_55 : decode cX4_greatestOfPages 55 = .ok (.ireturn, 1) := by decide +kernel
theorem dX4_hundredths_0 : decode cX4_hundredths 0 = .ok (.bipush 100, 2) := by decide +kernel
theorem dX4_hundredths_2 : decode cX4_hundredths 2 = .ok (.aload_n 0, 1) := by decide +kernel
theorem dX4_hundredths_3 : decode cX4_hundredths 3 = .ok (.iload_n 1, 1) := by decide +kernel
theorem dX4_hundredths_4 : decode cX4_hundredths 4 = .ok (.invokevirtual 112, 3) := by decide +kernel
theorem dX4_hundredths_7 : decode cX4_hundredths 7 = .ok (.imul, 1) := by decide +kernel
theorem dX4_hundredths_8 : decode cX4_hundredths 8 = .ok (.aload_n 0, 1) := by decide +kernel
theorem dX4_hundredths_9 : decode cX4_hundredths 9 = .ok (.iload_n 1, 1) := by decide +kernel
theorem dX4_hundredths_10 : decode cX4_hundredths 10 = .ok (.invokevirtual 115, 3) := by decide +kernel
theorem dX4_hundredths_13 : decode cX4_hundredths 13 = .ok (.idiv, 1) := by decide +kernel
theorem dX4_hundredths_14 : decode cX4_hundredths 14 = .ok (.ireturn, 1) := by decide +kernel
theorem dX4_greatestHundredths_0 : decode cX4_greatestHundredths 0 = .ok (.iconst 0, 1) := by decide +kernel
theorem dX4_greatestHundredths_1 : decode cX4_greatestHundredths 1 = .ok (.istore_n 1, 1) := by decide +kernel
theorem dX4_greatestHundredths_2 : decode cX4_greatestHundredths 2 = .ok (.iconst 0, 1) := by decide +kernel
theorem dX4_greatestHundredths_3 : decode cX4_greatestHundredths 3 = .ok (.istore_n 2, 1) := by decide +kernel
theorem dX4_greatestHundredths_4 : decode cX4_greatestHundredths 4 = .ok (.iload_n 2, 1) := by decide +kernel
theorem dX4_greatestHundredths_5 : decode cX4_greatestHundredths 5 = .ok (.bipush 6, 2) := by decide +kernel
theorem dX4_greatestHundredths_7 : decode cX4_greatestHundredths 7 = .ok (.if_icmp .ge 19, 3) := by decide +kernel
theorem dX4_greatestHundredths_10 : decode cX4_greatestHundredths 10 = .ok (.iload_n 1, 1) := by decide +kernel
theorem dX4_greatestHundredths_11 : decode cX4_greatestHundredths 11 = .ok (.aload_n 0, 1) := by decide +kernel
theorem dX4_greatestHundredths_12 : decode cX4_greatestHundredths 12 = .ok (.iload_n 2, 1) := by decide +kernel
theorem dX4_greatestHundredths_13 : decode cX4_greatestHundredths 13 = .ok (.invokevirtual 118, 3) := by decide +kernel
theorem dX4_greatestHundredths_16 : decode cX4_greatestHundredths 16 = .ok (.invokestatic 121, 3) := by decide +kernel
theorem dX4_greatestHundredths_19 : decode cX4_greatestHundredths 19 = .ok (.istore_n 1, 1) := by decide +kernel
theorem dX4_greatestHundredths_20 : decode cX4_greatestHundredths 20 = .ok (.iinc 2 1, 3) := by decide +kernel
theorem dX4_greatestHundredths_23 : decode cX4_greatestHundredths 23 = .ok (.goto (-19), 3) := by decide +kernel
theorem dX4_greatestHundredths_26 : decode cX4_greatestHundredths 26 = .ok (.iload_n 1, 1) := by decide +kernel
theorem dX4_greatestHundredths_27 : decode cX4_greatestHundredths 27 = .ok (.ireturn, 1) := by decide +kernel
theorem dX4_isMarked_0 : decode cX4_isMarked 0 = .ok (.aload_n 0, 1) := by decide +kernel
theorem dX4_isMarked_1 : decode cX4_isMarked 1 = .ok (.getfield 18, 3) := by decide +kernel
theorem dX4_isMarked_4 : decode cX4_isMarked 4 = .ok (.iload_n 1, 1) := by decide +kernel
theorem dX4_isMarked_5 : decode cX4_isMarked 5 = .ok (.baload, 1) := by decide +kernel
theorem dX4_isMarked_6 : decode cX4_isMarked 6 = .ok (.ifCond .ne 34, 3) := by decide +kernel
theorem dX4_isMarked_9 : decode cX4_isMarked 9 = .ok (.aload_n 0, 1) := by decide +kernel
theorem dX4_isMarked_10 : decode cX4_isMarked 10 = .ok (.iload_n 1, 1) := by decide +kernel
theorem dX4_isMarked_11 : decode cX4_isMarked 11 = .ok (.invokevirtual 127, 3) := by decide +kernel
theorem dX4_isMarked_14 : decode cX4_isMarked 14 = .ok (.ifCond .ne 26, 3) := by decide +kernel
theorem dX4_isMarked_17 : decode cX4_isMarked 17 = .ok (.bipush 100, 2) := by decide +kernel
theorem dX4_isMarked_19 : decode cX4_isMarked 19 = .ok (.aload_n 0, 1) := by decide +kernel
theorem dX4_isMarked_20 : decode cX4_isMarked 20 = .ok (.iload_n 1, 1) := by decide +kernel
theorem dX4_isMarked_21 : decode cX4_isMarked 21 = .ok (.invokevirtual 112, 3) := by decide +kernel
theorem dX4_isMarked_24 : decode cX4_isMarked 24 = .ok (.imul, 1) := by decide +kernel
theorem dX4_isMarked_25 : decode cX4_isMarked 25 = .ok (.aload_n 0, 1) := by decide +kernel
theorem dX4_isMarked_26 : decode cX4_isMarked 26 = .ok (.getfield 43, 3) := by decide +kernel
theorem dX4_isMarked_29 : decode cX4_isMarked 29 = .ok (.iconst 0, 1) := by decide +kernel
theorem dX4_isMarked_30 : decode cX4_isMarked 30 = .ok (.iaload, 1) := by decide +kernel
theorem dX4_isMarked_31 : decode cX4_isMarked 31 = .ok (.aload_n 0, 1) := by decide +kernel
theorem dX4_isMarked_32 : decode cX4_isMarked 32 = .ok (.iload_n 1, 1) := by decide +kernel
theorem dX4_isMarked_33 : decode cX4_isMarked 33 = .ok (.invokevirtual 115, 3) := by decide +kernel
theorem dX4_isMarked_36 : decode cX4_isMarked 36 = .ok (.imul, 1) := by decide +kernel
theorem dX4_isMarked_37 : decode cX4_isMarked 37 = .ok (.if_icmp .lt 7, 3) := by decide +kernel
theorem dX4_isMarked_40 : decode cX4_isMarked 40 = .ok (.iconst 1, 1) := by decide +kernel
theorem dX4_isMarked_41 : decode cX4_isMarked 41 = .ok (.goto 4, 3) := by decide +kernel
theorem dX4_isMarked_44 : decode cX4_isMarked 44 = .ok (.iconst 0, 1) := by decide +kernel
theorem dX4_isMarked_45 : decode cX4_isMarked 45 = .ok (.ireturn, 1) := by decide +kernel
theorem dX4_isOld_0 : decode cX4_isOld 0 = .ok (.iload_n 1, 1) := by decide +kernel
theorem dX4_isOld_1 : decode cX4_isOld 1 = .ok (.bipush 8, 2) := by decide +kernel
theorem dX4_isOld_3 : decode cX4_isOld 3 = .ok (.imul, 1) := by decide +kernel
theorem dX4_isOld_4 : decode cX4_isOld 4 = .ok (.istore_n 2, 1) := by decide +kernel
theorem dX4_isOld_5 : decode cX4_isOld 5 = .ok (.iload_n 2, 1) := by decide +kernel
theorem dX4_isOld_6 : decode cX4_isOld 6 = .ok (.istore_n 3, 1) := by decide +kernel
theorem dX4_isOld_7 : decode cX4_isOld 7 = .ok (.iload_n 3, 1) := by decide +kernel
theorem dX4_isOld_8 : decode cX4_isOld 8 = .ok (.iload_n 2, 1) := by decide +kernel
theorem dX4_isOld_9 : decode cX4_isOld 9 = .ok (.bipush 8, 2) := by decide +kernel
theorem dX4_isOld_11 : decode cX4_isOld 11 = .ok (.iadd, 1) := by decide +kernel
theorem dX4_isOld_12 : decode cX4_isOld 12 = .ok (.if_icmp .ge 40, 3) := by decide +kernel
theorem dX4_isOld_15 : decode cX4_isOld 15 = .ok (.aload_n 0, 1) := by decide +kernel
theorem dX4_isOld_16 : decode cX4_isOld 16 = .ok (.getfield 28, 3) := by decide +kernel
theorem dX4_isOld_19 : decode cX4_isOld 19 = .ok (.iload_n 3, 1) := by decide +kernel
theorem dX4_isOld_20 : decode cX4_isOld 20 = .ok (.iaload, 1) := by decide +kernel
theorem dX4_isOld_21 : decode cX4_isOld 21 = .ok (.ifCond .lt 25, 3) := by decide +kernel
theorem dX4_isOld_24 : decode cX4_isOld 24 = .ok (.aload_n 0, 1) := by decide +kernel
theorem dX4_isOld_25 : decode cX4_isOld 25 = .ok (.getfield 64, 3) := by decide +kernel
theorem dX4_isOld_28 : decode cX4_isOld 28 = .ok (.aload_n 0, 1) := by decide +kernel
theorem dX4_isOld_29 : decode cX4_isOld 29 = .ok (.getfield 34, 3) := by decide +kernel
theorem dX4_isOld_32 : decode cX4_isOld 32 = .ok (.iload_n 3, 1) := by decide +kernel
theorem dX4_isOld_33 : decode cX4_isOld 33 = .ok (.iaload, 1) := by decide +kernel
theorem dX4_isOld_34 : decode cX4_isOld 34 = .ok (.isub, 1) := by decide +kernel
theorem dX4_isOld_35 : decode cX4_isOld 35 = .ok (.aload_n 0, 1) := by decide +kernel
theorem dX4_isOld_36 : decode cX4_isOld 36 = .ok (.getfield 43, 3) := by decide +kernel
theorem dX4_isOld_39 : decode cX4_isOld 39 = .ok (.iconst 1, 1) := by decide +kernel
theorem dX4_isOld_40 : decode cX4_isOld 40 = .ok (.iaload, 1) := by decide +kernel
theorem dX4_isOld_41 : decode cX4_isOld 41 = .ok (.if_icmp .lt 5, 3) := by decide +kernel
theorem dX4_isOld_44 : decode cX4_isOld 44 = .ok (.iconst 1, 1) := by decide +kernel
theorem dX4_isOld_45 : decode cX4_isOld 45 = .ok (.ireturn, 1) := by decide +kernel
theorem dX4_isOld_46 : decode cX4_isOld 46 = .ok (.iinc 3 1, 3) := by decide +kernel
theorem dX4_isOld_49 : decode cX4_isOld 49 = .ok (.goto (-42), 3) := by decide +kernel
theorem dX4_isOld_52 : decode cX4_isOld 52 = .ok (.iconst 0, 1) := by decide +kernel
theorem dX4_isOld_53 : decode cX4_isOld 53 = .ok (.ireturn, 1) := by decide +kernel
theorem dX4_markedBlocks_0 : decode cX4_markedBlocks 0 = .ok (.iconst 0, 1) := by decide +kernel
theorem dX4_markedBlocks_1 : decode cX4_markedBlocks 1 = .ok (.istore_n 1, 1) := by decide +kernel
theorem dX4_markedBlocks_2 : decode cX4_markedBlocks 2 = .ok (.iconst 0, 1) := by decide +kernel
theorem dX4_markedBlocks_3 : decode cX4_markedBlocks 3 = .ok (.istore_n 2, 1) := by decide +kernel
theorem dX4_markedBlocks_4 : decode cX4_markedBlocks 4 = .ok (.iload_n 2, 1) := by decide +kernel
theorem dX4_markedBlocks_5 : decode cX4_markedBlocks 5 = .ok (.bipush 6, 2) := by decide +kernel
theorem dX4_markedBlocks_7 : decode cX4_markedBlocks 7 = .ok (.if_icmp .ge 20, 3) := by decide +kernel
theorem dX4_markedBlocks_10 : decode cX4_markedBlocks 10 = .ok (.aload_n 0, 1) := by decide +kernel
theorem dX4_markedBlocks_11 : decode cX4_markedBlocks 11 = .ok (.iload_n 2, 1) := by decide +kernel
theorem dX4_markedBlocks_12 : decode cX4_markedBlocks 12 = .ok (.invokevirtual 130, 3) := by decide +kernel
theorem dX4_markedBlocks_15 : decode cX4_markedBlocks 15 = .ok (.ifCond .eq 6, 3) := by decide +kernel
theorem dX4_markedBlocks_18 : decode cX4_markedBlocks 18 = .ok (.iinc 1 1, 3) := by decide +kernel
theorem dX4_markedBlocks_21 : decode cX4_markedBlocks 21 = .ok (.iinc 2 1, 3) := by decide +kernel
theorem dX4_markedBlocks_24 : decode cX4_markedBlocks 24 = .ok (.goto (-20), 3) := by decide +kernel
theorem dX4_markedBlocks_27 : decode cX4_markedBlocks 27 = .ok (.iload_n 1, 1) := by decide +kernel
theorem dX4_markedBlocks_28 : decode cX4_markedBlocks 28 = .ok (.ireturn, 1) := by decide +kernel
theorem dX4_markedAhead_0 : decode cX4_markedAhead 0 = .ok (.iconst 0, 1) := by decide +kernel
theorem dX4_markedAhead_1 : decode cX4_markedAhead 1 = .ok (.istore_n 2, 1) := by decide +kernel
theorem dX4_markedAhead_2 : decode cX4_markedAhead 2 = .ok (.aload_n 0, 1) := by decide +kernel
theorem dX4_markedAhead_3 : decode cX4_markedAhead 3 = .ok (.iload_n 1, 1) := by decide +kernel
theorem dX4_markedAhead_4 : decode cX4_markedAhead 4 = .ok (.invokevirtual 118, 3) := by decide +kernel
theorem dX4_markedAhead_7 : decode cX4_markedAhead 7 = .ok (.istore_n 3, 1) := by decide +kernel
theorem dX4_markedAhead_8 : decode cX4_markedAhead 8 = .ok (.iconst 0, 1) := by decide +kernel
theorem dX4_markedAhead_9 : decode cX4_markedAhead 9 = .ok (.istore 4, 2) := by decide +kernel
theorem dX4_markedAhead_11 : decode cX4_markedAhead 11 = .ok (.iload 4, 2) := by decide +kernel
theorem dX4_markedAhead_13 : decode cX4_markedAhead 13 = .ok (.bipush 6, 2) := by decide +kernel
theorem dX4_markedAhead_15 : decode cX4_markedAhead 15 = .ok (.if_icmp .ge 53, 3) := by decide +kernel
theorem dX4_markedAhead_18 : decode cX4_markedAhead 18 = .ok (.iload 4, 2) := by decide +kernel
theorem dX4_markedAhead_20 : decode cX4_markedAhead 20 = .ok (.iload_n 1, 1) := by decide +kernel
theorem dX4_markedAhead_21 : decode cX4_markedAhead 21 = .ok (.if_icmp .eq 41, 3) := by decide +kernel
theorem dX4_markedAhead_24 : decode cX4_markedAhead 24 = .ok (.aload_n 0, 1) := by decide +kernel
theorem dX4_markedAhead_25 : decode cX4_markedAhead 25 = .ok (.iload 4, 2) := by decide +kernel
theorem dX4_markedAhead_27 : decode cX4_markedAhead 27 = .ok (.invokevirtual 130, 3) := by decide +kernel
theorem dX4_markedAhead_30 : decode cX4_markedAhead 30 = .ok (.ifCond .eq 32, 3) := by decide +kernel
theorem dX4_markedAhead_33 : decode cX4_markedAhead 33 = .ok (.aload_n 0, 1) := by decide +kernel
theorem dX4_markedAhead_34 : decode cX4_markedAhead 34 = .ok (.iload 4, 2) := by decide +kernel
theorem dX4_markedAhead_36 : decode cX4_markedAhead 36 = .ok (.invokevirtual 118, 3) := by decide +kernel
theorem dX4_markedAhead_39 : decode cX4_markedAhead 39 = .ok (.istore 5, 2) := by decide +kernel
theorem dX4_markedAhead_41 : decode cX4_markedAhead 41 = .ok (.iload 5, 2) := by decide +kernel
theorem dX4_markedAhead_43 : decode cX4_markedAhead 43 = .ok (.iload_n 3, 1) := by decide +kernel
theorem dX4_markedAhead_44 : decode cX4_markedAhead 44 = .ok (.if_icmp .gt 15, 3) := by decide +kernel
theorem dX4_markedAhead_47 : decode cX4_markedAhead 47 = .ok (.iload 5, 2) := by decide +kernel
theorem dX4_markedAhead_49 : decode cX4_markedAhead 49 = .ok (.iload_n 3, 1) := by decide +kernel
theorem dX4_markedAhead_50 : decode cX4_markedAhead 50 = .ok (.if_icmp .ne 12, 3) := by decide +kernel
theorem dX4_markedAhead_53 : decode cX4_markedAhead 53 = .ok (.iload 4, 2) := by decide +kernel
theorem dX4_markedAhead_55 : decode cX4_markedAhead 55 = .ok (.iload_n 1, 1) := by decide +kernel
theorem dX4_markedAhead_56 : decode cX4_markedAhead 56 = .ok (.if_icmp .ge 6, 3) := by decide +kernel
theorem dX4_markedAhead_59 : decode cX4_markedAhead 59 = .ok (.iinc 2 1, 3) := by decide +kernel
theorem dX4_markedAhead_62 : decode cX4_markedAhead 62 = .ok (.iinc 4 1, 3) := by decide +kernel
theorem dX4_markedAhead_65 : decode cX4_markedAhead 65 = .ok (.goto (-54), 3) := by decide +kernel
theorem dX4_markedAhead_68 : decode cX4_markedAhead 68 = .ok (.iload_n 2, 1) := by decide +kernel
theorem dX4_markedAhead_69 : decode cX4_markedAhead 69 = .ok (.ireturn, 1) := by decide +kernel
theorem dX4_firstMarked_0 : decode cX4_firstMarked 0 = .ok (.iconst (-1), 1) := by decide +kernel
theorem dX4_firstMarked_1 : decode cX4_firstMarked 1 = .ok (.istore_n 1, 1) := by decide +kernel
theorem dX4_firstMarked_2 : decode cX4_firstMarked 2 = .ok (.iconst (-1), 1) := by decide +kernel
theorem dX4_firstMarked_3 : decode cX4_firstMarked 3 = .ok (.istore_n 2, 1) := by decide +kernel
theorem dX4_firstMarked_4 : decode cX4_firstMarked 4 = .ok (.iconst 0, 1) := by decide +kernel
theorem dX4_firstMarked_5 : decode cX4_firstMarked 5 = .ok (.istore_n 3, 1) := by decide +kernel
theorem dX4_firstMarked_6 : decode cX4_firstMarked 6 = .ok (.iload_n 3, 1) := by decide +kernel
theorem dX4_firstMarked_7 : decode cX4_firstMarked 7 = .ok (.bipush 6, 2) := by decide +kernel
theorem dX4_firstMarked_9 : decode cX4_firstMarked 9 = .ok (.if_icmp .ge 35, 3) := by decide +kernel
theorem dX4_firstMarked_12 : decode cX4_firstMarked 12 = .ok (.aload_n 0, 1) := by decide +kernel
theorem dX4_firstMarked_13 : decode cX4_firstMarked 13 = .ok (.iload_n 3, 1) := by decide +kernel
theorem dX4_firstMarked_14 : decode cX4_firstMarked 14 = .ok (.invokevirtual 130, 3) := by decide +kernel
theorem dX4_firstMarked_17 : decode cX4_firstMarked 17 = .ok (.ifCond .eq 21, 3) := by decide +kernel
theorem dX4_firstMarked_20 : decode cX4_firstMarked 20 = .ok (.aload_n 0, 1) := by decide +kernel
theorem dX4_firstMarked_21 : decode cX4_firstMarked 21 = .ok (.iload_n 3, 1) := by decide +kernel
theorem dX4_firstMarked_22 : decode cX4_firstMarked 22 = .ok (.invokevirtual 118, 3) := by decide +kernel
theorem dX4_firstMarked_25 : decode cX4_firstMarked 25 = .ok (.istore 4, 2) := by decide +kernel
theorem dX4_firstMarked_27 : decode cX4_firstMarked 27 = .ok (.iload 4, 2) := by decide +kernel
theorem dX4_firstMarked_29 : decode cX4_firstMarked 29 = .ok (.iload_n 2, 1) := by decide +kernel
theorem dX4_firstMarked_30 : decode cX4_firstMarked 30 = .ok (.if_icmp .le 8, 3) := by decide +kernel
theorem dX4_firstMarked_33 : decode cX4_firstMarked 33 = .ok (.iload 4, 2) := by decide +kernel
theorem dX4_firstMarked_35 : decode cX4_firstMarked 35 = .ok (.istore_n 2, 1) := by decide +kernel
theorem dX4_firstMarked_36 : decode cX4_firstMarked 36 = .ok (.iload_n 3, 1) := by decide +kernel
theorem dX4_firstMarked_37 : decode cX4_firstMarked 37 = .ok (.istore_n 1, 1) := by decide +kernel
theorem dX4_firstMarked_38 : decode cX4_firstMarked 38 = .ok (.iinc 3 1, 3) := by decide +kernel
theorem dX4_firstMarked_41 : decode cX4_firstMarked 41 = .ok (.goto (-35), 3) := by decide +kernel
theorem dX4_firstMarked_44 : decode cX4_firstMarked 44 = .ok (.iload_n 1, 1) := by decide +kernel
theorem dX4_firstMarked_45 : decode cX4_firstMarked 45 = .ok (.ireturn, 1) := by decide +kernel
theorem dX4_addedBy_0 : decode cX4_addedBy 0 = .ok (.iload_n 1, 1) := by decide +kernel
theorem dX4_addedBy_1 : decode cX4_addedBy 1 = .ok (.iload_n 2, 1) := by decide +kernel
theorem dX4_addedBy_2 : decode cX4_addedBy 2 = .ok (.if_icmp .ne 5, 3) := by decide +kernel
theorem dX4_addedBy_5 : decode cX4_addedBy 5 = .ok (.iconst 1, 1) := by decide +kernel
theorem dX4_addedBy_6 : decode cX4_addedBy 6 = .ok (.ireturn, 1) := by decide +kernel
theorem dX4_addedBy_7 : decode cX4_addedBy 7 = .ok (.iload_n 1, 1) := by decide +kernel
theorem dX4_addedBy_8 : decode cX4_addedBy 8 = .ok (.iload_n 2, 1) := by decide +kernel
theorem dX4_addedBy_9 : decode cX4_addedBy 9 = .ok (.isub, 1) := by decide +kernel
theorem dX4_addedBy_10 : decode cX4_addedBy 10 = .ok (.invokestatic 133, 3) := by decide +kernel
theorem dX4_addedBy_13 : decode cX4_addedBy 13 = .ok (.istore_n 3, 1) := by decide +kernel
theorem dX4_addedBy_14 : decode cX4_addedBy 14 = .ok (.iload_n 3, 1) := by decide +kernel
theorem dX4_addedBy_15 : decode cX4_addedBy 15 = .ok (.iconst 1, 1) := by decide +kernel
theorem dX4_addedBy_16 : decode cX4_addedBy 16 = .ok (.if_icmp .ne 7, 3) := by decide +kernel
theorem dX4_addedBy_19 : decode cX4_addedBy 19 = .ok (.iconst 4, 1) := by decide +kernel
theorem dX4_addedBy_20 : decode cX4_addedBy 20 = .ok (.goto 13, 3) := by decide +kernel
theorem dX4_addedBy_23 : decode cX4_addedBy 23 = .ok (.iload_n 3, 1) := by decide +kernel
theorem dX4_addedBy_24 : decode cX4_addedBy 24 = .ok (.iconst 2, 1) := by decide +kernel
theorem dX4_addedBy_25 : decode cX4_addedBy 25 = .ok (.if_icmp .ne 7, 3) := by decide +kernel
theorem dX4_addedBy_28 : decode cX4_addedBy 28 = .ok (.iconst 2, 1) := by decide +kernel
theorem dX4_addedBy_29 : decode cX4_addedBy 29 = .ok (.goto 4, 3) := by decide +kernel
theorem dX4_addedBy_32 : decode cX4_addedBy 32 = .ok (.iconst 1, 1) := by decide +kernel
theorem dX4_addedBy_33 : decode cX4_addedBy 33 = .ok (.istore 4, 2) := by decide +kernel
theorem dX4_addedBy_35 : decode cX4_addedBy 35 = .ok (.aload_n 0, 1) := by decide +kernel
theorem dX4_addedBy_36 : decode cX4_addedBy 36 = .ok (.getfield 9, 3) := by decide +kernel
theorem dX4_addedBy_39 : decode cX4_addedBy 39 = .ok (.iload_n 2, 1) := by decide +kernel
theorem dX4_addedBy_40 : decode cX4_addedBy 40 = .ok (.bipush 8, 2) := by decide +kernel
theorem dX4_addedBy_42 : decode cX4_addedBy 42 = .ok (.idiv, 1) := by decide +kernel
theorem dX4_addedBy_43 : decode cX4_addedBy 43 = .ok (.iaload, 1) := by decide +kernel
theorem dX4_addedBy_44 : decode cX4_addedBy 44 = .ok (.iconst 2, 1) := by decide +kernel
theorem dX4_addedBy_45 : decode cX4_addedBy 45 = .ok (.if_icmp .ne 10, 3) := by decide +kernel
theorem dX4_addedBy_48 : decode cX4_addedBy 48 = .ok (.iconst 2, 1) := by decide +kernel
theorem dX4_addedBy_49 : decode cX4_addedBy 49 = .ok (.iload 4, 2) := by decide +kernel
theorem dX4_addedBy_51 : decode cX4_addedBy 51 = .ok (.imul, 1) := by decide +kernel
theorem dX4_addedBy_52 : decode cX4_addedBy 52 = .ok (.goto 5, 3) := by decide +kernel
theorem dX4_addedBy_55 : decode cX4_addedBy 55 = .ok (.iload 4, 2) := by decide +kernel
theorem dX4_addedBy_57 : decode cX4_addedBy 57 = .ok (.ireturn, 1) := by decide +kernel
theorem dX4_readsLeft_0 : decode cX4_readsLeft 0 = .ok (.iload_n 1, 1) := by decide +kernel
theorem dX4_readsLeft_1 : decode cX4_readsLeft 1 = .ok (.iload_n 1, 1) := by decide +kernel
theorem dX4_readsLeft_2 : decode cX4_readsLeft 2 = .ok (.bipush 8, 2) := by decide +kernel
theorem dX4_readsLeft_4 : decode cX4_readsLeft 4 = .ok (.irem, 1) := by decide +kernel
theorem dX4_readsLeft_5 : decode cX4_readsLeft 5 = .ok (.isub, 1) := by decide +kernel
theorem dX4_readsLeft_6 : decode cX4_readsLeft 6 = .ok (.istore_n 2, 1) := by decide +kernel
theorem dX4_readsLeft_7 : decode cX4_readsLeft 7 = .ok (.aload_n 0, 1) := by decide +kernel
theorem dX4_readsLeft_8 : decode cX4_readsLeft 8 = .ok (.iload_n 1, 1) := by decide +kernel
theorem dX4_readsLeft_9 : decode cX4_readsLeft 9 = .ok (.bipush 8, 2) := by decide +kernel
theorem dX4_readsLeft_11 : decode cX4_readsLeft 11 = .ok (.idiv, 1) := by decide +kernel
theorem dX4_readsLeft_12 : decode cX4_readsLeft 12 = .ok (.invokevirtual 115, 3) := by decide +kernel
theorem dX4_readsLeft_15 : decode cX4_readsLeft 15 = .ok (.istore_n 3, 1) := by decide +kernel
theorem dX4_readsLeft_16 : decode cX4_readsLeft 16 = .ok (.iload_n 3, 1) := by decide +kernel
theorem dX4_readsLeft_17 : decode cX4_readsLeft 17 = .ok (.istore 4, 2) := by decide +kernel
theorem dX4_readsLeft_19 : decode cX4_readsLeft 19 = .ok (.iload_n 2, 1) := by decide +kernel
theorem dX4_readsLeft_20 : decode cX4_readsLeft 20 = .ok (.istore 5, 2) := by decide +kernel
theorem dX4_readsLeft_22 : decode cX4_readsLeft 22 = .ok (.iload 5, 2) := by decide +kernel
theorem dX4_readsLeft_24 : decode cX4_readsLeft 24 = .ok (.iload_n 2, 1) := by decide +kernel
theorem dX4_readsLeft_25 : decode cX4_readsLeft 25 = .ok (.bipush 8, 2) := by decide +kernel
theorem dX4_readsLeft_27 : decode cX4_readsLeft 27 = .ok (.iadd, 1) := by decide +kernel
theorem dX4_readsLeft_28 : decode cX4_readsLeft 28 = .ok (.if_icmp .ge 51, 3) := by decide +kernel
theorem dX4_readsLeft_31 : decode cX4_readsLeft 31 = .ok (.aload_n 0, 1) := by decide +kernel
theorem dX4_readsLeft_32 : decode cX4_readsLeft 32 = .ok (.getfield 28, 3) := by decide +kernel
theorem dX4_readsLeft_35 : decode cX4_readsLeft 35 = .ok (.iload 5, 2) := by decide +kernel
theorem dX4_readsLeft_37 : decode cX4_readsLeft 37 = .ok (.iaload, 1) := by decide +kernel
theorem dX4_readsLeft_38 : decode cX4_readsLeft 38 = .ok (.ifCond .lt 35, 3) := by decide +kernel
theorem dX4_readsLeft_41 : decode cX4_readsLeft 41 = .ok (.iconst 1, 1) := by decide +kernel
theorem dX4_readsLeft_42 : decode cX4_readsLeft 42 = .ok (.aload_n 0, 1) := by decide +kernel
theorem dX4_readsLeft_43 : decode cX4_readsLeft 43 = .ok (.iload_n 1, 1) := by decide +kernel
theorem dX4_readsLeft_44 : decode cX4_readsLeft 44 = .ok (.iload 5, 2) := by decide +kernel
theorem dX4_readsLeft_46 : decode cX4_readsLeft 46 = .ok (.invokevirtual 136, 3) := by decide +kernel
theorem dX4_readsLeft_49 : decode cX4_readsLeft 49 = .ok (.invokestatic 121, 3) := by decide +kernel
theorem dX4_readsLeft_52 : decode cX4_readsLeft 52 = .ok (.istore 6, 2) := by decide +kernel
theorem dX4_readsLeft_54 : decode cX4_readsLeft 54 = .ok (.iload 4, 2) := by decide +kernel
theorem dX4_readsLeft_56 : decode cX4_readsLeft 56 = .ok (.iload_n 3, 1) := by decide +kernel
theorem dX4_readsLeft_57 : decode cX4_readsLeft 57 = .ok (.aload_n 0, 1) := by decide +kernel
theorem dX4_readsLeft_58 : decode cX4_readsLeft 58 = .ok (.getfield 31, 3) := by decide +kernel
theorem dX4_readsLeft_61 : decode cX4_readsLeft 61 = .ok (.iload 5, 2) := by decide +kernel
theorem dX4_readsLeft_63 : decode cX4_readsLeft 63 = .ok (.iaload, 1) := by decide +kernel
theorem dX4_readsLeft_64 : decode cX4_readsLeft 64 = .ok (.isub, 1) := by decide +kernel
theorem dX4_readsLeft_65 : decode cX4_readsLeft 65 = .ok (.iload 6, 2) := by decide +kernel
theorem dX4_readsLeft_67 : decode cX4_readsLeft 67 = .ok (.idiv, 1) := by decide +kernel
theorem dX4_readsLeft_68 : decode cX4_readsLeft 68 = .ok (.invokestatic 139, 3) := by decide +kernel
theorem dX4_readsLeft_71 : decode cX4_readsLeft 71 = .ok (.istore 4, 2) := by decide +kernel
theorem dX4_readsLeft_73 : decode cX4_readsLeft 73 = .ok (.iinc 5 1, 3) := by decide +kernel
theorem dX4_readsLeft_76 : decode cX4_readsLeft 76 = .ok (.goto (-54), 3) := by decide +kernel
theorem dX4_readsLeft_79 : decode cX4_readsLeft 79 = .ok (.iload 4, 2) := by decide +kernel
theorem dX4_readsLeft_81 : decode cX4_readsLeft 81 = .ok (.ireturn, 1) := by decide +kernel
theorem dX4_mayRead_0 : decode cX4_mayRead 0 = .ok (.iload_n 1, 1) := by decide +kernel
theorem dX4_mayRead_1 : decode cX4_mayRead 1 = .ok (.iload_n 1, 1) := by decide +kernel
theorem dX4_mayRead_2 : decode cX4_mayRead 2 = .ok (.bipush 8, 2) := by decide +kernel
theorem dX4_mayRead_4 : decode cX4_mayRead 4 = .ok (.irem, 1) := by decide +kernel
theorem dX4_mayRead_5 : decode cX4_mayRead 5 = .ok (.isub, 1) := by decide +kernel
theorem dX4_mayRead_6 : decode cX4_mayRead 6 = .ok (.istore_n 2, 1) := by decide +kernel
theorem dX4_mayRead_7 : decode cX4_mayRead 7 = .ok (.aload_n 0, 1) := by decide +kernel
theorem dX4_mayRead_8 : decode cX4_mayRead 8 = .ok (.iload_n 1, 1) := by decide +kernel
theorem dX4_mayRead_9 : decode cX4_mayRead 9 = .ok (.bipush 8, 2) := by decide +kernel
theorem dX4_mayRead_11 : decode cX4_mayRead 11 = .ok (.idiv, 1) := by decide +kernel
theorem dX4_mayRead_12 : decode cX4_mayRead 12 = .ok (.invokevirtual 115, 3) := by decide +kernel
theorem dX4_mayRead_15 : decode cX4_mayRead 15 = .ok (.istore_n 3, 1) := by decide +kernel
theorem dX4_mayRead_16 : decode cX4_mayRead 16 = .ok (.iload_n 2, 1) := by decide +kernel
theorem dX4_mayRead_17 : decode cX4_mayRead 17 = .ok (.istore 4, 2) := by decide +kernel
theorem dX4_mayRead_19 : decode cX4_mayRead 19 = .ok (.iload 4, 2) := by decide +kernel
theorem dX4_mayRead_21 : decode cX4_mayRead 21 = .ok (.iload_n 2, 1) := by decide +kernel
theorem dX4_mayRead_22 : decode cX4_mayRead 22 = .ok (.bipush 8, 2) := by decide +kernel
theorem dX4_mayRead_24 : decode cX4_mayRead 24 = .ok (.iadd, 1) := by decide +kernel
theorem dX4_mayRead_25 : decode cX4_mayRead 25 = .ok (.if_icmp .ge 40, 3) := by decide +kernel
theorem dX4_mayRead_28 : decode cX4_mayRead 28 = .ok (.aload_n 0, 1) := by decide +kernel
theorem dX4_mayRead_29 : decode cX4_mayRead 29 = .ok (.getfield 28, 3) := by decide +kernel
theorem dX4_mayRead_32 : decode cX4_mayRead 32 = .ok (.iload 4, 2) := by decide +kernel
theorem dX4_mayRead_34 : decode cX4_mayRead 34 = .ok (.iaload, 1) := by decide +kernel
theorem dX4_mayRead_35 : decode cX4_mayRead 35 = .ok (.ifCond .lt 24, 3) := by decide +kernel
theorem dX4_mayRead_38 : decode cX4_mayRead 38 = .ok (.aload_n 0, 1) := by decide +kernel
theorem dX4_mayRead_39 : decode cX4_mayRead 39 = .ok (.getfield 31, 3) := by decide +kernel
theorem dX4_mayRead_42 : decode cX4_mayRead 42 = .ok (.iload 4, 2) := by decide +kernel
theorem dX4_mayRead_44 : decode cX4_mayRead 44 = .ok (.iaload, 1) := by decide +kernel
theorem dX4_mayRead_45 : decode cX4_mayRead 45 = .ok (.aload_n 0, 1) := by decide +kernel
theorem dX4_mayRead_46 : decode cX4_mayRead 46 = .ok (.iload_n 1, 1) := by decide +kernel
theorem dX4_mayRead_47 : decode cX4_mayRead 47 = .ok (.iload 4, 2) := by decide +kernel
theorem dX4_mayRead_49 : decode cX4_mayRead 49 = .ok (.invokevirtual 136, 3) := by decide +kernel
theorem dX4_mayRead_52 : decode cX4_mayRead 52 = .ok (.iadd, 1) := by decide +kernel
theorem dX4_mayRead_53 : decode cX4_mayRead 53 = .ok (.iload_n 3, 1) := by decide +kernel
theorem dX4_mayRead_54 : decode cX4_mayRead 54 = .ok (.if_icmp .le 5, 3) := by decide +kernel
theorem dX4_mayRead_57 : decode cX4_mayRead 57 = .ok (.iconst 0, 1) := by decide +kernel
theorem dX4_mayRead_58 : decode cX4_mayRead 58 = .ok (.ireturn, 1) := by decide +kernel
theorem dX4_mayRead_59 : decode cX4_mayRead 59 = .ok (.iinc 4 1, 3) := by decide +kernel
theorem dX4_mayRead_62 : decode cX4_mayRead 62 = .ok (.goto (-43), 3) := by decide +kernel
theorem dX4_mayRead_65 : decode cX4_mayRead 65 = .ok (.iconst 1, 1) := by decide +kernel
theorem dX4_mayRead_66 : decode cX4_mayRead 66 = .ok (.ireturn, 1) := by decide +kernel
theorem dX4_readPlace_0 : decode cX4_readPlace 0 = .ok (.iload_n 1, 1) := by decide +kernel
theorem dX4_readPlace_1 : decode cX4_readPlace 1 = .ok (.iload_n 1, 1) := by decide +kernel
theorem dX4_readPlace_2 : decode cX4_readPlace 2 = .ok (.bipush 8, 2) := by decide +kernel
theorem dX4_readPlace_4 : decode cX4_readPlace 4 = .ok (.irem, 1) := by decide +kernel
theorem dX4_readPlace_5 : decode cX4_readPlace 5 = .ok (.isub, 1) := by decide +kernel
theorem dX4_readPlace_6 : decode cX4_readPlace 6 = .ok (.istore_n 2, 1) := by decide +kernel
theorem dX4_readPlace_7 : decode cX4_readPlace 7 = .ok (.iload_n 2, 1) := by decide +kernel
theorem dX4_readPlace_8 : decode cX4_readPlace 8 = .ok (.istore_n 3, 1) := by decide +kernel
theorem dX4_readPlace_9 : decode cX4_readPlace 9 = .ok (.iload_n 3, 1) := by decide +kernel
theorem dX4_readPlace_10 : decode cX4_readPlace 10 = .ok (.iload_n 2, 1) := by decide +kernel
theorem dX4_readPlace_11 : decode cX4_readPlace 11 = .ok (.bipush 8, 2) := by decide +kernel
theorem dX4_readPlace_13 : decode cX4_readPlace 13 = .ok (.iadd, 1) := by decide +kernel
theorem dX4_readPlace_14 : decode cX4_readPlace 14 = .ok (.if_icmp .ge 33, 3) := by decide +kernel
theorem dX4_readPlace_17 : decode cX4_readPlace 17 = .ok (.aload_n 0, 1) := by decide +kernel
theorem dX4_readPlace_18 : decode cX4_readPlace 18 = .ok (.getfield 28, 3) := by decide +kernel
theorem dX4_readPlace_21 : decode cX4_readPlace 21 = .ok (.iload_n 3, 1) := by decide +kernel
theorem dX4_readPlace_22 : decode cX4_readPlace 22 = .ok (.iaload, 1) := by decide +kernel
theorem dX4_readPlace_23 : decode cX4_readPlace 23 = .ok (.ifCond .lt 18, 3) := by decide +kernel
theorem dX4_readPlace_26 : decode cX4_readPlace 26 = .ok (.aload_n 0, 1) := by decide +kernel
theorem dX4_readPlace_27 : decode cX4_readPlace 27 = .ok (.getfield 31, 3) := by decide +kernel
theorem dX4_readPlace_30 : decode cX4_readPlace 30 = .ok (.iload_n 3, 1) := by decide +kernel
theorem dX4_readPlace_31 : decode cX4_readPlace 31 = .ok (.dup2, 1) := by decide +kernel
theorem dX4_readPlace_32 : decode cX4_readPlace 32 = .ok (.iaload, 1) := by decide +kernel
theorem dX4_readPlace_33 : decode cX4_readPlace 33 = .ok (.aload_n 0, 1) := by decide +kernel
theorem dX4_readPlace_34 : decode cX4_readPlace 34 = .ok (.iload_n 1, 1) := by decide +kernel
theorem dX4_readPlace_35 : decode cX4_readPlace 35 = .ok (.iload_n 3, 1) := by decide +kernel
theorem dX4_readPlace_36 : decode cX4_readPlace 36 = .ok (.invokevirtual 136, 3) := by decide +kernel
theorem dX4_readPlace_39 : decode cX4_readPlace 39 = .ok (.iadd, 1) := by decide +kernel
theorem dX4_readPlace_40 : decode cX4_readPlace 40 = .ok (.iastore, 1) := by decide +kernel
theorem dX4_readPlace_41 : decode cX4_readPlace 41 = .ok (.iinc 3 1, 3) := by decide +kernel
theorem dX4_readPlace_44 : decode cX4_readPlace 44 = .ok (.goto (-35), 3) := by decide +kernel
theorem dX4_readPlace_47 : decode cX4_readPlace 47 = .ok (.aload_n 0, 1) := by decide +kernel
theorem dX4_readPlace_48 : decode cX4_readPlace 48 = .ok (.getfield 22, 3) := by decide +kernel
theorem dX4_readPlace_51 : decode cX4_readPlace 51 = .ok (.iload_n 1, 1) := by decide +kernel
theorem dX4_readPlace_52 : decode cX4_readPlace 52 = .ok (.bipush 8, 2) := by decide +kernel
theorem dX4_readPlace_54 : decode cX4_readPlace 54 = .ok (.idiv, 1) := by decide +kernel
theorem dX4_readPlace_55 : decode cX4_readPlace 55 = .ok (.dup2, 1) := by decide +kernel
theorem dX4_readPlace_56 : decode cX4_readPlace 56 = .ok (.iaload, 1) := by decide +kernel
theorem dX4_readPlace_57 : decode cX4_readPlace 57 = .ok (.iconst 1, 1) := by decide +kernel
theorem dX4_readPlace_58 : decode cX4_readPlace 58 = .ok (.iadd, 1) := by decide +kernel
theorem dX4_readPlace_59 : decode cX4_readPlace 59 = .ok (.iastore, 1) := by decide +kernel
theorem dX4_readPlace_60 : decode cX4_readPlace 60 = .ok (.return_, 1) := by decide +kernel
theorem dX4_blockWithRoom_0 : decode cX4_blockWithRoom 0 = .ok (.aload_n 0, 1) := by decide +kernel
theorem dX4_blockWithRoom_1 : decode cX4_blockWithRoom 1 = .ok (.getfield 60, 3) := by decide +kernel
theorem dX4_blockWithRoom_4 : decode cX4_blockWithRoom 4 = .ok (.invokestatic 142, 3) := by decide +kernel
theorem dX4_blockWithRoom_7 : decode cX4_blockWithRoom 7 = .ok (.ifCond .eq 22, 3) := by decide +kernel
theorem dX4_blockWithRoom_10 : decode cX4_blockWithRoom 10 = .ok (.aload_n 0, 1) := by decide +kernel
theorem dX4_blockWithRoom_11 : decode cX4_blockWithRoom 11 = .ok (.getfield 25, 3) := by decide +kernel
theorem dX4_blockWithRoom_14 : decode cX4_blockWithRoom 14 = .ok (.aload_n 0, 1) := by decide +kernel
theorem dX4_blockWithRoom_15 : decode cX4_blockWithRoom 15 = .ok (.getfield 60, 3) := by decide +kernel
theorem dX4_blockWithRoom_18 : decode cX4_blockWithRoom 18 = .ok (.iaload, 1) := by decide +kernel
theorem dX4_blockWithRoom_19 : decode cX4_blockWithRoom 19 = .ok (.bipush 8, 2) := by decide +kernel
theorem dX4_blockWithRoom_21 : decode cX4_blockWithRoom 21 = .ok (.if_icmp .ge 8, 3) := by decide +kernel
theorem dX4_blockWithRoom_24 : decode cX4_blockWithRoom 24 = .ok (.aload_n 0, 1) := by decide +kernel
theorem dX4_blockWithRoom_25 : decode cX4_blockWithRoom 25 = .ok (.getfield 60, 3) := by decide +kernel
theorem dX4_blockWithRoom_28 : decode cX4_blockWithRoom 28 = .ok (.ireturn, 1) := by decide +kernel
theorem dX4_blockWithRoom_29 : decode cX4_blockWithRoom 29 = .ok (.iconst (-1), 1) := by decide +kernel
theorem dX4_blockWithRoom_30 : decode cX4_blockWithRoom 30 = .ok (.istore_n 1, 1) := by decide +kernel
theorem dX4_blockWithRoom_31 : decode cX4_blockWithRoom 31 = .ok (.iconst 0, 1) := by decide +kernel
theorem dX4_blockWithRoom_32 : decode cX4_blockWithRoom 32 = .ok (.istore_n 2, 1) := by decide +kernel
theorem dX4_blockWithRoom_33 : decode cX4_blockWithRoom 33 = .ok (.iconst 0, 1) := by decide +kernel
theorem dX4_blockWithRoom_34 : decode cX4_blockWithRoom 34 = .ok (.istore_n 3, 1) := by decide +kernel
theorem dX4_blockWithRoom_35 : decode cX4_blockWithRoom 35 = .ok (.iload_n 3, 1) := by decide +kernel
theorem dX4_blockWithRoom_36 : decode cX4_blockWithRoom 36 = .ok (.bipush 6, 2) := by decide +kernel
theorem dX4_blockWithRoom_38 : decode cX4_blockWithRoom 38 = .ok (.if_icmp .ge 41, 3) := by decide +kernel
theorem dX4_blockWithRoom_41 : decode cX4_blockWithRoom 41 = .ok (.aload_n 0, 1) := by decide +kernel
theorem dX4_blockWithRoom_42 : decode cX4_blockWithRoom 42 = .ok (.iload_n 3, 1) := by decide +kernel
theorem dX4_blockWithRoom_43 : decode cX4_blockWithRoom 43 = .ok (.invokevirtual 101, 3) := by decide +kernel
theorem dX4_blockWithRoom_46 : decode cX4_blockWithRoom 46 = .ok (.ifCond .eq 27, 3) := by decide +kernel
theorem dX4_blockWithRoom_49 : decode cX4_blockWithRoom 49 = .ok (.iload_n 1, 1) := by decide +kernel
theorem dX4_blockWithRoom_50 : decode cX4_blockWithRoom 50 = .ok (.iconst (-1), 1) := by decide +kernel
theorem dX4_blockWithRoom_51 : decode cX4_blockWithRoom 51 = .ok (.if_icmp .eq 13, 3) := by decide +kernel
theorem dX4_blockWithRoom_54 : decode cX4_blockWithRoom 54 = .ok (.aload_n 0, 1) := by decide +kernel
theorem dX4_blockWithRoom_55 : decode cX4_blockWithRoom 55 = .ok (.getfield 15, 3) := by decide +kernel
theorem dX4_blockWithRoom_58 : decode cX4_blockWithRoom 58 = .ok (.iload_n 3, 1) := by decide +kernel
theorem dX4_blockWithRoom_59 : decode cX4_blockWithRoom 59 = .ok (.iaload, 1) := by decide +kernel
theorem dX4_blockWithRoom_60 : decode cX4_blockWithRoom 60 = .ok (.iload_n 2, 1) := by decide +kernel
theorem dX4_blockWithRoom_61 : decode cX4_blockWithRoom 61 = .ok (.if_icmp .ge 12, 3) := by decide +kernel
theorem dX4_blockWithRoom_64 : decode cX4_blockWithRoom 64 = .ok (.iload_n 3, 1) := by decide +kernel
theorem dX4_blockWithRoom_65 : decode cX4_blockWithRoom 65 = .ok (.istore_n 1, 1) := by decide +kernel
theorem dX4_blockWithRoom_66 : decode cX4_blockWithRoom 66 = .ok (.aload_n 0, 1) := by decide +kernel
theorem dX4_blockWithRoom_67 : decode cX4_blockWithRoom 67 = .ok (.getfield 15, 3) := by decide +kernel
theorem dX4_blockWithRoom_70 : decode cX4_blockWithRoom 70 = .ok (.iload_n 3, 1) := by decide +kernel
theorem dX4_blockWithRoom_71 : decode cX4_blockWithRoom 71 = .ok (.iaload, 1) := by decide +kernel
theorem dX4_blockWithRoom_72 : decode cX4_blockWithRoom 72 = .ok (.istore_n 2, 1) := by decide +kernel
theorem dX4_blockWithRoom_73 : decode cX4_blockWithRoom 73 = .ok (.iinc 3 1, 3) := by decide +kernel
theorem dX4_blockWithRoom_76 : decode cX4_blockWithRoom 76 = .ok (.goto (-41), 3) := by decide +kernel
theorem dX4_blockWithRoom_79 : decode cX4_blockWithRoom 79 = .ok (.iload_n 1, 1) := by decide +kernel
theorem dX4_blockWithRoom_80 : decode cX4_blockWithRoom 80 = .ok (.ireturn, 1) := by decide +kernel
theorem dX4_putInto_0 : decode cX4_putInto 0 = .ok (.iload_n 2, 1) := by decide +kernel
theorem dX4_putInto_1 : decode cX4_putInto 1 = .ok (.invokestatic 105, 3) := by decide +kernel
theorem dX4_putInto_4 : decode cX4_putInto 4 = .ok (.ifCond .eq 23, 3) := by decide +kernel
theorem dX4_putInto_7 : decode cX4_putInto 7 = .ok (.aload_n 0, 1) := by decide +kernel
theorem dX4_putInto_8 : decode cX4_putInto 8 = .ok (.getfield 25, 3) := by decide +kernel
theorem dX4_putInto_11 : decode cX4_putInto 11 = .ok (.iload_n 1, 1) := by decide +kernel
theorem dX4_putInto_12 : decode cX4_putInto 12 = .ok (.iaload, 1) := by decide +kernel
theorem dX4_putInto_13 : decode cX4_putInto 13 = .ok (.ifCond .lt 14, 3) := by decide +kernel
theorem dX4_putInto_16 : decode cX4_putInto 16 = .ok (.aload_n 0, 1) := by decide +kernel
theorem dX4_putInto_17 : decode cX4_putInto 17 = .ok (.getfield 25, 3) := by decide +kernel
theorem dX4_putInto_20 : decode cX4_putInto 20 = .ok (.iload_n 1, 1) := by decide +kernel
theorem dX4_putInto_21 : decode cX4_putInto 21 = .ok (.iaload, 1) := by decide +kernel
theorem dX4_putInto_22 : decode cX4_putInto 22 = .ok (.bipush 8, 2) := by decide +kernel
theorem dX4_putInto_24 : decode cX4_putInto 24 = .ok (.if_icmp .lt 4, 3) := by decide +kernel
theorem dX4_putInto_27 : decode cX4_putInto 27 = .ok (.return_, 1) := by decide +kernel
theorem dX4_putInto_28 : decode cX4_putInto 28 = .ok (.aload_n 0, 1) := by decide +kernel
theorem dX4_putInto_29 : decode cX4_putInto 29 = .ok (.iload_n 1, 1) := by decide +kernel
theorem dX4_putInto_30 : decode cX4_putInto 30 = .ok (.putfield 60, 3) := by decide +kernel
theorem dX4_putInto_33 : decode cX4_putInto 33 = .ok (.aload_n 0, 1) := by decide +kernel
theorem dX4_putInto_34 : decode cX4_putInto 34 = .ok (.iload_n 2, 1) := by decide +kernel
theorem dX4_putInto_35 : decode cX4_putInto 35 = .ok (.invokevirtual 145, 3) := by decide +kernel
theorem dX4_putInto_38 : decode cX4_putInto 38 = .ok (.iload_n 1, 1) := by decide +kernel
theorem dX4_putInto_39 : decode cX4_putInto 39 = .ok (.bipush 8, 2) := by decide +kernel
theorem dX4_putInto_41 : decode cX4_putInto 41 = .ok (.imul, 1) := by decide +kernel
theorem dX4_putInto_42 : decode cX4_putInto 42 = .ok (.aload_n 0, 1) := by decide +kernel
theorem dX4_putInto_43 : decode cX4_putInto 43 = .ok (.getfield 25, 3) := by decide +kernel
theorem dX4_putInto_46 : decode cX4_putInto 46 = .ok (.iload_n 1, 1) := by decide +kernel
theorem dX4_putInto_47 : decode cX4_putInto 47 = .ok (.iaload, 1) := by decide +kernel
theorem dX4_putInto_48 : decode cX4_putInto 48 = .ok (.iadd, 1) := by decide +kernel
theorem dX4_putInto_49 : decode cX4_putInto 49 = .ok (.istore_n 3, 1) := by decide +kernel
theorem dX4_putInto_50 : decode cX4_putInto 50 = .ok (.aload_n 0, 1) := by decide +kernel
theorem dX4_putInto_51 : decode cX4_putInto 51 = .ok (.getfield 25, 3) := by decide +kernel
theorem dX4_putInto_54 : decode cX4_putInto 54 = .ok (.iload_n 1, 1) := by decide +kernel
theorem dX4_putInto_55 : decode cX4_putInto 55 = .ok (.dup2, 1) := by decide +kernel
theorem dX4_putInto_56 : decode cX4_putInto 56 = .ok (.iaload, 1) := by decide +kernel
theorem dX4_putInto_57 : decode cX4_putInto 57 = .ok (.iconst 1, 1) := by decide +kernel
theorem dX4_putInto_58 : decode cX4_putInto 58 = .ok (.iadd, 1) := by decide +kernel
theorem dX4_putInto_59 : decode cX4_putInto 59 = .ok (.iastore, 1) := by decide +kernel
theorem dX4_putInto_60 : decode cX4_putInto 60 = .ok (.aload_n 0, 1) := by decide +kernel
theorem dX4_putInto_61 : decode cX4_putInto 61 = .ok (.getfield 28, 3) := by decide +kernel
theorem dX4_putInto_64 : decode cX4_putInto 64 = .ok (.iload_n 3, 1) := by decide +kernel
theorem dX4_putInto_65 : decode cX4_putInto 65 = .ok (.iload_n 2, 1) := by decide +kernel
theorem dX4_putInto_66 : decode cX4_putInto 66 = .ok (.iastore, 1) := by decide +kernel
theorem dX4_putInto_67 : decode cX4_putInto 67 = .ok (.aload_n 0, 1) := by decide +kernel
theorem dX4_putInto_68 : decode cX4_putInto 68 = .ok (.getfield 31, 3) := by decide +kernel
theorem dX4_putInto_71 : decode cX4_putInto 71 = .ok (.iload_n 3, 1) := by decide +kernel
theorem dX4_putInto_72 : decode cX4_putInto 72 = .ok (.iconst 0, 1) := by decide +kernel
theorem dX4_putInto_73 : decode cX4_putInto 73 = .ok (.iastore, 1) := by decide +kernel
theorem dX4_putInto_74 : decode cX4_putInto 74 = .ok (.aload_n 0, 1) := by decide +kernel
theorem dX4_putInto_75 : decode cX4_putInto 75 = .ok (.getfield 34, 3) := by decide +kernel
theorem dX4_putInto_78 : decode cX4_putInto 78 = .ok (.iload_n 3, 1) := by decide +kernel
theorem dX4_putInto_79 : decode cX4_putInto 79 = .ok (.aload_n 0, 1) := by decide +kernel
theorem dX4_putInto_80 : decode cX4_putInto 80 = .ok (.getfield 64, 3) := by decide +kernel
theorem dX4_putInto_83 : decode cX4_putInto 83 = .ok (.iastore, 1) := by decide +kernel
theorem dX4_putInto_84 : decode cX4_putInto 84 = .ok (.aload_n 0, 1) := by decide +kernel
theorem dX4_putInto_85 : decode cX4_putInto 85 = .ok (.getfield 37, 3) := by decide +kernel
theorem dX4_putInto_88 : decode cX4_putInto 88 = .ok (.iload_n 2, 1) := by decide +kernel
theorem dX4_putInto_89 : decode cX4_putInto 89 = .ok (.iload_n 3, 1) := by decide +kernel
theorem dX4_putInto_90 : decode cX4_putInto 90 = .ok (.iastore, 1) := by decide +kernel
theorem dX4_putInto_91 : decode cX4_putInto 91 = .ok (.return_, 1) := by decide +kernel
theorem dX4_dropPlace_0 : decode cX4_dropPlace 0 = .ok (.aload_n 0, 1) := by decide +kernel
theorem dX4_dropPlace_1 : decode cX4_dropPlace 1 = .ok (.getfield 37, 3) := by decide +kernel
theorem dX4_dropPlace_4 : decode cX4_dropPlace 4 = .ok (.iload_n 1, 1) := by decide +kernel
theorem dX4_dropPlace_5 : decode cX4_dropPlace 5 = .ok (.iaload, 1) := by decide +kernel
theorem dX4_dropPlace_6 : decode cX4_dropPlace 6 = .ok (.istore_n 2, 1) := by decide +kernel
theorem dX4_dropPlace_7 : decode cX4_dropPlace 7 = .ok (.iload_n 2, 1) := by decide +kernel
theorem dX4_dropPlace_8 : decode cX4_dropPlace 8 = .ok (.ifCond .lt 17, 3) := by decide +kernel
theorem dX4_dropPlace_11 : decode cX4_dropPlace 11 = .ok (.iload_n 2, 1) := by decide +kernel
theorem dX4_dropPlace_12 : decode cX4_dropPlace 12 = .ok (.bipush 48, 2) := by decide +kernel
theorem dX4_dropPlace_14 : decode cX4_dropPlace 14 = .ok (.if_icmp .ge 11, 3) := by decide +kernel
theorem dX4_dropPlace_17 : decode cX4_dropPlace 17 = .ok (.aload_n 0, 1) := by decide +kernel
theorem dX4_dropPlace_18 : decode cX4_dropPlace 18 = .ok (.getfield 28, 3) := by decide +kernel
theorem dX4_dropPlace_21 : decode cX4_dropPlace 21 = .ok (.iload_n 2, 1) := by decide +kernel
theorem dX4_dropPlace_22 : decode cX4_dropPlace 22 = .ok (.bipush (-2), 2) := by decide +kernel
theorem dX4_dropPlace_24 : decode cX4_dropPlace 24 = .ok (.iastore, 1) := by decide +kernel
theorem dX4_dropPlace_25 : decode cX4_dropPlace 25 = .ok (.aload_n 0, 1) := by decide +kernel
theorem dX4_dropPlace_26 : decode cX4_dropPlace 26 = .ok (.getfield 37, 3) := by decide +kernel
theorem dX4_dropPlace_29 : decode cX4_dropPlace 29 = .ok (.iload_n 1, 1) := by decide +kernel
theorem dX4_dropPlace_30 : decode cX4_dropPlace 30 = .ok (.iconst (-1), 1) := by decide +kernel
theorem dX4_dropPlace_31 : decode cX4_dropPlace 31 = .ok (.iastore, 1) := by decide +kernel
theorem dX4_dropPlace_32 : decode cX4_dropPlace 32 = .ok (.return_, 1) := by decide +kernel
theorem dX4_lowestPlaceWithPage_0 : decode cX4_lowestPlaceWithPage 0 = .ok (.iload_n 1, 1) := by decide +kernel
theorem dX4_lowestPlaceWithPage_1 : decode cX4_lowestPlaceWithPage 1 = .ok (.bipush 8, 2) := by decide +kernel
theorem dX4_lowestPlaceWithPage_3 : decode cX4_lowestPlaceWithPage 3 = .ok (.imul, 1) := by decide +kernel
theorem dX4_lowestPlaceWithPage_4 : decode cX4_lowestPlaceWithPage 4 = .ok (.istore_n 2, 1) := by decide +kernel
theorem dX4_lowestPlaceWithPage_5 : decode cX4_lowestPlaceWithPage 5 = .ok (.iload_n 2, 1) := by decide +kernel
theorem dX4_lowestPlaceWithPage_6 : decode cX4_lowestPlaceWithPage 6 = .ok (.istore_n 3, 1) := by decide +kernel
theorem dX4_lowestPlaceWithPage_7 : decode cX4_lowestPlaceWithPage 7 = .ok (.iload_n 3, 1) := by decide +kernel
theorem dX4_lowestPlaceWithPage_8 : decode cX4_lowestPlaceWithPage 8 = .ok (.iload_n 2, 1) := by decide +kernel
theorem dX4_lowestPlaceWithPage_9 : decode cX4_lowestPlaceWithPage 9 = .ok (.bipush 8, 2) := by decide +kernel
theorem dX4_lowestPlaceWithPage_11 : decode cX4_lowestPlaceWithPage 11 = .ok (.iadd, 1) := by decide +kernel
theorem dX4_lowestPlaceWithPage_12 : decode cX4_lowestPlaceWithPage 12 = .ok (.if_icmp .ge 20, 3) := by decide +kernel
theorem dX4_lowestPlaceWithPage_15 : decode cX4_lowestPlaceWithPage 15 = .ok (.aload_n 0, 1) := by decide +kernel
theorem dX4_lowestPlaceWithPage_16 : decode cX4_lowestPlaceWithPage 16 = .ok (.getfield 28, 3) := by decide +kernel
theorem dX4_lowestPlaceWithPage_19 : decode cX4_lowestPlaceWithPage 19 = .ok (.iload_n 3, 1) := by decide +kernel
theorem dX4_lowestPlaceWithPage_20 : decode cX4_lowestPlaceWithPage 20 = .ok (.iaload, 1) := by decide +kernel
theorem dX4_lowestPlaceWithPage_21 : decode cX4_lowestPlaceWithPage 21 = .ok (.ifCond .lt 5, 3) := by decide +kernel
theorem dX4_lowestPlaceWithPage_24 : decode cX4_lowestPlaceWithPage 24 = .ok (.iload_n 3, 1) := by decide +kernel
theorem dX4_lowestPlaceWithPage_25 : decode cX4_lowestPlaceWithPage 25 = .ok (.ireturn, 1) := by decide +kernel
theorem dX4_lowestPlaceWithPage_26 : decode cX4_lowestPlaceWithPage 26 = .ok (.iinc 3 1, 3) := by decide +kernel
theorem dX4_lowestPlaceWithPage_29 : decode cX4_lowestPlaceWithPage 29 = .ok (.goto (-22), 3) := by decide +kernel
theorem dX4_lowestPlaceWithPage_32 : decode cX4_lowestPlaceWithPage 32 = .ok (.iconst (-1), 1) := by decide +kernel
theorem dX4_lowestPlaceWithPage_33 : decode cX4_lowestPlaceWithPage 33 = .ok (.ireturn, 1) := by decide +kernel
theorem dX4_moveLowestPage_0 : decode cX4_moveLowestPage 0 = .ok (.aload_n 0, 1) := by decide +kernel
theorem dX4_moveLowestPage_1 : decode cX4_moveLowestPage 1 = .ok (.getfield 60, 3) := by decide +kernel
theorem dX4_moveLowestPage_4 : decode cX4_moveLowestPage 4 = .ok (.iload_n 1, 1) := by decide +kernel
theorem dX4_moveLowestPage_5 : decode cX4_moveLowestPage 5 = .ok (.if_icmp .ne 8, 3) := by decide +kernel
theorem dX4_moveLowestPage_8 : decode cX4_moveLowestPage 8 = .ok (.aload_n 0, 1) := by decide +kernel
theorem dX4_moveLowestPage_9 : decode cX4_moveLowestPage 9 = .ok (.iconst (-1), 1) := by decide +kernel
theorem dX4_moveLowestPage_10 : decode cX4_moveLowestPage 10 = .ok (.putfield 60, 3) := by decide +kernel
theorem dX4_moveLowestPage_13 : decode cX4_moveLowestPage 13 = .ok (.aload_n 0, 1) := by decide +kernel
theorem dX4_moveLowestPage_14 : decode cX4_moveLowestPage 14 = .ok (.invokevirtual 149, 3) := by decide +kernel
theorem dX4_moveLowestPage_17 : decode cX4_moveLowestPage 17 = .ok (.istore_n 2, 1) := by decide +kernel
theorem dX4_moveLowestPage_18 : decode cX4_moveLowestPage 18 = .ok (.aload_n 0, 1) := by decide +kernel
theorem dX4_moveLowestPage_19 : decode cX4_moveLowestPage 19 = .ok (.iload_n 1, 1) := by decide +kernel
theorem dX4_moveLowestPage_20 : decode cX4_moveLowestPage 20 = .ok (.invokevirtual 153, 3) := by decide +kernel
theorem dX4_moveLowestPage_23 : decode cX4_moveLowestPage 23 = .ok (.istore_n 3, 1) := by decide +kernel
theorem dX4_moveLowestPage_24 : decode cX4_moveLowestPage 24 = .ok (.iload_n 2, 1) := by decide +kernel
theorem dX4_moveLowestPage_25 : decode cX4_moveLowestPage 25 = .ok (.iconst (-1), 1) := by decide +kernel
theorem dX4_moveLowestPage_26 : decode cX4_moveLowestPage 26 = .ok (.if_icmp .eq 16, 3) := by decide +kernel
theorem dX4_moveLowestPage_29 : decode cX4_moveLowestPage 29 = .ok (.iload_n 3, 1) := by decide +kernel
theorem dX4_moveLowestPage_30 : decode cX4_moveLowestPage 30 = .ok (.iconst (-1), 1) := by decide +kernel
theorem dX4_moveLowestPage_31 : decode cX4_moveLowestPage 31 = .ok (.if_icmp .eq 11, 3) := by decide +kernel
theorem dX4_moveLowestPage_34 : decode cX4_moveLowestPage 34 = .ok (.aload_n 0, 1) := by decide +kernel
theorem dX4_moveLowestPage_35 : decode cX4_moveLowestPage 35 = .ok (.iload_n 3, 1) := by decide +kernel
theorem dX4_moveLowestPage_36 : decode cX4_moveLowestPage 36 = .ok (.invokevirtual 156, 3) := by decide +kernel
theorem dX4_moveLowestPage_39 : decode cX4_moveLowestPage 39 = .ok (.ifCond .ne 5, 3) := by decide +kernel
theorem dX4_moveLowestPage_42 : decode cX4_moveLowestPage 42 = .ok (.iconst 0, 1) := by decide +kernel
theorem dX4_moveLowestPage_43 : decode cX4_moveLowestPage 43 = .ok (.ireturn, 1) := by decide +kernel
theorem dX4_moveLowestPage_44 : decode cX4_moveLowestPage 44 = .ok (.aload_n 0, 1) := by decide +kernel
theorem dX4_moveLowestPage_45 : decode cX4_moveLowestPage 45 = .ok (.iload_n 3, 1) := by decide +kernel
theorem dX4_moveLowestPage_46 : decode cX4_moveLowestPage 46 = .ok (.invokevirtual 159, 3) := by decide +kernel
theorem dX4_moveLowestPage_49 : decode cX4_moveLowestPage 49 = .ok (.aload_n 0, 1) := by decide +kernel
theorem dX4_moveLowestPage_50 : decode cX4_moveLowestPage 50 = .ok (.iload_n 2, 1) := by decide +kernel
theorem dX4_moveLowestPage_51 : decode cX4_moveLowestPage 51 = .ok (.aload_n 0, 1) := by decide +kernel
theorem dX4_moveLowestPage_52 : decode cX4_moveLowestPage 52 = .ok (.getfield 28, 3) := by decide +kernel
theorem dX4_moveLowestPage_55 : decode cX4_moveLowestPage 55 = .ok (.iload_n 3, 1) := by decide +kernel
theorem dX4_moveLowestPage_56 : decode cX4_moveLowestPage 56 = .ok (.iaload, 1) := by decide +kernel
theorem dX4_moveLowestPage_57 : decode cX4_moveLowestPage 57 = .ok (.invokevirtual 162, 3) := by decide +kernel
theorem dX4_moveLowestPage_60 : decode cX4_moveLowestPage 60 = .ok (.aload_n 0, 1) := by decide +kernel
theorem dX4_moveLowestPage_61 : decode cX4_moveLowestPage 61 = .ok (.dup, 1) := by decide +kernel
theorem dX4_moveLowestPage_62 : decode cX4_moveLowestPage 62 = .ok (.getfield 73, 3) := by decide +kernel
theorem dX4_moveLowestPage_65 : decode cX4_moveLowestPage 65 = .ok (.iconst 1, 1) := by decide +kernel
theorem dX4_moveLowestPage_66 : decode cX4_moveLowestPage 66 = .ok (.iadd, 1) := by decide +kernel
theorem dX4_moveLowestPage_67 : decode cX4_moveLowestPage 67 = .ok (.putfield 73, 3) := by decide +kernel
theorem dX4_moveLowestPage_70 : decode cX4_moveLowestPage 70 = .ok (.iconst 1, 1) := by decide +kernel
theorem dX4_moveLowestPage_71 : decode cX4_moveLowestPage 71 = .ok (.ireturn, 1) := by decide +kernel
theorem dX4_erase_0 : decode cX4_erase 0 = .ok (.iconst 0, 1) := by decide +kernel
theorem dX4_erase_1 : decode cX4_erase 1 = .ok (.istore_n 2, 1) := by decide +kernel
theorem dX4_erase_2 : decode cX4_erase 2 = .ok (.iload_n 1, 1) := by decide +kernel
theorem dX4_erase_3 : decode cX4_erase 3 = .ok (.bipush 8, 2) := by decide +kernel
theorem dX4_erase_5 : decode cX4_erase 5 = .ok (.imul, 1) := by decide +kernel
theorem dX4_erase_6 : decode cX4_erase 6 = .ok (.istore_n 3, 1) := by decide +kernel
theorem dX4_erase_7 : decode cX4_erase 7 = .ok (.iload_n 3, 1) := by decide +kernel
theorem dX4_erase_8 : decode cX4_erase 8 = .ok (.istore 4, 2) := by decide +kernel
theorem dX4_erase_10 : decode cX4_erase 10 = .ok (.iload 4, 2) := by decide +kernel
theorem dX4_erase_12 : decode cX4_erase 12 = .ok (.iload_n 3, 1) := by decide +kernel
theorem dX4_erase_13 : decode cX4_erase 13 = .ok (.bipush 8, 2) := by decide +kernel
theorem dX4_erase_15 : decode cX4_erase 15 = .ok (.iadd, 1) := by decide +kernel
theorem dX4_erase_16 : decode cX4_erase 16 = .ok (.if_icmp .ge 37, 3) := by decide +kernel
theorem dX4_erase_19 : decode cX4_erase 19 = .ok (.iload_n 2, 1) := by decide +kernel
theorem dX4_erase_20 : decode cX4_erase 20 = .ok (.aload_n 0, 1) := by decide +kernel
theorem dX4_erase_21 : decode cX4_erase 21 = .ok (.getfield 31, 3) := by decide +kernel
theorem dX4_erase_24 : decode cX4_erase 24 = .ok (.iload 4, 2) := by decide +kernel
theorem dX4_erase_26 : decode cX4_erase 26 = .ok (.iaload, 1) := by decide +kernel
theorem dX4_erase_27 : decode cX4_erase 27 = .ok (.invokestatic 121, 3) := by decide +kernel
theorem dX4_erase_30 : decode cX4_erase 30 = .ok (.istore_n 2, 1) := by decide +kernel
theorem dX4_erase_31 : decode cX4_erase 31 = .ok (.aload_n 0, 1) := by decide +kernel
theorem dX4_erase_32 : decode cX4_erase 32 = .ok (.getfield 28, 3) := by decide +kernel
theorem dX4_erase_35 : decode cX4_erase 35 = .ok (.iload 4, 2) := by decide +kernel
theorem dX4_erase_37 : decode cX4_erase 37 = .ok (.iconst (-1), 1) := by decide +kernel
theorem dX4_erase_38 : decode cX4_erase 38 = .ok (.iastore, 1) := by decide +kernel
theorem dX4_erase_39 : decode cX4_erase 39 = .ok (.aload_n 0, 1) := by decide +kernel
theorem dX4_erase_40 : decode cX4_erase 40 = .ok (.getfield 31, 3) := by decide +kernel
theorem dX4_erase_43 : decode cX4_erase 43 = .ok (.iload 4, 2) := by decide +kernel
theorem dX4_erase_45 : decode cX4_erase 45 = .ok (.iconst 0, 1) := by decide +kernel
theorem dX4_erase_46 : decode cX4_erase 46 = .ok (.iastore, 1) := by decide +kernel
theorem dX4_erase_47 : decode cX4_erase 47 = .ok (.iinc 4 1, 3) := by decide +kernel
theorem dX4_erase_50 : decode cX4_erase 50 = .ok (.goto (-40), 3) := by decide +kernel
theorem dX4_erase_53 : decode cX4_erase 53 = .ok (.aload_n 0, 1) := by decide +kernel
theorem dX4_erase_54 : decode cX4_erase 54 = .ok (.getfield 25, 3) := by decide +kernel
theorem dX4_erase_57 : decode cX4_erase 57 = .ok (.iload_n 1, 1) := by decide +kernel
theorem dX4_erase_58 : decode cX4_erase 58 = .ok (.iconst 0, 1) := by decide +kernel
theorem dX4_erase_59 : decode cX4_erase 59 = .ok (.iastore, 1) := by decide +kernel
theorem dX4_erase_60 : decode cX4_erase 60 = .ok (.aload_n 0, 1) := by decide +kernel
theorem dX4_erase_61 : decode cX4_erase 61 = .ok (.getfield 15, 3) := by decide +kernel
theorem dX4_erase_64 : decode cX4_erase 64 = .ok (.iload_n 1, 1) := by decide +kernel
theorem dX4_erase_65 : decode cX4_erase 65 = .ok (.dup2, 1) := by decide +kernel
theorem dX4_erase_66 : decode cX4_erase 66 = .ok (.iaload, 1) := by decide +kernel
theorem dX4_erase_67 : decode cX4_erase 67 = .ok (.iconst 1, 1) := by decide +kernel
theorem dX4_erase_68 : decode cX4_erase 68 = .ok (.iadd, 1) := by decide +kernel
theorem dX4_erase_69 : decode cX4_erase 69 = .ok (.iastore, 1) := by decide +kernel
theorem dX4_erase_70 : decode cX4_erase 70 = .ok (.aload_n 0, 1) := by decide +kernel
theorem dX4_erase_71 : decode cX4_erase 71 = .ok (.getfield 18, 3) := by decide +kernel
theorem dX4_erase_74 : decode cX4_erase 74 = .ok (.iload_n 1, 1) := by decide +kernel
theorem dX4_erase_75 : decode cX4_erase 75 = .ok (.iconst 0, 1) := by decide +kernel
theorem dX4_erase_76 : decode cX4_erase 76 = .ok (.bastore, 1) := by decide +kernel
theorem dX4_erase_77 : decode cX4_erase 77 = .ok (.aload_n 0, 1) := by decide +kernel
theorem dX4_erase_78 : decode cX4_erase 78 = .ok (.getfield 60, 3) := by decide +kernel
theorem dX4_erase_81 : decode cX4_erase 81 = .ok (.iload_n 1, 1) := by decide +kernel
theorem dX4_erase_82 : decode cX4_erase 82 = .ok (.if_icmp .ne 8, 3) := by decide +kernel
theorem dX4_erase_85 : decode cX4_erase 85 = .ok (.aload_n 0, 1) := by decide +kernel
theorem dX4_erase_86 : decode cX4_erase 86 = .ok (.iconst (-1), 1) := by decide +kernel
theorem dX4_erase_87 : decode cX4_erase 87 = .ok (.putfield 60, 3) := by decide +kernel
theorem dX4_erase_90 : decode cX4_erase 90 = .ok (.aload_n 0, 1) := by decide +kernel
theorem dX4_erase_91 : decode cX4_erase 91 = .ok (.getfield 56, 3) := by decide +kernel
theorem dX4_erase_94 : decode cX4_erase 94 = .ok (.iload_n 1, 1) := by decide +kernel
theorem dX4_erase_95 : decode cX4_erase 95 = .ok (.aload_n 0, 1) := by decide +kernel
theorem dX4_erase_96 : decode cX4_erase 96 = .ok (.getfield 64, 3) := by decide +kernel
theorem dX4_erase_99 : decode cX4_erase 99 = .ok (.iload_n 2, 1) := by decide +kernel
theorem dX4_erase_100 : decode cX4_erase 100 = .ok (.invokevirtual 166, 3) := by decide +kernel
theorem dX4_erase_103 : decode cX4_erase 103 = .ok (.return_, 1) := by decide +kernel
theorem dX4_moveWhole_0 : decode cX4_moveWhole 0 = .ok (.aload_n 0, 1) := by decide +kernel
theorem dX4_moveWhole_1 : decode cX4_moveWhole 1 = .ok (.iload_n 1, 1) := by decide +kernel
theorem dX4_moveWhole_2 : decode cX4_moveWhole 2 = .ok (.invokevirtual 108, 3) := by decide +kernel
theorem dX4_moveWhole_5 : decode cX4_moveWhole 5 = .ok (.istore_n 2, 1) := by decide +kernel
theorem dX4_moveWhole_6 : decode cX4_moveWhole 6 = .ok (.iconst 0, 1) := by decide +kernel
theorem dX4_moveWhole_7 : decode cX4_moveWhole 7 = .ok (.istore_n 3, 1) := by decide +kernel
theorem dX4_moveWhole_8 : decode cX4_moveWhole 8 = .ok (.iload_n 3, 1) := by decide +kernel
theorem dX4_moveWhole_9 : decode cX4_moveWhole 9 = .ok (.iload_n 2, 1) := by decide +kernel
theorem dX4_moveWhole_10 : decode cX4_moveWhole 10 = .ok (.if_icmp .ge 20, 3) := by decide +kernel
theorem dX4_moveWhole_13 : decode cX4_moveWhole 13 = .ok (.aload_n 0, 1) := by decide +kernel
theorem dX4_moveWhole_14 : decode cX4_moveWhole 14 = .ok (.iload_n 1, 1) := by decide +kernel
theorem dX4_moveWhole_15 : decode cX4_moveWhole 15 = .ok (.invokevirtual 170, 3) := by decide +kernel
theorem dX4_moveWhole_18 : decode cX4_moveWhole 18 = .ok (.ifCond .ne 6, 3) := by decide +kernel
theorem dX4_moveWhole_21 : decode cX4_moveWhole 21 = .ok (.bipush (-4), 2) := by decide +kernel
theorem dX4_moveWhole_23 : decode cX4_moveWhole 23 = .ok (.ireturn, 1) := by decide +kernel
theorem dX4_moveWhole_24 : decode cX4_moveWhole 24 = .ok (.iinc 3 1, 3) := by decide +kernel
theorem dX4_moveWhole_27 : decode cX4_moveWhole 27 = .ok (.goto (-19), 3) := by decide +kernel
theorem dX4_moveWhole_30 : decode cX4_moveWhole 30 = .ok (.aload_n 0, 1) := by decide +kernel
theorem dX4_moveWhole_31 : decode cX4_moveWhole 31 = .ok (.iload_n 1, 1) := by decide +kernel
theorem dX4_moveWhole_32 : decode cX4_moveWhole 32 = .ok (.invokevirtual 173, 3) := by decide +kernel
theorem dX4_moveWhole_35 : decode cX4_moveWhole 35 = .ok (.iload_n 2, 1) := by decide +kernel
theorem dX4_moveWhole_36 : decode cX4_moveWhole 36 = .ok (.ireturn, 1) := by decide +kernel
theorem dX4_passOne_0 : decode cX4_passOne 0 = .ok (.aload_n 0, 1) := by decide +kernel
theorem dX4_passOne_1 : decode cX4_passOne 1 = .ok (.dup, 1) := by decide +kernel
theorem dX4_passOne_2 : decode cX4_passOne 2 = .ok (.getfield 64, 3) := by decide +kernel
theorem dX4_passOne_5 : decode cX4_passOne 5 = .ok (.iconst 1, 1) := by decide +kernel
theorem dX4_passOne_6 : decode cX4_passOne 6 = .ok (.iadd, 1) := by decide +kernel
theorem dX4_passOne_7 : decode cX4_passOne 7 = .ok (.putfield 64, 3) := by decide +kernel
theorem dX4_passOne_10 : decode cX4_passOne 10 = .ok (.iconst 0, 1) := by decide +kernel
theorem dX4_passOne_11 : decode cX4_passOne 11 = .ok (.istore_n 1, 1) := by decide +kernel
theorem dX4_passOne_12 : decode cX4_passOne 12 = .ok (.iconst 0, 1) := by decide +kernel
theorem dX4_passOne_13 : decode cX4_passOne 13 = .ok (.istore_n 2, 1) := by decide +kernel
theorem dX4_passOne_14 : decode cX4_passOne 14 = .ok (.iload_n 2, 1) := by decide +kernel
theorem dX4_passOne_15 : decode cX4_passOne 15 = .ok (.bipush 32, 2) := by decide +kernel
theorem dX4_passOne_17 : decode cX4_passOne 17 = .ok (.if_icmp .ge 67, 3) := by decide +kernel
theorem dX4_passOne_20 : decode cX4_passOne 20 = .ok (.iload_n 1, 1) := by decide +kernel
theorem dX4_passOne_21 : decode cX4_passOne 21 = .ok (.aload_n 0, 1) := by decide +kernel
theorem dX4_passOne_22 : decode cX4_passOne 22 = .ok (.getfield 43, 3) := by decide +kernel
theorem dX4_passOne_25 : decode cX4_passOne 25 = .ok (.iconst 2, 1) := by decide +kernel
theorem dX4_passOne_26 : decode cX4_passOne 26 = .ok (.iaload, 1) := by decide +kernel
theorem dX4_passOne_27 : decode cX4_passOne 27 = .ok (.if_icmp .ge 57, 3) := by decide +kernel
theorem dX4_passOne_30 : decode cX4_passOne 30 = .ok (.aload_n 0, 1) := by decide +kernel
theorem dX4_passOne_31 : decode cX4_passOne 31 = .ok (.invokevirtual 176, 3) := by decide +kernel
theorem dX4_passOne_34 : decode cX4_passOne 34 = .ok (.istore_n 3, 1) := by decide +kernel
theorem dX4_passOne_35 : decode cX4_passOne 35 = .ok (.iload_n 3, 1) := by decide +kernel
theorem dX4_passOne_36 : decode cX4_passOne 36 = .ok (.iconst (-1), 1) := by decide +kernel
theorem dX4_passOne_37 : decode cX4_passOne 37 = .ok (.if_icmp .ne 6, 3) := by decide +kernel
theorem dX4_passOne_40 : decode cX4_passOne 40 = .ok (.goto 44, 3) := by decide +kernel
theorem dX4_passOne_43 : decode cX4_passOne 43 = .ok (.aload_n 0, 1) := by decide +kernel
theorem dX4_passOne_44 : decode cX4_passOne 44 = .ok (.iload_n 3, 1) := by decide +kernel
theorem dX4_passOne_45 : decode cX4_passOne 45 = .ok (.invokevirtual 108, 3) := by decide +kernel
theorem dX4_passOne_48 : decode cX4_passOne 48 = .ok (.ifCond .le 17, 3) := by decide +kernel
theorem dX4_passOne_51 : decode cX4_passOne 51 = .ok (.aload_n 0, 1) := by decide +kernel
theorem dX4_passOne_52 : decode cX4_passOne 52 = .ok (.iload_n 3, 1) := by decide +kernel
theorem dX4_passOne_53 : decode cX4_passOne 53 = .ok (.invokevirtual 170, 3) := by decide +kernel
theorem dX4_passOne_56 : decode cX4_passOne 56 = .ok (.ifCond .ne 6, 3) := by decide +kernel
theorem dX4_passOne_59 : decode cX4_passOne 59 = .ok (.goto 25, 3) := by decide +kernel
theorem dX4_passOne_62 : decode cX4_passOne 62 = .ok (.iinc 1 1, 3) := by decide +kernel
theorem dX4_passOne_65 : decode cX4_passOne 65 = .ok (.aload_n 0, 1) := by decide +kernel
theorem dX4_passOne_66 : decode cX4_passOne 66 = .ok (.iload_n 3, 1) := by decide +kernel
theorem dX4_passOne_67 : decode cX4_passOne 67 = .ok (.invokevirtual 108, 3) := by decide +kernel
theorem dX4_passOne_70 : decode cX4_passOne 70 = .ok (.ifCond .ne 8, 3) := by decide +kernel
theorem dX4_passOne_73 : decode cX4_passOne 73 = .ok (.aload_n 0, 1) := by decide +kernel
theorem dX4_passOne_74 : decode cX4_passOne 74 = .ok (.iload_n 3, 1) := by decide +kernel
theorem dX4_passOne_75 : decode cX4_passOne 75 = .ok (.invokevirtual 173, 3) := by decide +kernel
theorem dX4_passOne_78 : decode cX4_passOne 78 = .ok (.iinc 2 1, 3) := by decide +kernel
theorem dX4_passOne_81 : decode cX4_passOne 81 = .ok (.goto (-67), 3) := by decide +kernel
theorem dX4_passOne_84 : decode cX4_passOne 84 = .ok (.iload_n 1, 1) := by decide +kernel
theorem dX4_passOne_85 : decode cX4_passOne 85 = .ok (.ireturn, 1) := by decide +kernel
theorem dX4_changeSetting_0 : decode cX4_changeSetting 0 = .ok (.iload_n 1, 1) := by decide +kernel
theorem dX4_changeSetting_1 : decode cX4_changeSetting 1 = .ok (.invokestatic 179, 3) := by decide +kernel
theorem dX4_changeSetting_4 : decode cX4_changeSetting 4 = .ok (.ifCond .ne 5, 3) := by decide +kernel
theorem dX4_changeSetting_7 : decode cX4_changeSetting 7 = .ok (.iconst (-1), 1) := by decide +kernel
theorem dX4_changeSetting_8 : decode cX4_changeSetting 8 = .ok (.ireturn, 1) := by decide +kernel
theorem dX4_changeSetting_9 : decode cX4_changeSetting 9 = .ok (.iload_n 2, 1) := by decide +kernel
theorem dX4_changeSetting_10 : decode cX4_changeSetting 10 = .ok (.getstatic 182, 3) := by decide +kernel
theorem dX4_changeSetting_13 : decode cX4_changeSetting 13 = .ok (.iload_n 1, 1) := by decide +kernel
theorem dX4_changeSetting_14 : decode cX4_changeSetting 14 = .ok (.iaload, 1) := by decide +kernel
theorem dX4_changeSetting_15 : decode cX4_changeSetting 15 = .ok (.if_icmp .lt 12, 3) := by decide +kernel
theorem dX4_changeSetting_18 : decode cX4_changeSetting 18 = .ok (.iload_n 2, 1) := by decide +kernel
theorem dX4_changeSetting_19 : decode cX4_changeSetting 19 = .ok (.getstatic 185, 3) := by decide +kernel
theorem dX4_changeSetting_22 : decode cX4_changeSetting 22 = .ok (.iload_n 1, 1) := by decide +kernel
theorem dX4_changeSetting_23 : decode cX4_changeSetting 23 = .ok (.iaload, 1) := by decide +kernel
theorem dX4_changeSetting_24 : decode cX4_changeSetting 24 = .ok (.if_icmp .le 6, 3) := by decide +kernel
theorem dX4_changeSetting_27 : decode cX4_changeSetting 27 = .ok (.bipush (-2), 2) := by decide +kernel
theorem dX4_changeSetting_29 : decode cX4_changeSetting 29 = .ok (.ireturn, 1) := by decide +kernel
theorem dX4_changeSetting_30 : decode cX4_changeSetting 30 = .ok (.aload_n 0, 1) := by decide +kernel
theorem dX4_changeSetting_31 : decode cX4_changeSetting 31 = .ok (.getfield 43, 3) := by decide +kernel
theorem dX4_changeSetting_34 : decode cX4_changeSetting 34 = .ok (.iload_n 1, 1) := by decide +kernel
theorem dX4_changeSetting_35 : decode cX4_changeSetting 35 = .ok (.iaload, 1) := by decide +kernel
theorem dX4_changeSetting_36 : decode cX4_changeSetting 36 = .ok (.istore_n 3, 1) := by decide +kernel
theorem dX4_changeSetting_37 : decode cX4_changeSetting 37 = .ok (.iload_n 3, 1) := by decide +kernel
theorem dX4_changeSetting_38 : decode cX4_changeSetting 38 = .ok (.iload_n 2, 1) := by decide +kernel
theorem dX4_changeSetting_39 : decode cX4_changeSetting 39 = .ok (.if_icmp .ne 6, 3) := by decide +kernel
theorem dX4_changeSetting_42 : decode cX4_changeSetting 42 = .ok (.bipush (-5), 2) := by decide +kernel
theorem dX4_changeSetting_44 : decode cX4_changeSetting 44 = .ok (.ireturn, 1) := by decide +kernel
theorem dX4_changeSetting_45 : decode cX4_changeSetting 45 = .ok (.aload_n 0, 1) := by decide +kernel
theorem dX4_changeSetting_46 : decode cX4_changeSetting 46 = .ok (.getfield 43, 3) := by decide +kernel
theorem dX4_changeSetting_49 : decode cX4_changeSetting 49 = .ok (.iload_n 1, 1) := by decide +kernel
theorem dX4_changeSetting_50 : decode cX4_changeSetting 50 = .ok (.iload_n 2, 1) := by decide +kernel
theorem dX4_changeSetting_51 : decode cX4_changeSetting 51 = .ok (.iastore, 1) := by decide +kernel
theorem dX4_changeSetting_52 : decode cX4_changeSetting 52 = .ok (.aload_n 0, 1) := by decide +kernel
theorem dX4_changeSetting_53 : decode cX4_changeSetting 53 = .ok (.getfield 49, 3) := by decide +kernel
theorem dX4_changeSetting_56 : decode cX4_changeSetting 56 = .ok (.aload_n 0, 1) := by decide +kernel
theorem dX4_changeSetting_57 : decode cX4_changeSetting 57 = .ok (.getfield 43, 3) := by decide +kernel
theorem dX4_changeSetting_60 : decode cX4_changeSetting 60 = .ok (.iconst 3, 1) := by decide +kernel
theorem dX4_changeSetting_61 : decode cX4_changeSetting 61 = .ok (.iaload, 1) := by decide +kernel
theorem dX4_changeSetting_62 : decode cX4_changeSetting 62 = .ok (.invokevirtual 188, 3) := by decide +kernel
theorem dX4_changeSetting_65 : decode cX4_changeSetting 65 = .ok (.iload_n 3, 1) := by decide +kernel
theorem dX4_changeSetting_66 : decode cX4_changeSetting 66 = .ok (.ireturn, 1) := by decide +kernel
theorem dX4_changeKind_0 : decode cX4_changeKind 0 = .ok (.iload_n 1, 1) := by decide +kernel
theorem dX4_changeKind_1 : decode cX4_changeKind 1 = .ok (.invokestatic 142, 3) := by decide +kernel
theorem dX4_changeKind_4 : decode cX4_changeKind 4 = .ok (.ifCond .ne 5, 3) := by decide +kernel
theorem dX4_changeKind_7 : decode cX4_changeKind 7 = .ok (.iconst (-1), 1) := by decide +kernel
theorem dX4_changeKind_8 : decode cX4_changeKind 8 = .ok (.ireturn, 1) := by decide +kernel
theorem dX4_changeKind_9 : decode cX4_changeKind 9 = .ok (.iload_n 2, 1) := by decide +kernel
theorem dX4_changeKind_10 : decode cX4_changeKind 10 = .ok (.ifCond .lt 8, 3) := by decide +kernel
theorem dX4_changeKind_13 : decode cX4_changeKind 13 = .ok (.iload_n 2, 1) := by decide +kernel
theorem dX4_changeKind_14 : decode cX4_changeKind 14 = .ok (.iconst 2, 1) := by decide +kernel
theorem dX4_changeKind_15 : decode cX4_changeKind 15 = .ok (.if_icmp .le 6, 3) := by decide +kernel
theorem dX4_changeKind_18 : decode cX4_changeKind 18 = .ok (.bipush (-2), 2) := by decide +kernel
theorem dX4_changeKind_20 : decode cX4_changeKind 20 = .ok (.ireturn, 1) := by decide +kernel
theorem dX4_changeKind_21 : decode cX4_changeKind 21 = .ok (.aload_n 0, 1) := by decide +kernel
theorem dX4_changeKind_22 : decode cX4_changeKind 22 = .ok (.iload_n 1, 1) := by decide +kernel
theorem dX4_changeKind_23 : decode cX4_changeKind 23 = .ok (.invokevirtual 101, 3) := by decide +kernel
theorem dX4_changeKind_26 : decode cX4_changeKind 26 = .ok (.ifCond .ne 6, 3) := by decide +kernel
theorem dX4_changeKind_29 : decode cX4_changeKind 29 = .ok (.bipush (-4), 2) := by decide +kernel
theorem dX4_changeKind_31 : decode cX4_changeKind 31 = .ok (.ireturn, 1) := by decide +kernel
theorem dX4_changeKind_32 : decode cX4_changeKind 32 = .ok (.aload_n 0, 1) := by decide +kernel
theorem dX4_changeKind_33 : decode cX4_changeKind 33 = .ok (.getfield 9, 3) := by decide +kernel
theorem dX4_changeKind_36 : decode cX4_changeKind 36 = .ok (.iload_n 1, 1) := by decide +kernel
theorem dX4_changeKind_37 : decode cX4_changeKind 37 = .ok (.iaload, 1) := by decide +kernel
theorem dX4_changeKind_38 : decode cX4_changeKind 38 = .ok (.istore_n 3, 1) := by decide +kernel
theorem dX4_changeKind_39 : decode cX4_changeKind 39 = .ok (.iload_n 3, 1) := by decide +kernel
theorem dX4_changeKind_40 : decode cX4_changeKind 40 = .ok (.iload_n 2, 1) := by decide +kernel
theorem dX4_changeKind_41 : decode cX4_changeKind 41 = .ok (.if_icmp .ne 6, 3) := by decide +kernel
theorem dX4_changeKind_44 : decode cX4_changeKind 44 = .ok (.bipush (-5), 2) := by decide +kernel
theorem dX4_changeKind_46 : decode cX4_changeKind 46 = .ok (.ireturn, 1) := by decide +kernel
theorem dX4_changeKind_47 : decode cX4_changeKind 47 = .ok (.aload_n 0, 1) := by decide +kernel
theorem dX4_changeKind_48 : decode cX4_changeKind 48 = .ok (.getfield 9, 3) := by decide +kernel
theorem dX4_changeKind_51 : decode cX4_changeKind 51 = .ok (.iload_n 1, 1) := by decide +kernel
theorem dX4_changeKind_52 : decode cX4_changeKind 52 = .ok (.iload_n 2, 1) := by decide +kernel
theorem dX4_changeKind_53 : decode cX4_changeKind 53 = .ok (.iastore, 1) := by decide +kernel
theorem dX4_changeKind_54 : decode cX4_changeKind 54 = .ok (.iload_n 3, 1) := by decide +kernel
theorem dX4_changeKind_55 : decode cX4_changeKind 55 = .ok (.ireturn, 1) := by decide +kernel
theorem dX4_changeCall_0 : decode cX4_changeCall 0 = .ok (.iload_n 1, 1) := by decide +kernel
theorem dX4_changeCall_1 : decode cX4_changeCall 1 = .ok (.invokestatic 142, 3) := by decide +kernel
theorem dX4_changeCall_4 : decode cX4_changeCall 4 = .ok (.ifCond .ne 5, 3) := by decide +kernel
theorem dX4_changeCall_7 : decode cX4_changeCall 7 = .ok (.iconst (-1), 1) := by decide +kernel
theorem dX4_changeCall_8 : decode cX4_changeCall 8 = .ok (.ireturn, 1) := by decide +kernel
theorem dX4_changeCall_9 : decode cX4_changeCall 9 = .ok (.aload_n 0, 1) := by decide +kernel
theorem dX4_changeCall_10 : decode cX4_changeCall 10 = .ok (.iload_n 1, 1) := by decide +kernel
theorem dX4_changeCall_11 : decode cX4_changeCall 11 = .ok (.invokevirtual 101, 3) := by decide +kernel
theorem dX4_changeCall_14 : decode cX4_changeCall 14 = .ok (.ifCond .eq 6, 3) := by decide +kernel
theorem dX4_changeCall_17 : decode cX4_changeCall 17 = .ok (.bipush (-4), 2) := by decide +kernel
theorem dX4_changeCall_19 : decode cX4_changeCall 19 = .ok (.ireturn, 1) := by decide +kernel
theorem dX4_changeCall_20 : decode cX4_changeCall 20 = .ok (.aload_n 0, 1) := by decide +kernel
theorem dX4_changeCall_21 : decode cX4_changeCall 21 = .ok (.getfield 18, 3) := by decide +kernel
theorem dX4_changeCall_24 : decode cX4_changeCall 24 = .ok (.iload_n 1, 1) := by decide +kernel
theorem dX4_changeCall_25 : decode cX4_changeCall 25 = .ok (.baload, 1) := by decide +kernel
theorem dX4_changeCall_26 : decode cX4_changeCall 26 = .ok (.iload_n 2, 1) := by decide +kernel
theorem dX4_changeCall_27 : decode cX4_changeCall 27 = .ok (.if_icmp .ne 6, 3) := by decide +kernel
theorem dX4_changeCall_30 : decode cX4_changeCall 30 = .ok (.bipush (-5), 2) := by decide +kernel
theorem dX4_changeCall_32 : decode cX4_changeCall 32 = .ok (.ireturn, 1) := by decide +kernel
theorem dX4_changeCall_33 : decode cX4_changeCall 33 = .ok (.aload_n 0, 1) := by decide +kernel
theorem dX4_changeCall_34 : decode cX4_changeCall 34 = .ok (.getfield 18, 3) := by decide +kernel
theorem dX4_changeCall_37 : decode cX4_changeCall 37 = .ok (.iload_n 1, 1) := by decide +kernel
theorem dX4_changeCall_38 : decode cX4_changeCall 38 = .ok (.iload_n 2, 1) := by decide +kernel
theorem dX4_changeCall_39 : decode cX4_changeCall 39 = .ok (.bastore, 1) := by decide +kernel
theorem dX4_changeCall_40 : decode cX4_changeCall 40 = .ok (.aload_n 0, 1) := by decide +kernel
theorem dX4_changeCall_41 : decode cX4_changeCall 41 = .ok (.invokevirtual 191, 3) := by decide +kernel
theorem dX4_changeCall_44 : decode cX4_changeCall 44 = .ok (.ireturn, 1) := by decide +kernel
theorem dX4_writePage_0 : decode cX4_writePage 0 = .ok (.iload_n 1, 1) := by decide +kernel
theorem dX4_writePage_1 : decode cX4_writePage 1 = .ok (.invokestatic 105, 3) := by decide +kernel
theorem dX4_writePage_4 : decode cX4_writePage 4 = .ok (.ifCond .ne 5, 3) := by decide +kernel
theorem dX4_writePage_7 : decode cX4_writePage 7 = .ok (.iconst (-1), 1) := by decide +kernel
theorem dX4_writePage_8 : decode cX4_writePage 8 = .ok (.ireturn, 1) := by decide +kernel
theorem dX4_writePage_9 : decode cX4_writePage 9 = .ok (.aload_n 0, 1) := by decide +kernel
theorem dX4_writePage_10 : decode cX4_writePage 10 = .ok (.invokevirtual 149, 3) := by decide +kernel
theorem dX4_writePage_13 : decode cX4_writePage 13 = .ok (.istore_n 2, 1) := by decide +kernel
theorem dX4_writePage_14 : decode cX4_writePage 14 = .ok (.iload_n 2, 1) := by decide +kernel
theorem dX4_writePage_15 : decode cX4_writePage 15 = .ok (.iconst (-1), 1) := by decide +kernel
theorem dX4_writePage_16 : decode cX4_writePage 16 = .ok (.if_icmp .ne 6, 3) := by decide +kernel
theorem dX4_writePage_19 : decode cX4_writePage 19 = .ok (.bipush (-3), 2) := by decide +kernel
theorem dX4_writePage_21 : decode cX4_writePage 21 = .ok (.ireturn, 1) := by decide +kernel
theorem dX4_writePage_22 : decode cX4_writePage 22 = .ok (.aload_n 0, 1) := by decide +kernel
theorem dX4_writePage_23 : decode cX4_writePage 23 = .ok (.iload_n 2, 1) := by decide +kernel
theorem dX4_writePage_24 : decode cX4_writePage 24 = .ok (.iload_n 1, 1) := by decide +kernel
theorem dX4_writePage_25 : decode cX4_writePage 25 = .ok (.invokevirtual 162, 3) := by decide +kernel
theorem dX4_writePage_28 : decode cX4_writePage 28 = .ok (.aload_n 0, 1) := by decide +kernel
theorem dX4_writePage_29 : decode cX4_writePage 29 = .ok (.invokevirtual 194, 3) := by decide +kernel
theorem dX4_writePage_32 : decode cX4_writePage 32 = .ok (.ifCond .ne 6, 3) := by decide +kernel
theorem dX4_writePage_35 : decode cX4_writePage 35 = .ok (.bipush (-3), 2) := by decide +kernel
theorem dX4_writePage_37 : decode cX4_writePage 37 = .ok (.ireturn, 1) := by decide +kernel
theorem dX4_writePage_38 : decode cX4_writePage 38 = .ok (.aload_n 0, 1) := by decide +kernel
theorem dX4_writePage_39 : decode cX4_writePage 39 = .ok (.getfield 49, 3) := by decide +kernel
theorem dX4_writePage_42 : decode cX4_writePage 42 = .ok (.iload_n 1, 1) := by decide +kernel
theorem dX4_writePage_43 : decode cX4_writePage 43 = .ok (.invokevirtual 197, 3) := by decide +kernel
theorem dX4_writePage_46 : decode cX4_writePage 46 = .ok (.aload_n 0, 1) := by decide +kernel
theorem dX4_writePage_47 : decode cX4_writePage 47 = .ok (.getfield 37, 3) := by decide +kernel
theorem dX4_writePage_50 : decode cX4_writePage 50 = .ok (.iload_n 1, 1) := by decide +kernel
theorem dX4_writePage_51 : decode cX4_writePage 51 = .ok (.iaload, 1) := by decide +kernel
theorem dX4_writePage_52 : decode cX4_writePage 52 = .ok (.ireturn, 1) := by decide +kernel
theorem dX4_readPage_0 : decode cX4_readPage 0 = .ok (.aload_n 0, 1) := by decide +kernel
theorem dX4_readPage_1 : decode cX4_readPage 1 = .ok (.iload_n 1, 1) := by decide +kernel
theorem dX4_readPage_2 : decode cX4_readPage 2 = .ok (.invokevirtual 200, 3) := by decide +kernel
theorem dX4_readPage_5 : decode cX4_readPage 5 = .ok (.ifCond .ne 5, 3) := by decide +kernel
theorem dX4_readPage_8 : decode cX4_readPage 8 = .ok (.iconst (-1), 1) := by decide +kernel
theorem dX4_readPage_9 : decode cX4_readPage 9 = .ok (.ireturn, 1) := by decide +kernel
theorem dX4_readPage_10 : decode cX4_readPage 10 = .ok (.iconst 0, 1) := by decide +kernel
theorem dX4_readPage_11 : decode cX4_readPage 11 = .ok (.istore_n 2, 1) := by decide +kernel
theorem dX4_readPage_12 : decode cX4_readPage 12 = .ok (.aload_n 0, 1) := by decide +kernel
theorem dX4_readPage_13 : decode cX4_readPage 13 = .ok (.getfield 49, 3) := by decide +kernel
theorem dX4_readPage_16 : decode cX4_readPage 16 = .ok (.iload_n 1, 1) := by decide +kernel
theorem dX4_readPage_17 : decode cX4_readPage 17 = .ok (.invokevirtual 203, 3) := by decide +kernel
theorem dX4_readPage_20 : decode cX4_readPage 20 = .ok (.iconst (-1), 1) := by decide +kernel
theorem dX4_readPage_21 : decode cX4_readPage 21 = .ok (.if_icmp .ne 74, 3) := by decide +kernel
theorem dX4_readPage_24 : decode cX4_readPage 24 = .ok (.iconst 1, 1) := by decide +kernel
theorem dX4_readPage_25 : decode cX4_readPage 25 = .ok (.istore_n 2, 1) := by decide +kernel
theorem dX4_readPage_26 : decode cX4_readPage 26 = .ok (.aload_n 0, 1) := by decide +kernel
theorem dX4_readPage_27 : decode cX4_readPage 27 = .ok (.aload_n 0, 1) := by decide +kernel
theorem dX4_readPage_28 : decode cX4_readPage 28 = .ok (.getfield 37, 3) := by decide +kernel
theorem dX4_readPage_31 : decode cX4_readPage 31 = .ok (.iload_n 1, 1) := by decide +kernel
theorem dX4_readPage_32 : decode cX4_readPage 32 = .ok (.iaload, 1) := by decide +kernel
theorem dX4_readPage_33 : decode cX4_readPage 33 = .ok (.invokevirtual 156, 3) := by decide +kernel
theorem dX4_readPage_36 : decode cX4_readPage 36 = .ok (.ifCond .ne 46, 3) := by decide +kernel
theorem dX4_readPage_39 : decode cX4_readPage 39 = .ok (.iconst 2, 1) := by decide +kernel
theorem dX4_readPage_40 : decode cX4_readPage 40 = .ok (.istore_n 2, 1) := by decide +kernel
theorem dX4_readPage_41 : decode cX4_readPage 41 = .ok (.aload_n 0, 1) := by decide +kernel
theorem dX4_readPage_42 : decode cX4_readPage 42 = .ok (.getfield 43, 3) := by decide +kernel
theorem dX4_readPage_45 : decode cX4_readPage 45 = .ok (.iconst 4, 1) := by decide +kernel
theorem dX4_readPage_46 : decode cX4_readPage 46 = .ok (.iaload, 1) := by decide +kernel
theorem dX4_readPage_47 : decode cX4_readPage 47 = .ok (.ifCond .eq 32, 3) := by decide +kernel
theorem dX4_readPage_50 : decode cX4_readPage 50 = .ok (.aload_n 0, 1) := by decide +kernel
theorem dX4_readPage_51 : decode cX4_readPage 51 = .ok (.aload_n 0, 1) := by decide +kernel
theorem dX4_readPage_52 : decode cX4_readPage 52 = .ok (.getfield 37, 3) := by decide +kernel
theorem dX4_readPage_55 : decode cX4_readPage 55 = .ok (.iload_n 1, 1) := by decide +kernel
theorem dX4_readPage_56 : decode cX4_readPage 56 = .ok (.iaload, 1) := by decide +kernel
theorem dX4_readPage_57 : decode cX4_readPage 57 = .ok (.bipush 8, 2) := by decide +kernel
theorem dX4_readPage_59 : decode cX4_readPage 59 = .ok (.idiv, 1) := by decide +kernel
theorem dX4_readPage_60 : decode cX4_readPage 60 = .ok (.invokevirtual 206, 3) := by decide +kernel
theorem dX4_readPage_63 : decode cX4_readPage 63 = .ok (.ifCond .lt 16, 3) := by decide +kernel
theorem dX4_readPage_66 : decode cX4_readPage 66 = .ok (.aload_n 0, 1) := by decide +kernel
theorem dX4_readPage_67 : decode cX4_readPage 67 = .ok (.aload_n 0, 1) := by decide +kernel
theorem dX4_readPage_68 : decode cX4_readPage 68 = .ok (.getfield 37, 3) := by decide +kernel
theorem dX4_readPage_71 : decode cX4_readPage 71 = .ok (.iload_n 1, 1) := by decide +kernel
theorem dX4_readPage_72 : decode cX4_readPage 72 = .ok (.iaload, 1) := by decide +kernel
theorem dX4_readPage_73 : decode cX4_readPage 73 = .ok (.invokevirtual 156, 3) := by decide +kernel
theorem dX4_readPage_76 : decode cX4_readPage 76 = .ok (.ifCond .ne 6, 3) := by decide +kernel
theorem dX4_readPage_79 : decode cX4_readPage 79 = .ok (.bipush (-4), 2) := by decide +kernel
theorem dX4_readPage_81 : decode cX4_readPage 81 = .ok (.ireturn, 1) := by decide +kernel
theorem dX4_readPage_82 : decode cX4_readPage 82 = .ok (.aload_n 0, 1) := by decide +kernel
theorem dX4_readPage_83 : decode cX4_readPage 83 = .ok (.aload_n 0, 1) := by decide +kernel
theorem dX4_readPage_84 : decode cX4_readPage 84 = .ok (.getfield 37, 3) := by decide +kernel
theorem dX4_readPage_87 : decode cX4_readPage 87 = .ok (.iload_n 1, 1) := by decide +kernel
theorem dX4_readPage_88 : decode cX4_readPage 88 = .ok (.iaload, 1) := by decide +kernel
theorem dX4_readPage_89 : decode cX4_readPage 89 = .ok (.invokevirtual 159, 3) := by decide +kernel
theorem dX4_readPage_92 : decode cX4_readPage 92 = .ok (.goto 13, 3) := by decide +kernel
theorem dX4_readPage_95 : decode cX4_readPage 95 = .ok (.aload_n 0, 1) := by decide +kernel
theorem dX4_readPage_96 : decode cX4_readPage 96 = .ok (.dup, 1) := by decide +kernel
theorem dX4_readPage_97 : decode cX4_readPage 97 = .ok (.getfield 70, 3) := by decide +kernel
theorem dX4_readPage_100 : decode cX4_readPage 100 = .ok (.iconst 1, 1) := by decide +kernel
theorem dX4_readPage_101 : decode cX4_readPage 101 = .ok (.iadd, 1) := by decide +kernel
theorem dX4_readPage_102 : decode cX4_readPage 102 = .ok (.putfield 70, 3) := by decide +kernel
theorem dX4_readPage_105 : decode cX4_readPage 105 = .ok (.aload_n 0, 1) := by decide +kernel
theorem dX4_readPage_106 : decode cX4_readPage 106 = .ok (.dup, 1) := by decide +kernel
theorem dX4_readPage_107 : decode cX4_readPage 107 = .ok (.getfield 67, 3) := by decide +kernel
theorem dX4_readPage_110 : decode cX4_readPage 110 = .ok (.iconst 1, 1) := by decide +kernel
theorem dX4_readPage_111 : decode cX4_readPage 111 = .ok (.iadd, 1) := by decide +kernel
theorem dX4_readPage_112 : decode cX4_readPage 112 = .ok (.putfield 67, 3) := by decide +kernel
theorem dX4_readPage_115 : decode cX4_readPage 115 = .ok (.aload_n 0, 1) := by decide +kernel
theorem dX4_readPage_116 : decode cX4_readPage 116 = .ok (.getfield 40, 3) := by decide +kernel
theorem dX4_readPage_119 : decode cX4_readPage 119 = .ok (.iload_n 1, 1) := by decide +kernel
theorem dX4_readPage_120 : decode cX4_readPage 120 = .ok (.dup2, 1) := by decide +kernel
theorem dX4_readPage_121 : decode cX4_readPage 121 = .ok (.iaload, 1) := by decide +kernel
theorem dX4_readPage_122 : decode cX4_readPage 122 = .ok (.iconst 1, 1) := by decide +kernel
theorem dX4_readPage_123 : decode cX4_readPage 123 = .ok (.iadd, 1) := by decide +kernel
theorem dX4_readPage_124 : decode cX4_readPage 124 = .ok (.iastore, 1) := by decide +kernel
theorem dX4_readPage_125 : decode cX4_readPage 125 = .ok (.aload_n 0, 1) := by decide +kernel
theorem dX4_readPage_126 : decode cX4_readPage 126 = .ok (.getfield 49, 3) := by decide +kernel
theorem dX4_readPage_129 : decode cX4_readPage 129 = .ok (.iload_n 1, 1) := by decide +kernel
theorem dX4_readPage_130 : decode cX4_readPage 130 = .ok (.aload_n 0, 1) := by decide +kernel
theorem dX4_readPage_131 : decode cX4_readPage 131 = .ok (.getfield 43, 3) := by decide +kernel
theorem dX4_readPage_134 : decode cX4_readPage 134 = .ok (.iconst 3, 1) := by decide +kernel
theorem dX4_readPage_135 : decode cX4_readPage 135 = .ok (.iaload, 1) := by decide +kernel
theorem dX4_readPage_136 : decode cX4_readPage 136 = .ok (.invokevirtual 209, 3) := by decide +kernel
theorem dX4_readPage_139 : decode cX4_readPage 139 = .ok (.iload_n 2, 1) := by decide +kernel
theorem dX4_readPage_140 : decode cX4_readPage 140 = .ok (.ireturn, 1) := by decide +kernel
theorem dX4_forgetPage_0 : decode cX4_forgetPage 0 = .ok (.aload_n 0, 1) := by decide +kernel
theorem dX4_forgetPage_1 : decode cX4_forgetPage 1 = .ok (.iload_n 1, 1) := by decide +kernel
theorem dX4_forgetPage_2 : decode cX4_forgetPage 2 = .ok (.invokevirtual 200, 3) := by decide +kernel
theorem dX4_forgetPage_5 : decode cX4_forgetPage 5 = .ok (.ifCond .ne 5, 3) := by decide +kernel
theorem dX4_forgetPage_8 : decode cX4_forgetPage 8 = .ok (.iconst (-1), 1) := by decide +kernel
theorem dX4_forgetPage_9 : decode cX4_forgetPage 9 = .ok (.ireturn, 1) := by decide +kernel
theorem dX4_forgetPage_10 : decode cX4_forgetPage 10 = .ok (.aload_n 0, 1) := by decide +kernel
theorem dX4_forgetPage_11 : decode cX4_forgetPage 11 = .ok (.iload_n 1, 1) := by decide +kernel
theorem dX4_forgetPage_12 : decode cX4_forgetPage 12 = .ok (.invokevirtual 145, 3) := by decide +kernel
theorem dX4_forgetPage_15 : decode cX4_forgetPage 15 = .ok (.aload_n 0, 1) := by decide +kernel
theorem dX4_forgetPage_16 : decode cX4_forgetPage 16 = .ok (.getfield 49, 3) := by decide +kernel
theorem dX4_forgetPage_19 : decode cX4_forgetPage 19 = .ok (.iload_n 1, 1) := by decide +kernel
theorem dX4_forgetPage_20 : decode cX4_forgetPage 20 = .ok (.invokevirtual 197, 3) := by decide +kernel
theorem dX4_forgetPage_23 : decode cX4_forgetPage 23 = .ok (.aload_n 0, 1) := by decide +kernel
theorem dX4_forgetPage_24 : decode cX4_forgetPage 24 = .ok (.invokevirtual 212, 3) := by decide +kernel
theorem dX4_forgetPage_27 : decode cX4_forgetPage 27 = .ok (.ireturn, 1) := by decide +kernel
theorem dX4_moveOnDemand_0 : decode cX4_moveOnDemand 0 = .ok (.iload_n 1, 1) := by decide +kernel
theorem dX4_moveOnDemand_1 : decode cX4_moveOnDemand 1 = .ok (.invokestatic 142, 3) := by decide +kernel
theorem dX4_moveOnDemand_4 : decode cX4_moveOnDemand 4 = .ok (.ifCond .ne 5, 3) := by decide +kernel
theorem dX4_moveOnDemand_7 : decode cX4_moveOnDemand 7 = .ok (.iconst (-1), 1) := by decide +kernel
theorem dX4_moveOnDemand_8 : decode cX4_moveOnDemand 8 = .ok (.ireturn, 1) := by decide +kernel
theorem dX4_moveOnDemand_9 : decode cX4_moveOnDemand 9 = .ok (.aload_n 0, 1) := by decide +kernel
theorem dX4_moveOnDemand_10 : decode cX4_moveOnDemand 10 = .ok (.iload_n 1, 1) := by decide +kernel
theorem dX4_moveOnDemand_11 : decode cX4_moveOnDemand 11 = .ok (.invokevirtual 101, 3) := by decide +kernel
theorem dX4_moveOnDemand_14 : decode cX4_moveOnDemand 14 = .ok (.ifCond .eq 6, 3) := by decide +kernel
theorem dX4_moveOnDemand_17 : decode cX4_moveOnDemand 17 = .ok (.bipush (-4), 2) := by decide +kernel
theorem dX4_moveOnDemand_19 : decode cX4_moveOnDemand 19 = .ok (.ireturn, 1) := by decide +kernel
theorem dX4_moveOnDemand_20 : decode cX4_moveOnDemand 20 = .ok (.aload_n 0, 1) := by decide +kernel
theorem dX4_moveOnDemand_21 : decode cX4_moveOnDemand 21 = .ok (.iload_n 1, 1) := by decide +kernel
theorem dX4_moveOnDemand_22 : decode cX4_moveOnDemand 22 = .ok (.invokevirtual 206, 3) := by decide +kernel
theorem dX4_moveOnDemand_25 : decode cX4_moveOnDemand 25 = .ok (.ireturn, 1) := by decide +kernel
theorem dX4_passTicks_0 : decode cX4_passTicks 0 = .ok (.iload_n 1, 1) := by decide +kernel
theorem dX4_passTicks_1 : decode cX4_passTicks 1 = .ok (.iconst 1, 1) := by decide +kernel
theorem dX4_passTicks_2 : decode cX4_passTicks 2 = .ok (.if_icmp .lt 9, 3) := by decide +kernel
theorem dX4_passTicks_5 : decode cX4_passTicks 5 = .ok (.iload_n 1, 1) := by decide +kernel
theorem dX4_passTicks_6 : decode cX4_passTicks 6 = .ok (.bipush 99, 2) := by decide +kernel
theorem dX4_passTicks_8 : decode cX4_passTicks 8 = .ok (.if_icmp .le 6, 3) := by decide +kernel
theorem dX4_passTicks_11 : decode cX4_passTicks 11 = .ok (.bipush (-2), 2) := by decide +kernel
theorem dX4_passTicks_13 : decode cX4_passTicks 13 = .ok (.ireturn, 1) := by decide +kernel
theorem dX4_passTicks_14 : decode cX4_passTicks 14 = .ok (.aload_n 0, 1) := by decide +kernel
theorem dX4_passTicks_15 : decode cX4_passTicks 15 = .ok (.getfield 64, 3) := by decide +kernel
theorem dX4_passTicks_18 : decode cX4_passTicks 18 = .ok (.iload_n 1, 1) := by decide +kernel
theorem dX4_passTicks_19 : decode cX4_passTicks 19 = .ok (.iadd, 1) := by decide +kernel
theorem dX4_passTicks_20 : decode cX4_passTicks 20 = .ok (.ldc 215, 2) := by decide +kernel
theorem dX4_passTicks_22 : decode cX4_passTicks 22 = .ok (.if_icmp .le 6, 3) := by decide +kernel
theorem dX4_passTicks_25 : decode cX4_passTicks 25 = .ok (.bipush (-4), 2) := by decide +kernel
theorem dX4_passTicks_27 : decode cX4_passTicks 27 = .ok (.ireturn, 1) := by decide +kernel
theorem dX4_passTicks_28 : decode cX4_passTicks 28 = .ok (.iconst 0, 1) := by decide +kernel
theorem dX4_passTicks_29 : decode cX4_passTicks 29 = .ok (.istore_n 2, 1) := by decide +kernel
theorem dX4_passTicks_30 : decode cX4_passTicks 30 = .ok (.iconst 0, 1) := by decide +kernel
theorem dX4_passTicks_31 : decode cX4_passTicks 31 = .ok (.istore_n 3, 1) := by decide +kernel
theorem dX4_passTicks_32 : decode cX4_passTicks 32 = .ok (.iload_n 3, 1) := by decide +kernel
theorem dX4_passTicks_33 : decode cX4_passTicks 33 = .ok (.iload_n 1, 1) := by decide +kernel
theorem dX4_passTicks_34 : decode cX4_passTicks 34 = .ok (.if_icmp .ge 16, 3) := by decide +kernel
theorem dX4_passTicks_37 : decode cX4_passTicks 37 = .ok (.iload_n 2, 1) := by decide +kernel
theorem dX4_passTicks_38 : decode cX4_passTicks 38 = .ok (.aload_n 0, 1) := by decide +kernel
theorem dX4_passTicks_39 : decode cX4_passTicks 39 = .ok (.invokevirtual 216, 3) := by decide +kernel
theorem dX4_passTicks_42 : decode cX4_passTicks 42 = .ok (.iadd, 1) := by decide +kernel
theorem dX4_passTicks_43 : decode cX4_passTicks 43 = .ok (.istore_n 2, 1) := by decide +kernel
theorem dX4_passTicks_44 : decode cX4_passTicks 44 = .ok (.iinc 3 1, 3) := by decide +kernel
theorem dX4_passTicks_47 : decode cX4_passTicks 47 = .ok (.goto (-15), 3) := by decide +kernel
theorem dX4_passTicks_50 : decode cX4_passTicks 50 = .ok (.iload_n 2, 1) := by decide +kernel
theorem dX4_passTicks_51 : decode cX4_passTicks 51 = .ok (.ireturn, 1) := by decide +kernel
theorem dX5_init_0 : decode cX5_init 0 = .ok (.aload_n 0, 1) := by decide +kernel
theorem dX5_init_1 : decode cX5_init 1 = .ok (.invokespecial 1, 3) := by decide +kernel
theorem dX5_init_4 : decode cX5_init 4 = .ok (.aload_n 0, 1) := by decide +kernel
theorem dX5_init_5 : decode cX5_init 5 = .ok (.new 7, 3) := by decide +kernel
theorem dX5_init_8 : decode cX5_init 8 = .ok (.dup, 1) := by decide +kernel
theorem dX5_init_9 : decode cX5_init 9 = .ok (.invokespecial 9, 3) := by decide +kernel
theorem dX5_init_12 : decode cX5_init 12 = .ok (.putfield 10, 3) := by decide +kernel
theorem dX5_init_15 : decode cX5_init 15 = .ok (.aload_n 0, 1) := by decide +kernel
theorem dX5_init_16 : decode cX5_init 16 = .ok (.new 7, 3) := by decide +kernel
theorem dX5_init_19 : decode cX5_init 19 = .ok (.dup, 1) := by decide +kernel
theorem dX5_init_20 : decode cX5_init 20 = .ok (.invokespecial 9, 3) := by decide +kernel
theorem dX5_init_23 : decode cX5_init 23 = .ok (.putfield 16, 3) := by decide +kernel
theorem dX5_init_26 : decode cX5_init 26 = .ok (.aload_n 0, 1) := by decide +kernel
theorem dX5_init_27 : decode cX5_init 27 = .ok (.new 7, 3) := by decide +kernel
theorem dX5_init_30 : decode cX5_init 30 = .ok (.dup, 1) := by decide +kernel
theorem dX5_init_31 : decode cX5_init 31 = .ok (.invokespecial 9, 3) := by decide +kernel
theorem dX5_init_34 : decode cX5_init 34 = .ok (.putfield 19, 3) := by decide +kernel
theorem dX5_init_37 : decode cX5_init 37 = .ok (.aload_n 0, 1) := by decide +kernel
theorem dX5_init_38 : decode cX5_init 38 = .ok (.new 7, 3) := by decide +kernel
theorem dX5_init_41 : decode cX5_init 41 = .ok (.dup, 1) := by decide +kernel
theorem dX5_init_42 : decode cX5_init 42 = .ok (.invokespecial 9, 3) := by decide +kernel
theorem dX5_init_45 : decode cX5_init 45 = .ok (.putfield 22, 3) := by decide +kernel
theorem dX5_init_48 : decode cX5_init 48 = .ok (.aload_n 0, 1) := by decide +kernel
theorem dX5_init_49 : decode cX5_init 49 = .ok (.iconst 0, 1) := by decide +kernel
theorem dX5_init_50 : decode cX5_init 50 = .ok (.putfield 25, 3) := by decide +kernel
theorem dX5_init_53 : decode cX5_init 53 = .ok (.aload_n 0, 1) := by decide +kernel
theorem dX5_init_54 : decode cX5_init 54 = .ok (.new 29, 3) := by decide +kernel
theorem dX5_init_57 : decode cX5_init 57 = .ok (.dup, 1) := by decide +kernel
theorem dX5_init_58 : decode cX5_init 58 = .ok (.invokespecial 31, 3) := by decide +kernel
theorem dX5_init_61 : decode cX5_init 61 = .ok (.putfield 32, 3) := by decide +kernel
theorem dX5_init_64 : decode cX5_init 64 = .ok (.aload_n 0, 1) := by decide +kernel
theorem dX5_init_65 : decode cX5_init 65 = .ok (.new 36, 3) := by decide +kernel
theorem dX5_init_68 : decode cX5_init 68 = .ok (.dup, 1) := by decide +kernel
theorem dX5_init_69 : decode cX5_init 69 = .ok (.invokespecial 38, 3) := by decide +kernel
theorem dX5_init_72 : decode cX5_init 72 = .ok (.putfield 39, 3) := by decide +kernel
theorem dX5_init_75 : decode cX5_init 75 = .ok (.aload_n 0, 1) := by decide +kernel
theorem dX5_init_76 : decode cX5_init 76 = .ok (.iconst 0, 1) := by decide +kernel
theorem dX5_init_77 : decode cX5_init 77 = .ok (.putfield 43, 3) := by decide +kernel
theorem dX5_init_80 : decode cX5_init 80 = .ok (.aload_n 0, 1) := by decide +kernel
theorem dX5_init_81 : decode cX5_init 81 = .ok (.iconst 0, 1) := by decide +kernel
theorem dX5_init_82 : decode cX5_init 82 = .ok (.putfield 46, 3) := by decide +kernel
theorem dX5_init_85 : decode cX5_init 85 = .ok (.aload_n 0, 1) := by decide +kernel
theorem dX5_init_86 : decode cX5_init 86 = .ok (.iconst 0, 1) := by decide +kernel
theorem dX5_init_87 : decode cX5_init 87 = .ok (.putfield 50, 3) := by decide +kernel
theorem dX5_init_90 : decode cX5_init 90 = .ok (.aload_n 0, 1) := by decide +kernel
theorem dX5_init_91 : decode cX5_init 91 = .ok (.iconst 0, 1) := by decide +kernel
theorem dX5_init_92 : decode cX5_init 92 = .ok (.putfield 53, 3) := by decide +kernel
theorem dX5_init_95 : decode cX5_init 95 = .ok (.return_, 1) := by decide +kernel
theorem dX5_set_0 : decode cX5_set 0 = .ok (.aload_n 0, 1) := by decide +kernel
theorem dX5_set_1 : decode cX5_set 1 = .ok (.getfield 16, 3) := by decide +kernel
theorem dX5_set_4 : decode cX5_set 4 = .ok (.aload_n 0, 1) := by decide +kernel
theorem dX5_set_5 : decode cX5_set 5 = .ok (.getfield 10, 3) := by decide +kernel
theorem dX5_set_8 : decode cX5_set 8 = .ok (.invokevirtual 56, 3) := by decide +kernel
theorem dX5_set_11 : decode cX5_set 11 = .ok (.aload_n 0, 1) := by decide +kernel
theorem dX5_set_12 : decode cX5_set 12 = .ok (.aload_n 0, 1) := by decide +kernel
theorem dX5_set_13 : decode cX5_set 13 = .ok (.getfield 10, 3) := by decide +kernel
theorem dX5_set_16 : decode cX5_set 16 = .ok (.iload_n 1, 1) := by decide +kernel
theorem dX5_set_17 : decode cX5_set 17 = .ok (.iload_n 2, 1) := by decide +kernel
theorem dX5_set_18 : decode cX5_set 18 = .ok (.invokevirtual 60, 3) := by decide +kernel
theorem dX5_set_21 : decode cX5_set 21 = .ok (.invokevirtual 64, 3) := by decide +kernel
theorem dX5_set_24 : decode cX5_set 24 = .ok (.ireturn, 1) := by decide +kernel
theorem dX5_setKind_0 : decode cX5_setKind 0 = .ok (.aload_n 0, 1) := by decide +kernel
theorem dX5_setKind_1 : decode cX5_setKind 1 = .ok (.getfield 16, 3) := by decide +kernel
theorem dX5_setKind_4 : decode cX5_setKind 4 = .ok (.aload_n 0, 1) := by decide +kernel
theorem dX5_setKind_5 : decode cX5_setKind 5 = .ok (.getfield 10, 3) := by decide +kernel
theorem dX5_setKind_8 : decode cX5_setKind 8 = .ok (.invokevirtual 56, 3) := by decide +kernel
theorem dX5_setKind_11 : decode cX5_setKind 11 = .ok (.aload_n 0, 1) := by decide +kernel
theorem dX5_setKind_12 : decode cX5_setKind 12 = .ok (.aload_n 0, 1) := by decide +kernel
theorem dX5_setKind_13 : decode cX5_setKind 13 = .ok (.getfield 10, 3) := by decide +kernel
theorem dX5_setKind_16 : decode cX5_setKind 16 = .ok (.iload_n 1, 1) := by decide +kernel
theorem dX5_setKind_17 : decode cX5_setKind 17 = .ok (.iload_n 2, 1) := by decide +kernel
theorem dX5_setKind_18 : decode cX5_setKind 18 = .ok (.invokevirtual 68, 3) := by decide +kernel
theorem dX5_setKind_21 : decode cX5_setKind 21 = .ok (.invokevirtual 64, 3) := by decide +kernel
theorem dX5_setKind_24 : decode cX5_setKind 24 = .ok (.ireturn, 1) := by decide +kernel
theorem dX5_mark_0 : decode cX5_mark 0 = .ok (.aload_n 0, 1) := by decide +kernel
theorem dX5_mark_1 : decode cX5_mark 1 = .ok (.getfield 16, 3) := by decide +kernel
theorem dX5_mark_4 : decode cX5_mark 4 = .ok (.aload_n 0, 1) := by decide +kernel
theorem dX5_mark_5 : decode cX5_mark 5 = .ok (.getfield 10, 3) := by decide +kernel
theorem dX5_mark_8 : decode cX5_mark 8 = .ok (.invokevirtual 56, 3) := by decide +kernel
theorem dX5_mark_11 : decode cX5_mark 11 = .ok (.aload_n 0, 1) := by decide +kernel
theorem dX5_mark_12 : decode cX5_mark 12 = .ok (.aload_n 0, 1) := by decide +kernel
theorem dX5_mark_13 : decode cX5_mark 13 = .ok (.getfield 10, 3) := by decide +kernel
theorem dX5_mark_16 : decode cX5_mark 16 = .ok (.iload_n 1, 1) := by decide +kernel
theorem dX5_mark_17 : decode cX5_mark 17 = .ok (.iload_n 2, 1) := by decide +kernel
theorem dX5_mark_18 : decode cX5_mark 18 = .ok (.invokevirtual 71, 3) := by decide +kernel
theorem dX5_mark_21 : decode cX5_mark 21 = .ok (.invokevirtual 64, 3) := by decide +kernel
theorem dX5_mark_24 : decode cX5_mark 24 = .ok (.ireturn, 1) := by decide +kernel
theorem dX5_write_0 : decode cX5_write 0 = .ok (.aload_n 0, 1) := by decide +kernel
theorem dX5_write_1 : decode cX5_write 1 = .ok (.getfield 16, 3) := by decide +kernel
theorem dX5_write_4 : decode cX5_write 4 = .ok (.aload_n 0, 1) := by decide +kernel
theorem dX5_write_5 : decode cX5_write 5 = .ok (.getfield 10, 3) := by decide +kernel
theorem dX5_write_8 : decode cX5_write 8 = .ok (.invokevirtual 56, 3) := by decide +kernel
theorem dX5_write_11 : decode cX5_write 11 = .ok (.aload_n 0, 1) := by decide +kernel
theorem dX5_write_12 : decode cX5_write 12 = .ok (.aload_n 0, 1) := by decide +kernel
theorem dX5_write_13 : decode cX5_write 13 = .ok (.getfield 10, 3) := by decide +kernel
theorem dX5_write_16 : decode cX5_write 16 = .ok (.iload_n 1, 1) := by decide +kernel
theorem dX5_write_17 : decode cX5_write 17 = .ok (.invokevirtual 75, 3) := by decide +kernel
theorem dX5_write_20 : decode cX5_write 20 = .ok (.invokevirtual 64, 3) := by decide +kernel
theorem dX5_write_23 : decode cX5_write 23 = .ok (.ireturn, 1) := by decide +kernel
theorem dX5_read_0 : decode cX5_read 0 = .ok (.aload_n 0, 1) := by decide +kernel
theorem dX5_read_1 : decode cX5_read 1 = .ok (.getfield 16, 3) := by decide +kernel
theorem dX5_read_4 : decode cX5_read 4 = .ok (.aload_n 0, 1) := by decide +kernel
theorem dX5_read_5 : decode cX5_read 5 = .ok (.getfield 10, 3) := by decide +kernel
theorem dX5_read_8 : decode cX5_read 8 = .ok (.invokevirtual 56, 3) := by decide +kernel
theorem dX5_read_11 : decode cX5_read 11 = .ok (.aload_n 0, 1) := by decide +kernel
theorem dX5_read_12 : decode cX5_read 12 = .ok (.aload_n 0, 1) := by decide +kernel
theorem dX5_read_13 : decode cX5_read 13 = .ok (.getfield 10, 3) := by decide +kernel
theorem dX5_read_16 : decode cX5_read 16 = .ok (.iload_n 1, 1) := by decide +kernel
theorem dX5_read_17 : decode cX5_read 17 = .ok (.invokevirtual 78, 3) := by decide +kernel
theorem dX5_read_20 : decode cX5_read 20 = .ok (.invokevirtual 64, 3) := by decide +kernel
theorem dX5_read_23 : decode cX5_read 23 = .ok (.ireturn, 1) := by decide +kernel
theorem dX5_forget_0 : decode cX5_forget 0 = .ok (.aload_n 0, 1) := by decide +kernel
theorem dX5_forget_1 : decode cX5_forget 1 = .ok (.getfield 16, 3) := by decide +kernel
theorem dX5_forget_4 : decode cX5_forget 4 = .ok (.aload_n 0, 1) := by decide +kernel
theorem dX5_forget_5 : decode cX5_forget 5 = .ok (.getfield 10, 3) := by decide +kernel
theorem dX5_forget_8 : decode cX5_forget 8 = .ok (.invokevirtual 56, 3) := by decide +kernel
theorem dX5_forget_11 : decode cX5_forget 11 = .ok (.aload_n 0, 1) := by decide +kernel
theorem dX5_forget_12 : decode cX5_forget 12 = .ok (.aload_n 0, 1) := by decide +kernel
theorem dX5_forget_13 : decode cX5_forget 13 = .ok (.getfield 10, 3) := by decide +kernel
theorem dX5_forget_16 : decode cX5_forget 16 = .ok (.iload_n 1, 1) := by decide +kernel
theorem dX5_forget_17 : decode cX5_forget 17 = .ok (.invokevirtual 81, 3) := by decide +kernel
theorem dX5_forget_20 : decode cX5_forget 20 = .ok (.invokevirtual 64, 3) := by decide +kernel
theorem dX5_forget_23 : decode cX5_forget 23 = .ok (.ireturn, 1) := by decide +kernel
theorem dX5_moveBlock_0 : decode cX5_moveBlock 0 = .ok (.aload_n 0, 1) := by decide +kernel
theorem dX5_moveBlock_1 : decode cX5_moveBlock 1 = .ok (.getfield 16, 3) := by decide +kernel
theorem dX5_moveBlock_4 : decode cX5_moveBlock 4 = .ok (.aload_n 0, 1) := by decide +kernel
theorem dX5_moveBlock_5 : decode cX5_moveBlock 5 = .ok (.getfield 10, 3) := by decide +kernel
theorem dX5_moveBlock_8 : decode cX5_moveBlock 8 = .ok (.invokevirtual 56, 3) := by decide +kernel
theorem dX5_moveBlock_11 : decode cX5_moveBlock 11 = .ok (.aload_n 0, 1) := by decide +kernel
theorem dX5_moveBlock_12 : decode cX5_moveBlock 12 = .ok (.aload_n 0, 1) := by decide +kernel
theorem dX5_moveBlock_13 : decode cX5_moveBlock 13 = .ok (.getfield 10, 3) := by decide +kernel
theorem dX5_moveBlock_16 : decode cX5_moveBlock 16 = .ok (.iload_n 1, 1) := by decide +kernel
theorem dX5_moveBlock_17 : decode cX5_moveBlock 17 = .ok (.invokevirtual 84, 3) := by decide +kernel
theorem dX5_moveBlock_20 : decode cX5_moveBlock 20 = .ok (.invokevirtual 64, 3) := by decide +kernel
theorem dX5_moveBlock_23 : decode cX5_moveBlock 23 = .ok (.ireturn, 1) := by decide +kernel
theorem dX5_pass_0 : decode cX5_pass 0 = .ok (.aload_n 0, 1) := by decide +kernel
theorem dX5_pass_1 : decode cX5_pass 1 = .ok (.getfield 16, 3) := by decide +kernel
theorem dX5_pass_4 : decode cX5_pass 4 = .ok (.aload_n 0, 1) := by decide +kernel
theorem dX5_pass_5 : decode cX5_pass 5 = .ok (.getfield 10, 3) := by decide +kernel
theorem dX5_pass_8 : decode cX5_pass 8 = .ok (.invokevirtual 56, 3) := by decide +kernel
theorem dX5_pass_11 : decode cX5_pass 11 = .ok (.aload_n 0, 1) := by decide +kernel
theorem dX5_pass_12 : decode cX5_pass 12 = .ok (.aload_n 0, 1) := by decide +kernel
theorem dX5_pass_13 : decode cX5_pass 13 = .ok (.getfield 10, 3) := by decide +kernel
theorem dX5_pass_16 : decode cX5_pass 16 = .ok (.iload_n 1, 1) := by decide +kernel
theorem dX5_pass_17 : decode cX5_pass 17 = .ok (.invokevirtual 87, 3) := by decide +kernel
theorem dX5_pass_20 : decode cX5_pass 20 = .ok (.invokevirtual 64, 3) := by decide +kernel
theorem dX5_pass_23 : decode cX5_pass 23 = .ok (.ireturn, 1) := by decide +kernel
theorem dX5_settle_0 : decode cX5_settle 0 = .ok (.iload_n 1, 1) := by decide +kernel
theorem dX5_settle_1 : decode cX5_settle 1 = .ok (.ifCond .ge 17, 3) := by decide +kernel
theorem dX5_settle_4 : decode cX5_settle 4 = .ok (.aload_n 0, 1) := by decide +kernel
theorem dX5_settle_5 : decode cX5_settle 5 = .ok (.getfield 10, 3) := by decide +kernel
theorem dX5_settle_8 : decode cX5_settle 8 = .ok (.aload_n 0, 1) := by decide +kernel
theorem dX5_settle_9 : decode cX5_settle 9 = .ok (.getfield 16, 3) := by decide +kernel
theorem dX5_settle_12 : decode cX5_settle 12 = .ok (.invokevirtual 56, 3) := by decide +kernel
theorem dX5_settle_15 : decode cX5_settle 15 = .ok (.goto 14, 3) := by decide +kernel
theorem dX5_settle_18 : decode cX5_settle 18 = .ok (.aload_n 0, 1) := by decide +kernel
theorem dX5_settle_19 : decode cX5_settle 19 = .ok (.getfield 32, 3) := by decide +kernel
theorem dX5_settle_22 : decode cX5_settle 22 = .ok (.aload_n 0, 1) := by decide +kernel
theorem dX5_settle_23 : decode cX5_settle 23 = .ok (.getfield 16, 3) := by decide +kernel
theorem dX5_settle_26 : decode cX5_settle 26 = .ok (.invokevirtual 90, 3) := by decide +kernel
theorem dX5_settle_29 : decode cX5_settle 29 = .ok (.iload_n 1, 1) := by decide +kernel
theorem dX5_settle_30 : decode cX5_settle 30 = .ok (.ireturn, 1) := by decide +kernel
theorem dX5_type_0 : decode cX5_type 0 = .ok (.aload_n 0, 1) := by decide +kernel
theorem dX5_type_1 : decode cX5_type 1 = .ok (.getfield 39, 3) := by decide +kernel
theorem dX5_type_4 : decode cX5_type 4 = .ok (.iload_n 1, 1) := by decide +kernel
theorem dX5_type_5 : decode cX5_type 5 = .ok (.invokevirtual 93, 3) := by decide +kernel
theorem dX5_type_8 : decode cX5_type 8 = .ok (.ireturn, 1) := by decide +kernel
theorem dX5_clearText_0 : decode cX5_clearText 0 = .ok (.aload_n 0, 1) := by decide +kernel
theorem dX5_clearText_1 : decode cX5_clearText 1 = .ok (.getfield 39, 3) := by decide +kernel
theorem dX5_clearText_4 : decode cX5_clearText 4 = .ok (.invokevirtual 97, 3) := by decide +kernel
theorem dX5_clearText_7 : decode cX5_clearText 7 = .ok (.ireturn, 1) := by decide +kernel
theorem dX5_perform_0 : decode cX5_perform 0 = .ok (.aload_n 0, 1) := by decide +kernel
theorem dX5_perform_1 : decode cX5_perform 1 = .ok (.getfield 39, 3) := by decide +kernel
theorem dX5_perform_4 : decode cX5_perform 4 = .ok (.invokevirtual 101, 3) := by decide +kernel
theorem dX5_perform_7 : decode cX5_perform 7 = .ok (.istore_n 1, 1) := by decide +kernel
theorem dX5_perform_8 : decode cX5_perform 8 = .ok (.iload_n 1, 1) := by decide +kernel
theorem dX5_perform_9 : decode cX5_perform 9 = .ok (.iconst (-1), 1) := by decide +kernel
theorem dX5_perform_10 : decode cX5_perform 10 = .ok (.if_icmp .eq 8, 3) := by decide +kernel
theorem dX5_perform_13 : decode cX5_perform 13 = .ok (.bipush (-100), 2) := by decide +kernel
theorem dX5_perform_15 : decode cX5_perform 15 = .ok (.iload_n 1, 1) := by decide +kernel
theorem dX5_perform_16 : decode cX5_perform 16 = .ok (.isub, 1) := by decide +kernel
theorem dX5_perform_17 : decode cX5_perform 17 = .ok (.ireturn, 1) := by decide +kernel
theorem dX5_perform_18 : decode cX5_perform 18 = .ok (.aload_n 0, 1) := by decide +kernel
theorem dX5_perform_19 : decode cX5_perform 19 = .ok (.getfield 16, 3) := by decide +kernel
theorem dX5_perform_22 : decode cX5_perform 22 = .ok (.aload_n 0, 1) := by decide +kernel
theorem dX5_perform_23 : decode cX5_perform 23 = .ok (.getfield 10, 3) := by decide +kernel
theorem dX5_perform_26 : decode cX5_perform 26 = .ok (.invokevirtual 56, 3) := by decide +kernel
theorem dX5_perform_29 : decode cX5_perform 29 = .ok (.iconst 0, 1) := by decide +kernel
theorem dX5_perform_30 : decode cX5_perform 30 = .ok (.istore_n 2, 1) := by decide +kernel
theorem dX5_perform_31 : decode cX5_perform 31 = .ok (.iload_n 2, 1) := by decide +kernel
theorem dX5_perform_32 : decode cX5_perform 32 = .ok (.aload_n 0, 1) := by decide +kernel
theorem dX5_perform_33 : decode cX5_perform 33 = .ok (.getfield 39, 3) := by decide +kernel
theorem dX5_perform_36 : decode cX5_perform 36 = .ok (.getfield 104, 3) := by decide +kernel
theorem dX5_perform_39 : decode cX5_perform 39 = .ok (.if_icmp .ge 61, 3) := by decide +kernel
theorem dX5_perform_42 : decode cX5_perform 42 = .ok (.aload_n 0, 1) := by decide +kernel
theorem dX5_perform_43 : decode cX5_perform 43 = .ok (.getfield 39, 3) := by decide +kernel
theorem dX5_perform_46 : decode cX5_perform 46 = .ok (.iload_n 2, 1) := by decide +kernel
theorem dX5_perform_47 : decode cX5_perform 47 = .ok (.invokevirtual 107, 3) := by decide +kernel
theorem dX5_perform_50 : decode cX5_perform 50 = .ok (.istore_n 3, 1) := by decide +kernel
theorem dX5_perform_51 : decode cX5_perform 51 = .ok (.iconst 0, 1) := by decide +kernel
theorem dX5_perform_52 : decode cX5_perform 52 = .ok (.istore 4, 2) := by decide +kernel
theorem dX5_perform_54 : decode cX5_perform 54 = .ok (.iload 4, 2) := by decide +kernel
theorem dX5_perform_56 : decode cX5_perform 56 = .ok (.iload_n 3, 1) := by decide +kernel
theorem dX5_perform_57 : decode cX5_perform 57 = .ok (.if_icmp .ge 37, 3) := by decide +kernel
theorem dX5_perform_60 : decode cX5_perform 60 = .ok (.aload_n 0, 1) := by decide +kernel
theorem dX5_perform_61 : decode cX5_perform 61 = .ok (.iload_n 2, 1) := by decide +kernel
theorem dX5_perform_62 : decode cX5_perform 62 = .ok (.invokevirtual 110, 3) := by decide +kernel
theorem dX5_perform_65 : decode cX5_perform 65 = .ok (.istore 5, 2) := by decide +kernel
theorem dX5_perform_67 : decode cX5_perform 67 = .ok (.iload 5, 2) := by decide +kernel
theorem dX5_perform_69 : decode cX5_perform 69 = .ok (.ifCond .ge 19, 3) := by decide +kernel
theorem dX5_perform_72 : decode cX5_perform 72 = .ok (.aload_n 0, 1) := by decide +kernel
theorem dX5_perform_73 : decode cX5_perform 73 = .ok (.iload_n 2, 1) := by decide +kernel
theorem dX5_perform_74 : decode cX5_perform 74 = .ok (.iload 5, 2) := by decide +kernel
theorem dX5_perform_76 : decode cX5_perform 76 = .ok (.iload 4, 2) := by decide +kernel
theorem dX5_perform_78 : decode cX5_perform 78 = .ok (.invokevirtual 113, 3) := by decide +kernel
theorem dX5_perform_81 : decode cX5_perform 81 = .ok (.aload_n 0, 1) := by decide +kernel
theorem dX5_perform_82 : decode cX5_perform 82 = .ok (.bipush (-4), 2) := by decide +kernel
theorem dX5_perform_84 : decode cX5_perform 84 = .ok (.invokevirtual 64, 3) := by decide +kernel
theorem dX5_perform_87 : decode cX5_perform 87 = .ok (.ireturn, 1) := by decide +kernel
theorem dX5_perform_88 : decode cX5_perform 88 = .ok (.iinc 4 1, 3) := by decide +kernel
theorem dX5_perform_91 : decode cX5_perform 91 = .ok (.goto (-37), 3) := by decide +kernel
theorem dX5_perform_94 : decode cX5_perform 94 = .ok (.iinc 2 1, 3) := by decide +kernel
theorem dX5_perform_97 : decode cX5_perform 97 = .ok (.goto (-66), 3) := by decide +kernel
theorem dX5_perform_100 : decode cX5_perform 100 = .ok (.aload_n 0, 1) := by decide +kernel
theorem dX5_perform_101 : decode cX5_perform 101 = .ok (.aload_n 0, 1) := by decide +kernel
theorem dX5_perform_102 : decode cX5_perform 102 = .ok (.getfield 39, 3) := by decide +kernel
theorem dX5_perform_105 : decode cX5_perform 105 = .ok (.getfield 104, 3) := by decide +kernel
theorem dX5_perform_108 : decode cX5_perform 108 = .ok (.invokevirtual 64, 3) := by decide +kernel
theorem dX5_perform_111 : decode cX5_perform 111 = .ok (.ireturn, 1) := by decide +kernel
theorem dX5_performOnce_0 : decode cX5_performOnce 0 = .ok (.aload_n 0, 1) := by decide +kernel
theorem dX5_performOnce_1 : decode cX5_performOnce 1 = .ok (.getfield 39, 3) := by decide +kernel
theorem dX5_performOnce_4 : decode cX5_performOnce 4 = .ok (.iload_n 1, 1) := by decide +kernel
theorem dX5_performOnce_5 : decode cX5_performOnce 5 = .ok (.invokevirtual 117, 3) := by decide +kernel
theorem dX5_performOnce_8 : decode cX5_performOnce 8 = .ok (.istore_n 2, 1) := by decide +kernel
theorem dX5_performOnce_9 : decode cX5_performOnce 9 = .ok (.aload_n 0, 1) := by decide +kernel
theorem dX5_performOnce_10 : decode cX5_performOnce 10 = .ok (.getfield 39, 3) := by decide +kernel
theorem dX5_performOnce_13 : decode cX5_performOnce 13 = .ok (.iload_n 1, 1) := by decide +kernel
theorem dX5_performOnce_14 : decode cX5_performOnce 14 = .ok (.invokevirtual 121, 3) := by decide +kernel
theorem dX5_performOnce_17 : decode cX5_performOnce 17 = .ok (.istore_n 3, 1) := by decide +kernel
theorem dX5_performOnce_18 : decode cX5_performOnce 18 = .ok (.iload_n 2, 1) := by decide +kernel
theorem dX5_performOnce_19 : decode cX5_performOnce 19 = .ok (.bipush 114, 2) := by decide +kernel
theorem dX5_performOnce_21 : decode cX5_performOnce 21 = .ok (.if_icmp .ne 12, 3) := by decide +kernel
theorem dX5_performOnce_24 : decode cX5_performOnce 24 = .ok (.aload_n 0, 1) := by decide +kernel
theorem dX5_performOnce_25 : decode cX5_performOnce 25 = .ok (.getfield 10, 3) := by decide +kernel
theorem dX5_performOnce_28 : decode cX5_performOnce 28 = .ok (.iload_n 3, 1) := by decide +kernel
theorem dX5_performOnce_29 : decode cX5_performOnce 29 = .ok (.invokevirtual 78, 3) := by decide +kernel
theorem dX5_performOnce_32 : decode cX5_performOnce 32 = .ok (.ireturn, 1) := by decide +kernel
theorem dX5_performOnce_33 : decode cX5_performOnce 33 = .ok (.iload_n 2, 1) := by decide +kernel
theorem dX5_performOnce_34 : decode cX5_performOnce 34 = .ok (.bipush 119, 2) := by decide +kernel
theorem dX5_performOnce_36 : decode cX5_performOnce 36 = .ok (.if_icmp .ne 12, 3) := by decide +kernel
theorem dX5_performOnce_39 : decode cX5_performOnce 39 = .ok (.aload_n 0, 1) := by decide +kernel
theorem dX5_performOnce_40 : decode cX5_performOnce 40 = .ok (.getfield 10, 3) := by decide +kernel
theorem dX5_performOnce_43 : decode cX5_performOnce 43 = .ok (.iload_n 3, 1) := by decide +kernel
theorem dX5_performOnce_44 : decode cX5_performOnce 44 = .ok (.invokevirtual 75, 3) := by decide +kernel
theorem dX5_performOnce_47 : decode cX5_performOnce 47 = .ok (.ireturn, 1) := by decide +kernel
theorem dX5_performOnce_48 : decode cX5_performOnce 48 = .ok (.aload_n 0, 1) := by decide +kernel
theorem dX5_performOnce_49 : decode cX5_performOnce 49 = .ok (.getfield 10, 3) := by decide +kernel
theorem dX5_performOnce_52 : decode cX5_performOnce 52 = .ok (.iload_n 3, 1) := by decide +kernel
theorem dX5_performOnce_53 : decode cX5_performOnce 53 = .ok (.invokevirtual 87, 3) := by decide +kernel
theorem dX5_performOnce_56 : decode cX5_performOnce 56 = .ok (.ireturn, 1) := by decide +kernel
theorem dX5_noteRefusal_0 : decode cX5_noteRefusal 0 = .ok (.aload_n 0, 1) := by decide +kernel
theorem dX5_noteRefusal_1 : decode cX5_noteRefusal 1 = .ok (.iconst 1, 1) := by decide +kernel
theorem dX5_noteRefusal_2 : decode cX5_noteRefusal 2 = .ok (.putfield 43, 3) := by decide +kernel
theorem dX5_noteRefusal_5 : decode cX5_noteRefusal 5 = .ok (.aload_n 0, 1) := by decide +kernel
theorem dX5_noteRefusal_6 : decode cX5_noteRefusal 6 = .ok (.iload_n 1, 1) := by decide +kernel
theorem dX5_noteRefusal_7 : decode cX5_noteRefusal 7 = .ok (.putfield 46, 3) := by decide +kernel
theorem dX5_noteRefusal_10 : decode cX5_noteRefusal 10 = .ok (.aload_n 0, 1) := by decide +kernel
theorem dX5_noteRefusal_11 : decode cX5_noteRefusal 11 = .ok (.iload_n 2, 1) := by decide +kernel
theorem dX5_noteRefusal_12 : decode cX5_noteRefusal 12 = .ok (.putfield 50, 3) := by decide +kernel
theorem dX5_noteRefusal_15 : decode cX5_noteRefusal 15 = .ok (.aload_n 0, 1) := by decide +kernel
theorem dX5_noteRefusal_16 : decode cX5_noteRefusal 16 = .ok (.iload_n 3, 1) := by decide +kernel
theorem dX5_noteRefusal_17 : decode cX5_noteRefusal 17 = .ok (.putfield 53, 3) := by decide +kernel
theorem dX5_noteRefusal_20 : decode cX5_noteRefusal 20 = .ok (.return_, 1) := by decide +kernel
theorem dX5_refusal_0 : decode cX5_refusal 0 = .ok (.iload_n 1, 1) := by decide +kernel
theorem dX5_refusal_1 : decode cX5_refusal 1 = .ok (.ifCond .lt 8, 3) := by decide +kernel
theorem dX5_refusal_4 : decode cX5_refusal 4 = .ok (.iload_n 1, 1) := by decide +kernel
theorem dX5_refusal_5 : decode cX5_refusal 5 = .ok (.iconst 2, 1) := by decide +kernel
theorem dX5_refusal_6 : decode cX5_refusal 6 = .ok (.if_icmp .le 6, 3) := by decide +kernel
theorem dX5_refusal_9 : decode cX5_refusal 9 = .ok (.bipush (-2), 2) := by decide +kernel
theorem dX5_refusal_11 : decode cX5_refusal 11 = .ok (.ireturn, 1) := by decide +kernel
theorem dX5_refusal_12 : decode cX5_refusal 12 = .ok (.aload_n 0, 1) := by decide +kernel
theorem dX5_refusal_13 : decode cX5_refusal 13 = .ok (.getfield 43, 3) := by decide +kernel
theorem dX5_refusal_16 : decode cX5_refusal 16 = .ok (.ifCond .ne 6, 3) := by decide +kernel
theorem dX5_refusal_19 : decode cX5_refusal 19 = .ok (.bipush (-5), 2) := by decide +kernel
theorem dX5_refusal_21 : decode cX5_refusal 21 = .ok (.ireturn, 1) := by decide +kernel
theorem dX5_refusal_22 : decode cX5_refusal 22 = .ok (.iload_n 1, 1) := by decide +kernel
theorem dX5_refusal_23 : decode cX5_refusal 23 = .ok (.lookupswitch 35 #[(0, 25), (1, 30)], 25) := by decide +kernel
theorem dX5_refusal_48 : decode cX5_refusal 48 = .ok (.aload_n 0, 1) := by decide +kernel
theorem dX5_refusal_49 : decode cX5_refusal 49 = .ok (.getfield 46, 3) := by decide +kernel
theorem dX5_refusal_52 : decode cX5_refusal 52 = .ok (.ireturn, 1) := by decide +kernel
theorem dX5_refusal_53 : decode cX5_refusal 53 = .ok (.aload_n 0, 1) := by decide +kernel
theorem dX5_refusal_54 : decode cX5_refusal 54 = .ok (.getfield 50, 3) := by decide +kernel
theorem dX5_refusal_57 : decode cX5_refusal 57 = .ok (.ireturn, 1) := by decide +kernel
theorem dX5_refusal_58 : decode cX5_refusal 58 = .ok (.aload_n 0, 1) := by decide +kernel
theorem dX5_refusal_59 : decode cX5_refusal 59 = .ok (.getfield 53, 3) := by decide +kernel
theorem dX5_refusal_62 : decode cX5_refusal 62 = .ok (.ireturn, 1) := by decide +kernel
theorem dX5_undo_0 : decode cX5_undo 0 = .ok (.aload_n 0, 1) := by decide +kernel
theorem dX5_undo_1 : decode cX5_undo 1 = .ok (.getfield 32, 3) := by decide +kernel
theorem dX5_undo_4 : decode cX5_undo 4 = .ok (.getfield 124, 3) := by decide +kernel
theorem dX5_undo_7 : decode cX5_undo 7 = .ok (.ifCond .ne 6, 3) := by decide +kernel
theorem dX5_undo_10 : decode cX5_undo 10 = .ok (.bipush (-5), 2) := by decide +kernel
theorem dX5_undo_12 : decode cX5_undo 12 = .ok (.ireturn, 1) := by decide +kernel
theorem dX5_undo_13 : decode cX5_undo 13 = .ok (.aload_n 0, 1) := by decide +kernel
theorem dX5_undo_14 : decode cX5_undo 14 = .ok (.getfield 32, 3) := by decide +kernel
theorem dX5_undo_17 : decode cX5_undo 17 = .ok (.aload_n 0, 1) := by decide +kernel
theorem dX5_undo_18 : decode cX5_undo 18 = .ok (.getfield 10, 3) := by decide +kernel
theorem dX5_undo_21 : decode cX5_undo 21 = .ok (.invokevirtual 127, 3) := by decide +kernel
theorem dX5_undo_24 : decode cX5_undo 24 = .ok (.aload_n 0, 1) := by decide +kernel
theorem dX5_undo_25 : decode cX5_undo 25 = .ok (.getfield 32, 3) := by decide +kernel
theorem dX5_undo_28 : decode cX5_undo 28 = .ok (.getfield 124, 3) := by decide +kernel
theorem dX5_undo_31 : decode cX5_undo 31 = .ok (.ireturn, 1) := by decide +kernel
theorem dX5_keep_0 : decode cX5_keep 0 = .ok (.aload_n 0, 1) := by decide +kernel
theorem dX5_keep_1 : decode cX5_keep 1 = .ok (.getfield 22, 3) := by decide +kernel
theorem dX5_keep_4 : decode cX5_keep 4 = .ok (.aload_n 0, 1) := by decide +kernel
theorem dX5_keep_5 : decode cX5_keep 5 = .ok (.getfield 10, 3) := by decide +kernel
theorem dX5_keep_8 : decode cX5_keep 8 = .ok (.invokevirtual 56, 3) := by decide +kernel
theorem dX5_keep_11 : decode cX5_keep 11 = .ok (.aload_n 0, 1) := by decide +kernel
theorem dX5_keep_12 : decode cX5_keep 12 = .ok (.iconst 1, 1) := by decide +kernel
theorem dX5_keep_13 : decode cX5_keep 13 = .ok (.putfield 25, 3) := by decide +kernel
theorem dX5_keep_16 : decode cX5_keep 16 = .ok (.aload_n 0, 1) := by decide +kernel
theorem dX5_keep_17 : decode cX5_keep 17 = .ok (.getfield 10, 3) := by decide +kernel
theorem dX5_keep_20 : decode cX5_keep 20 = .ok (.getfield 130, 3) := by decide +kernel
theorem dX5_keep_23 : decode cX5_keep 23 = .ok (.ireturn, 1) := by decide +kernel
theorem dX5_restore_0 : decode cX5_restore 0 = .ok (.aload_n 0, 1) := by decide +kernel
theorem dX5_restore_1 : decode cX5_restore 1 = .ok (.getfield 25, 3) := by decide +kernel
theorem dX5_restore_4 : decode cX5_restore 4 = .ok (.ifCond .ne 6, 3) := by decide +kernel
theorem dX5_restore_7 : decode cX5_restore 7 = .ok (.bipush (-5), 2) := by decide +kernel
theorem dX5_restore_9 : decode cX5_restore 9 = .ok (.ireturn, 1) := by decide +kernel
theorem dX5_restore_10 : decode cX5_restore 10 = .ok (.aload_n 0, 1) := by decide +kernel
theorem dX5_restore_11 : decode cX5_restore 11 = .ok (.getfield 32, 3) := by decide +kernel
theorem dX5_restore_14 : decode cX5_restore 14 = .ok (.aload_n 0, 1) := by decide +kernel
theorem dX5_restore_15 : decode cX5_restore 15 = .ok (.getfield 10, 3) := by decide +kernel
theorem dX5_restore_18 : decode cX5_restore 18 = .ok (.invokevirtual 90, 3) := by decide +kernel
theorem dX5_restore_21 : decode cX5_restore 21 = .ok (.aload_n 0, 1) := by decide +kernel
theorem dX5_restore_22 : decode cX5_restore 22 = .ok (.getfield 10, 3) := by decide +kernel
theorem dX5_restore_25 : decode cX5_restore 25 = .ok (.aload_n 0, 1) := by decide +kernel
theorem dX5_restore_26 : decode cX5_restore 26 = .ok (.getfield 22, 3) := by decide +kernel
theorem dX5_restore_29 : decode cX5_restore 29 = .ok (.invokevirtual 56, 3) := by decide +kernel
theorem dX5_restore_32 : decode cX5_restore 32 = .ok (.aload_n 0, 1) := by decide +kernel
theorem dX5_restore_33 : decode cX5_restore 33 = .ok (.getfield 10, 3) := by decide +kernel
theorem dX5_restore_36 : decode cX5_restore 36 = .ok (.getfield 130, 3) := by decide +kernel
theorem dX5_restore_39 : decode cX5_restore 39 = .ok (.ireturn, 1) := by decide +kernel
theorem dX5_page_0 : decode cX5_page 0 = .ok (.iload_n 1, 1) := by decide +kernel
theorem dX5_page_1 : decode cX5_page 1 = .ok (.invokestatic 133, 3) := by decide +kernel
theorem dX5_page_4 : decode cX5_page 4 = .ok (.ifCond .ne 5, 3) := by decide +kernel
theorem dX5_page_7 : decode cX5_page 7 = .ok (.iconst (-1), 1) := by decide +kernel
theorem dX5_page_8 : decode cX5_page 8 = .ok (.ireturn, 1) := by decide +kernel
theorem dX5_page_9 : decode cX5_page 9 = .ok (.iload_n 2, 1) := by decide +kernel
theorem dX5_page_10 : decode cX5_page 10 = .ok (.ifCond .lt 8, 3) := by decide +kernel
theorem dX5_page_13 : decode cX5_page 13 = .ok (.iload_n 2, 1) := by decide +kernel
theorem dX5_page_14 : decode cX5_page 14 = .ok (.iconst 5, 1) := by decide +kernel
theorem dX5_page_15 : decode cX5_page 15 = .ok (.if_icmp .le 6, 3) := by decide +kernel
theorem dX5_page_18 : decode cX5_page 18 = .ok (.bipush (-2), 2) := by decide +kernel
theorem dX5_page_20 : decode cX5_page 20 = .ok (.ireturn, 1) := by decide +kernel
theorem dX5_page_21 : decode cX5_page 21 = .ok (.iload_n 2, 1) := by decide +kernel
theorem dX5_page_22 : decode cX5_page 22 = .ok (.iconst 4, 1) := by decide +kernel
theorem dX5_page_23 : decode cX5_page 23 = .ok (.if_icmp .ne 27, 3) := by decide +kernel
theorem dX5_page_26 : decode cX5_page 26 = .ok (.aload_n 0, 1) := by decide +kernel
theorem dX5_page_27 : decode cX5_page 27 = .ok (.getfield 10, 3) := by decide +kernel
theorem dX5_page_30 : decode cX5_page 30 = .ok (.getfield 137, 3) := by decide +kernel
theorem dX5_page_33 : decode cX5_page 33 = .ok (.iload_n 1, 1) := by decide +kernel
theorem dX5_page_34 : decode cX5_page 34 = .ok (.invokevirtual 141, 3) := by decide +kernel
theorem dX5_page_37 : decode cX5_page 37 = .ok (.istore_n 3, 1) := by decide +kernel
theorem dX5_page_38 : decode cX5_page 38 = .ok (.iload_n 3, 1) := by decide +kernel
theorem dX5_page_39 : decode cX5_page 39 = .ok (.iconst (-1), 1) := by decide +kernel
theorem dX5_page_40 : decode cX5_page 40 = .ok (.if_icmp .ne 8, 3) := by decide +kernel
theorem dX5_page_43 : decode cX5_page 43 = .ok (.bipush (-5), 2) := by decide +kernel
theorem dX5_page_45 : decode cX5_page 45 = .ok (.goto 4, 3) := by decide +kernel
theorem dX5_page_48 : decode cX5_page 48 = .ok (.iload_n 3, 1) := by decide +kernel
theorem dX5_page_49 : decode cX5_page 49 = .ok (.ireturn, 1) := by decide +kernel
theorem dX5_page_50 : decode cX5_page 50 = .ok (.iload_n 2, 1) := by decide +kernel
theorem dX5_page_51 : decode cX5_page 51 = .ok (.iconst 5, 1) := by decide +kernel
theorem dX5_page_52 : decode cX5_page 52 = .ok (.if_icmp .ne 13, 3) := by decide +kernel
theorem dX5_page_55 : decode cX5_page 55 = .ok (.aload_n 0, 1) := by decide +kernel
theorem dX5_page_56 : decode cX5_page 56 = .ok (.getfield 10, 3) := by decide +kernel
theorem dX5_page_59 : decode cX5_page 59 = .ok (.getfield 146, 3) := by decide +kernel
theorem dX5_page_62 : decode cX5_page 62 = .ok (.iload_n 1, 1) := by decide +kernel
theorem dX5_page_63 : decode cX5_page 63 = .ok (.iaload, 1) := by decide +kernel
theorem dX5_page_64 : decode cX5_page 64 = .ok (.ireturn, 1) := by decide +kernel
theorem dX5_page_65 : decode cX5_page 65 = .ok (.aload_n 0, 1) := by decide +kernel
theorem dX5_page_66 : decode cX5_page 66 = .ok (.getfield 10, 3) := by decide +kernel
theorem dX5_page_69 : decode cX5_page 69 = .ok (.iload_n 1, 1) := by decide +kernel
theorem dX5_page_70 : decode cX5_page 70 = .ok (.invokevirtual 150, 3) := by decide +kernel
theorem dX5_page_73 : decode cX5_page 73 = .ok (.ifCond .ne 6, 3) := by decide +kernel
theorem dX5_page_76 : decode cX5_page 76 = .ok (.bipush (-5), 2) := by decide +kernel
theorem dX5_page_78 : decode cX5_page 78 = .ok (.ireturn, 1) := by decide +kernel
theorem dX5_page_79 : decode cX5_page 79 = .ok (.aload_n 0, 1) := by decide +kernel
theorem dX5_page_80 : decode cX5_page 80 = .ok (.getfield 10, 3) := by decide +kernel
theorem dX5_page_83 : decode cX5_page 83 = .ok (.getfield 153, 3) := by decide +kernel
theorem dX5_page_86 : decode cX5_page 86 = .ok (.iload_n 1, 1) := by decide +kernel
theorem dX5_page_87 : decode cX5_page 87 = .ok (.iaload, 1) := by decide +kernel
theorem dX5_page_88 : decode cX5_page 88 = .ok (.istore_n 3, 1) := by decide +kernel
theorem dX5_page_89 : decode cX5_page 89 = .ok (.iload_n 2, 1) := by decide +kernel
theorem dX5_page_90 : decode cX5_page 90 = .ok (.tableswitch 56 0 2 #[26, 28, 38], 26) := by decide +kernel
theorem dX5_page_116 : decode cX5_page 116 = .ok (.iload_n 3, 1) := by decide +kernel
theorem dX5_page_117 : decode cX5_page 117 = .ok (.ireturn, 1) := by decide +kernel
theorem dX5_page_118 : decode cX5_page 118 = .ok (.aload_n 0, 1) := by decide +kernel
theorem dX5_page_119 : decode cX5_page 119 = .ok (.getfield 10, 3) := by decide +kernel
theorem dX5_page_122 : decode cX5_page 122 = .ok (.getfield 156, 3) := by decide +kernel
theorem dX5_page_125 : decode cX5_page 125 = .ok (.iload_n 3, 1) := by decide +kernel
theorem dX5_page_126 : decode cX5_page 126 = .ok (.iaload, 1) := by decide +kernel
theorem dX5_page_127 : decode cX5_page 127 = .ok (.ireturn, 1) := by decide +kernel
theorem dX5_page_128 : decode cX5_page 128 = .ok (.aload_n 0, 1) := by decide +kernel
theorem dX5_page_129 : decode cX5_page 129 = .ok (.getfield 10, 3) := by decide +kernel
theorem dX5_page_132 : decode cX5_page 132 = .ok (.getfield 130, 3) := by decide +kernel
theorem dX5_page_135 : decode cX5_page 135 = .ok (.aload_n 0, 1) := by decide +kernel
theorem dX5_page_136 : decode cX5_page 136 = .ok (.getfield 10, 3) := by decide +kernel
theorem dX5_page_139 : decode cX5_page 139 = .ok (.getfield 159, 3) := by decide +kernel
theorem dX5_page_142 : decode cX5_page 142 = .ok (.iload_n 3, 1) := by decide +kernel
theorem dX5_page_143 : decode cX5_page 143 = .ok (.iaload, 1) := by decide +kernel
theorem dX5_page_144 : decode cX5_page 144 = .ok (.isub, 1) := by decide +kernel
theorem dX5_page_145 : decode cX5_page 145 = .ok (.ireturn, 1) := by decide +kernel
theorem dX5_page_146 : decode cX5_page 146 = .ok (.aload_n 0, 1) := by decide +kernel
theorem dX5_page_147 : decode cX5_page 147 = .ok (.getfield 10, 3) := by decide +kernel
theorem dX5_page_150 : decode cX5_page 150 = .ok (.iload_n 3, 1) := by decide +kernel
theorem dX5_page_151 : decode cX5_page 151 = .ok (.invokevirtual 162, 3) := by decide +kernel
theorem dX5_page_154 : decode cX5_page 154 = .ok (.ireturn, 1) := by decide +kernel
theorem dX5_block_0 : decode cX5_block 0 = .ok (.iload_n 1, 1) := by decide +kernel
theorem dX5_block_1 : decode cX5_block 1 = .ok (.invokestatic 165, 3) := by decide +kernel
theorem dX5_block_4 : decode cX5_block 4 = .ok (.ifCond .ne 5, 3) := by decide +kernel
theorem dX5_block_7 : decode cX5_block 7 = .ok (.iconst (-1), 1) := by decide +kernel
theorem dX5_block_8 : decode cX5_block 8 = .ok (.ireturn, 1) := by decide +kernel
theorem dX5_block_9 : decode cX5_block 9 = .ok (.iload_n 2, 1) := by decide +kernel
theorem dX5_block_10 : decode cX5_block 10 = .ok (.tableswitch 182 0 9 #[54, 64, 74, 83, 92, 111, 120, 137, 154, 164], 54) := by decide +kernel
theorem dX5_block_64 : decode cX5_block 64 = .ok (.aload_n 0, 1) := by decide +kernel
theorem dX5_block_65 : decode cX5_block 65 = .ok (.getfield 10, 3) := by decide +kernel
theorem dX5_block_68 : decode cX5_block 68 = .ok (.getfield 168, 3) := by decide +kernel
theorem dX5_block_71 : decode cX5_block 71 = .ok (.iload_n 1, 1) := by decide +kernel
theorem dX5_block_72 : decode cX5_block 72 = .ok (.iaload, 1) := by decide +kernel
theorem dX5_block_73 : decode cX5_block 73 = .ok (.ireturn, 1) := by decide +kernel
theorem dX5_block_74 : decode cX5_block 74 = .ok (.aload_n 0, 1) := by decide +kernel
theorem dX5_block_75 : decode cX5_block 75 = .ok (.getfield 10, 3) := by decide +kernel
theorem dX5_block_78 : decode cX5_block 78 = .ok (.getfield 171, 3) := by decide +kernel
theorem dX5_block_81 : decode cX5_block 81 = .ok (.iload_n 1, 1) := by decide +kernel
theorem dX5_block_82 : decode cX5_block 82 = .ok (.iaload, 1) := by decide +kernel
theorem dX5_block_83 : decode cX5_block 83 = .ok (.ireturn, 1) := by decide +kernel
theorem dX5_block_84 : decode cX5_block 84 = .ok (.aload_n 0, 1) := by decide +kernel
theorem dX5_block_85 : decode cX5_block 85 = .ok (.getfield 10, 3) := by decide +kernel
theorem dX5_block_88 : decode cX5_block 88 = .ok (.iload_n 1, 1) := by decide +kernel
theorem dX5_block_89 : decode cX5_block 89 = .ok (.invokevirtual 174, 3) := by decide +kernel
theorem dX5_block_92 : decode cX5_block 92 = .ok (.ireturn, 1) := by decide +kernel
theorem dX5_block_93 : decode cX5_block 93 = .ok (.aload_n 0, 1) := by decide +kernel
theorem dX5_block_94 : decode cX5_block 94 = .ok (.getfield 10, 3) := by decide +kernel
theorem dX5_block_97 : decode cX5_block 97 = .ok (.iload_n 1, 1) := by decide +kernel
theorem dX5_block_98 : decode cX5_block 98 = .ok (.invokevirtual 177, 3) := by decide +kernel
theorem dX5_block_101 : decode cX5_block 101 = .ok (.ireturn, 1) := by decide +kernel
theorem dX5_block_102 : decode cX5_block 102 = .ok (.aload_n 0, 1) := by decide +kernel
theorem dX5_block_103 : decode cX5_block 103 = .ok (.getfield 10, 3) := by decide +kernel
theorem dX5_block_106 : decode cX5_block 106 = .ok (.getfield 180, 3) := by decide +kernel
theorem dX5_block_109 : decode cX5_block 109 = .ok (.iload_n 1, 1) := by decide +kernel
theorem dX5_block_110 : decode cX5_block 110 = .ok (.iaload, 1) := by decide +kernel
theorem dX5_block_111 : decode cX5_block 111 = .ok (.aload_n 0, 1) := by decide +kernel
theorem dX5_block_112 : decode cX5_block 112 = .ok (.getfield 10, 3) := by decide +kernel
theorem dX5_block_115 : decode cX5_block 115 = .ok (.iload_n 1, 1) := by decide +kernel
theorem dX5_block_116 : decode cX5_block 116 = .ok (.invokevirtual 177, 3) := by decide +kernel
theorem dX5_block_119 : decode cX5_block 119 = .ok (.isub, 1) := by decide +kernel
theorem dX5_block_120 : decode cX5_block 120 = .ok (.ireturn, 1) := by decide +kernel
theorem dX5_block_121 : decode cX5_block 121 = .ok (.aload_n 0, 1) := by decide +kernel
theorem dX5_block_122 : decode cX5_block 122 = .ok (.getfield 10, 3) := by decide +kernel
theorem dX5_block_125 : decode cX5_block 125 = .ok (.iload_n 1, 1) := by decide +kernel
theorem dX5_block_126 : decode cX5_block 126 = .ok (.invokevirtual 183, 3) := by decide +kernel
theorem dX5_block_129 : decode cX5_block 129 = .ok (.ireturn, 1) := by decide +kernel
theorem dX5_block_130 : decode cX5_block 130 = .ok (.aload_n 0, 1) := by decide +kernel
theorem dX5_block_131 : decode cX5_block 131 = .ok (.getfield 10, 3) := by decide +kernel
theorem dX5_block_134 : decode cX5_block 134 = .ok (.iload_n 1, 1) := by decide +kernel
theorem dX5_block_135 : decode cX5_block 135 = .ok (.invokevirtual 186, 3) := by decide +kernel
theorem dX5_block_138 : decode cX5_block 138 = .ok (.ifCond .eq 7, 3) := by decide +kernel
theorem dX5_block_141 : decode cX5_block 141 = .ok (.iconst 1, 1) := by decide +kernel
theorem dX5_block_142 : decode cX5_block 142 = .ok (.goto 4, 3) := by decide +kernel
theorem dX5_block_145 : decode cX5_block 145 = .ok (.iconst 0, 1) := by decide +kernel
theorem dX5_block_146 : decode cX5_block 146 = .ok (.ireturn, 1) := by decide +kernel
theorem dX5_block_147 : decode cX5_block 147 = .ok (.aload_n 0, 1) := by decide +kernel
theorem dX5_block_148 : decode cX5_block 148 = .ok (.getfield 10, 3) := by decide +kernel
theorem dX5_block_151 : decode cX5_block 151 = .ok (.iload_n 1, 1) := by decide +kernel
theorem dX5_block_152 : decode cX5_block 152 = .ok (.invokevirtual 189, 3) := by decide +kernel
theorem dX5_block_155 : decode cX5_block 155 = .ok (.ifCond .eq 7, 3) := by decide +kernel
theorem dX5_block_158 : decode cX5_block 158 = .ok (.iconst 1, 1) := by decide +kernel
theorem dX5_block_159 : decode cX5_block 159 = .ok (.goto 4, 3) := by decide +kernel
theorem dX5_block_162 : decode cX5_block 162 = .ok (.iconst 0, 1) := by decide +kernel
theorem dX5_block_163 : decode cX5_block 163 = .ok (.ireturn, 1) := by decide +kernel
theorem dX5_block_164 : decode cX5_block 164 = .ok (.aload_n 0, 1) := by decide +kernel
theorem dX5_block_165 : decode cX5_block 165 = .ok (.getfield 10, 3) := by decide +kernel
theorem dX5_block_168 : decode cX5_block 168 = .ok (.getfield 192, 3) := by decide +kernel
theorem dX5_block_171 : decode cX5_block 171 = .ok (.iload_n 1, 1) := by decide +kernel
theorem dX5_block_172 : decode cX5_block 172 = .ok (.iaload, 1) := by decide +kernel
theorem dX5_block_173 : decode cX5_block 173 = .ok (.ireturn, 1) := by decide +kernel
theorem dX5_block_174 : decode cX5_block 174 = .ok (.aload_n 0, 1) := by decide +kernel
theorem dX5_block_175 : decode cX5_block 175 = .ok (.getfield 10, 3) := by decide +kernel
theorem dX5_block_178 : decode cX5_block 178 = .ok (.getfield 195, 3) := by decide +kernel
theorem dX5_block_181 : decode cX5_block 181 = .ok (.iload_n 1, 1) := by decide +kernel
theorem dX5_block_182 : decode cX5_block 182 = .ok (.baload, 1) := by decide +kernel
theorem dX5_block_183 : decode cX5_block 183 = .ok (.ifCond .eq 7, 3) := by decide +kernel
theorem dX5_block_186 : decode cX5_block 186 = .ok (.iconst 1, 1) := by decide +kernel
theorem dX5_block_187 : decode cX5_block 187 = .ok (.goto 4, 3) := by decide +kernel
theorem dX5_block_190 : decode cX5_block 190 = .ok (.iconst 0, 1) := by decide +kernel
theorem dX5_block_191 : decode cX5_block 191 = .ok (.ireturn, 1) := by decide +kernel
theorem dX5_block_192 : decode cX5_block 192 = .ok (.bipush (-2), 2) := by decide +kernel
theorem dX5_block_194 : decode cX5_block 194 = .ok (.ireturn, 1) := by decide +kernel
theorem dX5_place_0 : decode cX5_place 0 = .ok (.iload_n 1, 1) := by decide +kernel
theorem dX5_place_1 : decode cX5_place 1 = .ok (.invokestatic 165, 3) := by decide +kernel
theorem dX5_place_4 : decode cX5_place 4 = .ok (.ifCond .eq 13, 3) := by decide +kernel
theorem dX5_place_7 : decode cX5_place 7 = .ok (.iload_n 2, 1) := by decide +kernel
theorem dX5_place_8 : decode cX5_place 8 = .ok (.ifCond .lt 9, 3) := by decide +kernel
theorem dX5_place_11 : decode cX5_place 11 = .ok (.iload_n 2, 1) := by decide +kernel
theorem dX5_place_12 : decode cX5_place 12 = .ok (.bipush 8, 2) := by decide +kernel
theorem dX5_place_14 : decode cX5_place 14 = .ok (.if_icmp .lt 5, 3) := by decide +kernel
theorem dX5_place_17 : decode cX5_place 17 = .ok (.iconst (-1), 1) := by decide +kernel
theorem dX5_place_18 : decode cX5_place 18 = .ok (.ireturn, 1) := by decide +kernel
theorem dX5_place_19 : decode cX5_place 19 = .ok (.iload_n 1, 1) := by decide +kernel
theorem dX5_place_20 : decode cX5_place 20 = .ok (.bipush 8, 2) := by decide +kernel
theorem dX5_place_22 : decode cX5_place 22 = .ok (.imul, 1) := by decide +kernel
theorem dX5_place_23 : decode cX5_place 23 = .ok (.iload_n 2, 1) := by decide +kernel
theorem dX5_place_24 : decode cX5_place 24 = .ok (.iadd, 1) := by decide +kernel
theorem dX5_place_25 : decode cX5_place 25 = .ok (.istore 4, 2) := by decide +kernel
theorem dX5_place_27 : decode cX5_place 27 = .ok (.aload_n 0, 1) := by decide +kernel
theorem dX5_place_28 : decode cX5_place 28 = .ok (.getfield 10, 3) := by decide +kernel
theorem dX5_place_31 : decode cX5_place 31 = .ok (.getfield 199, 3) := by decide +kernel
theorem dX5_place_34 : decode cX5_place 34 = .ok (.iload 4, 2) := by decide +kernel
theorem dX5_place_36 : decode cX5_place 36 = .ok (.iaload, 1) := by decide +kernel
theorem dX5_place_37 : decode cX5_place 37 = .ok (.istore 5, 2) := by decide +kernel
theorem dX5_place_39 : decode cX5_place 39 = .ok (.iload_n 3, 1) := by decide +kernel
theorem dX5_place_40 : decode cX5_place 40 = .ok (.tableswitch 80 0 2 #[28, 44, 69], 28) := by decide +kernel
theorem dX5_place_68 : decode cX5_place 68 = .ok (.iload 5, 2) := by decide +kernel
theorem dX5_place_70 : decode cX5_place 70 = .ok (.invokestatic 133, 3) := by decide +kernel
theorem dX5_place_73 : decode cX5_place 73 = .ok (.ifCond .eq 8, 3) := by decide +kernel
theorem dX5_place_76 : decode cX5_place 76 = .ok (.iload 5, 2) := by decide +kernel
theorem dX5_place_78 : decode cX5_place 78 = .ok (.goto 5, 3) := by decide +kernel
theorem dX5_place_81 : decode cX5_place 81 = .ok (.bipush (-5), 2) := by decide +kernel
theorem dX5_place_83 : decode cX5_place 83 = .ok (.ireturn, 1) := by decide +kernel
theorem dX5_place_84 : decode cX5_place 84 = .ok (.iload 5, 2) := by decide +kernel
theorem dX5_place_86 : decode cX5_place 86 = .ok (.invokestatic 133, 3) := by decide +kernel
theorem dX5_place_89 : decode cX5_place 89 = .ok (.ifCond .eq 7, 3) := by decide +kernel
theorem dX5_place_92 : decode cX5_place 92 = .ok (.iconst 1, 1) := by decide +kernel
theorem dX5_place_93 : decode cX5_place 93 = .ok (.goto 15, 3) := by decide +kernel
theorem dX5_place_96 : decode cX5_place 96 = .ok (.iload 5, 2) := by decide +kernel
theorem dX5_place_98 : decode cX5_place 98 = .ok (.bipush (-2), 2) := by decide +kernel
theorem dX5_place_100 : decode cX5_place 100 = .ok (.if_icmp .ne 7, 3) := by decide +kernel
theorem dX5_place_103 : decode cX5_place 103 = .ok (.iconst 2, 1) := by decide +kernel
theorem dX5_place_104 : decode cX5_place 104 = .ok (.goto 4, 3) := by decide +kernel
theorem dX5_place_107 : decode cX5_place 107 = .ok (.iconst 0, 1) := by decide +kernel
theorem dX5_place_108 : decode cX5_place 108 = .ok (.ireturn, 1) := by decide +kernel
theorem dX5_place_109 : decode cX5_place 109 = .ok (.aload_n 0, 1) := by decide +kernel
theorem dX5_place_110 : decode cX5_place 110 = .ok (.getfield 10, 3) := by decide +kernel
theorem dX5_place_113 : decode cX5_place 113 = .ok (.getfield 156, 3) := by decide +kernel
theorem dX5_place_116 : decode cX5_place 116 = .ok (.iload 4, 2) := by decide +kernel
theorem dX5_place_118 : decode cX5_place 118 = .ok (.iaload, 1) := by decide +kernel
theorem dX5_place_119 : decode cX5_place 119 = .ok (.ireturn, 1) := by decide +kernel
theorem dX5_place_120 : decode cX5_place 120 = .ok (.bipush (-2), 2) := by decide +kernel
theorem dX5_place_122 : decode cX5_place 122 = .ok (.ireturn, 1) := by decide +kernel
theorem dX5_marked_0 : decode cX5_marked 0 = .ok (.iload_n 1, 1) := by decide +kernel
theorem dX5_marked_1 : decode cX5_marked 1 = .ok (.ifCond .ge 6, 3) := by decide +kernel
theorem dX5_marked_4 : decode cX5_marked 4 = .ok (.bipush (-2), 2) := by decide +kernel
theorem dX5_marked_6 : decode cX5_marked 6 = .ok (.ireturn, 1) := by decide +kernel
theorem dX5_marked_7 : decode cX5_marked 7 = .ok (.iconst 0, 1) := by decide +kernel
theorem dX5_marked_8 : decode cX5_marked 8 = .ok (.istore_n 2, 1) := by decide +kernel
theorem dX5_marked_9 : decode cX5_marked 9 = .ok (.iload_n 2, 1) := by decide +kernel
theorem dX5_marked_10 : decode cX5_marked 10 = .ok (.bipush 6, 2) := by decide +kernel
theorem dX5_marked_12 : decode cX5_marked 12 = .ok (.if_icmp .ge 34, 3) := by decide +kernel
theorem dX5_marked_15 : decode cX5_marked 15 = .ok (.aload_n 0, 1) := by decide +kernel
theorem dX5_marked_16 : decode cX5_marked 16 = .ok (.getfield 10, 3) := by decide +kernel
theorem dX5_marked_19 : decode cX5_marked 19 = .ok (.iload_n 2, 1) := by decide +kernel
theorem dX5_marked_20 : decode cX5_marked 20 = .ok (.invokevirtual 186, 3) := by decide +kernel
theorem dX5_marked_23 : decode cX5_marked 23 = .ok (.ifCond .eq 17, 3) := by decide +kernel
theorem dX5_marked_26 : decode cX5_marked 26 = .ok (.aload_n 0, 1) := by decide +kernel
theorem dX5_marked_27 : decode cX5_marked 27 = .ok (.getfield 10, 3) := by decide +kernel
theorem dX5_marked_30 : decode cX5_marked 30 = .ok (.iload_n 2, 1) := by decide +kernel
theorem dX5_marked_31 : decode cX5_marked 31 = .ok (.invokevirtual 202, 3) := by decide +kernel
theorem dX5_marked_34 : decode cX5_marked 34 = .ok (.iload_n 1, 1) := by decide +kernel
theorem dX5_marked_35 : decode cX5_marked 35 = .ok (.if_icmp .ne 5, 3) := by decide +kernel
theorem dX5_marked_38 : decode cX5_marked 38 = .ok (.iload_n 2, 1) := by decide +kernel
theorem dX5_marked_39 : decode cX5_marked 39 = .ok (.ireturn, 1) := by decide +kernel
theorem dX5_marked_40 : decode cX5_marked 40 = .ok (.iinc 2 1, 3) := by decide +kernel
theorem dX5_marked_43 : decode cX5_marked 43 = .ok (.goto (-34), 3) := by decide +kernel
theorem dX5_marked_46 : decode cX5_marked 46 = .ok (.bipush (-5), 2) := by decide +kernel
theorem dX5_marked_48 : decode cX5_marked 48 = .ok (.ireturn, 1) := by decide +kernel
theorem dX5_quietIn_0 : decode cX5_quietIn 0 = .ok (.aload_n 0, 1) := by decide +kernel
theorem dX5_quietIn_1 : decode cX5_quietIn 1 = .ok (.getfield 19, 3) := by decide +kernel
theorem dX5_quietIn_4 : decode cX5_quietIn 4 = .ok (.aload_n 0, 1) := by decide +kernel
theorem dX5_quietIn_5 : decode cX5_quietIn 5 = .ok (.getfield 10, 3) := by decide +kernel
theorem dX5_quietIn_8 : decode cX5_quietIn 8 = .ok (.invokevirtual 56, 3) := by decide +kernel
theorem dX5_quietIn_11 : decode cX5_quietIn 11 = .ok (.iconst 0, 1) := by decide +kernel
theorem dX5_quietIn_12 : decode cX5_quietIn 12 = .ok (.istore_n 1, 1) := by decide +kernel
theorem dX5_quietIn_13 : decode cX5_quietIn 13 = .ok (.iload_n 1, 1) := by decide +kernel
theorem dX5_quietIn_14 : decode cX5_quietIn 14 = .ok (.sipush 300, 3) := by decide +kernel
theorem dX5_quietIn_17 : decode cX5_quietIn 17 = .ok (.if_icmp .gt 29, 3) := by decide +kernel
theorem dX5_quietIn_20 : decode cX5_quietIn 20 = .ok (.aload_n 0, 1) := by decide +kernel
theorem dX5_quietIn_21 : decode cX5_quietIn 21 = .ok (.getfield 19, 3) := by decide +kernel
theorem dX5_quietIn_24 : decode cX5_quietIn 24 = .ok (.invokevirtual 205, 3) := by decide +kernel
theorem dX5_quietIn_27 : decode cX5_quietIn 27 = .ok (.ifCond .ne 5, 3) := by decide +kernel
theorem dX5_quietIn_30 : decode cX5_quietIn 30 = .ok (.iload_n 1, 1) := by decide +kernel
theorem dX5_quietIn_31 : decode cX5_quietIn 31 = .ok (.ireturn, 1) := by decide +kernel
theorem dX5_quietIn_32 : decode cX5_quietIn 32 = .ok (.aload_n 0, 1) := by decide +kernel
theorem dX5_quietIn_33 : decode cX5_quietIn 33 = .ok (.getfield 19, 3) := by decide +kernel
theorem dX5_quietIn_36 : decode cX5_quietIn 36 = .ok (.invokevirtual 208, 3) := by decide +kernel
theorem dX5_quietIn_39 : decode cX5_quietIn 39 = .ok (.pop, 1) := by decide +kernel
theorem dX5_quietIn_40 : decode cX5_quietIn 40 = .ok (.iinc 1 1, 3) := by decide +kernel
theorem dX5_quietIn_43 : decode cX5_quietIn 43 = .ok (.goto (-30), 3) := by decide +kernel
theorem dX5_quietIn_46 : decode cX5_quietIn 46 = .ok (.bipush (-5), 2) := by decide +kernel
theorem dX5_quietIn_48 : decode cX5_quietIn 48 = .ok (.ireturn, 1) := by decide +kernel
theorem dX5_erasure_0 : decode cX5_erasure 0 = .ok (.iload_n 1, 1) := by decide +kernel
theorem dX5_erasure_1 : decode cX5_erasure 1 = .ok (.ifCond .lt 12, 3) := by decide +kernel
theorem dX5_erasure_4 : decode cX5_erasure 4 = .ok (.iload_n 2, 1) := by decide +kernel
theorem dX5_erasure_5 : decode cX5_erasure 5 = .ok (.ifCond .lt 8, 3) := by decide +kernel
theorem dX5_erasure_8 : decode cX5_erasure 8 = .ok (.iload_n 2, 1) := by decide +kernel
theorem dX5_erasure_9 : decode cX5_erasure 9 = .ok (.iconst 2, 1) := by decide +kernel
theorem dX5_erasure_10 : decode cX5_erasure 10 = .ok (.if_icmp .le 6, 3) := by decide +kernel
theorem dX5_erasure_13 : decode cX5_erasure 13 = .ok (.bipush (-2), 2) := by decide +kernel
theorem dX5_erasure_15 : decode cX5_erasure 15 = .ok (.ireturn, 1) := by decide +kernel
theorem dX5_erasure_16 : decode cX5_erasure 16 = .ok (.iload_n 1, 1) := by decide +kernel
theorem dX5_erasure_17 : decode cX5_erasure 17 = .ok (.bipush 8, 2) := by decide +kernel
theorem dX5_erasure_19 : decode cX5_erasure 19 = .ok (.if_icmp .ge 17, 3) := by decide +kernel
theorem dX5_erasure_22 : decode cX5_erasure 22 = .ok (.iload_n 1, 1) := by decide +kernel
theorem dX5_erasure_23 : decode cX5_erasure 23 = .ok (.aload_n 0, 1) := by decide +kernel
theorem dX5_erasure_24 : decode cX5_erasure 24 = .ok (.getfield 10, 3) := by decide +kernel
theorem dX5_erasure_27 : decode cX5_erasure 27 = .ok (.getfield 211, 3) := by decide +kernel
theorem dX5_erasure_30 : decode cX5_erasure 30 = .ok (.getfield 215, 3) := by decide +kernel
theorem dX5_erasure_33 : decode cX5_erasure 33 = .ok (.if_icmp .lt 6, 3) := by decide +kernel
theorem dX5_erasure_36 : decode cX5_erasure 36 = .ok (.bipush (-5), 2) := by decide +kernel
theorem dX5_erasure_38 : decode cX5_erasure 38 = .ok (.ireturn, 1) := by decide +kernel
theorem dX5_erasure_39 : decode cX5_erasure 39 = .ok (.iload_n 2, 1) := by decide +kernel
theorem dX5_erasure_40 : decode cX5_erasure 40 = .ok (.lookupswitch 54 #[(0, 28), (1, 41)], 28) := by decide +kernel
theorem dX5_erasure_68 : decode cX5_erasure 68 = .ok (.aload_n 0, 1) := by decide +kernel
theorem dX5_erasure_69 : decode cX5_erasure 69 = .ok (.getfield 10, 3) := by decide +kernel
theorem dX5_erasure_72 : decode cX5_erasure 72 = .ok (.getfield 211, 3) := by decide +kernel
theorem dX5_erasure_75 : decode cX5_erasure 75 = .ok (.getfield 220, 3) := by decide +kernel
theorem dX5_erasure_78 : decode cX5_erasure 78 = .ok (.iload_n 1, 1) := by decide +kernel
theorem dX5_erasure_79 : decode cX5_erasure 79 = .ok (.iaload, 1) := by decide +kernel
theorem dX5_erasure_80 : decode cX5_erasure 80 = .ok (.ireturn, 1) := by decide +kernel
theorem dX5_erasure_81 : decode cX5_erasure 81 = .ok (.aload_n 0, 1) := by decide +kernel
theorem dX5_erasure_82 : decode cX5_erasure 82 = .ok (.getfield 10, 3) := by decide +kernel
theorem dX5_erasure_85 : decode cX5_erasure 85 = .ok (.getfield 211, 3) := by decide +kernel
theorem dX5_erasure_88 : decode cX5_erasure 88 = .ok (.getfield 223, 3) := by decide +kernel
theorem dX5_erasure_91 : decode cX5_erasure 91 = .ok (.iload_n 1, 1) := by decide +kernel
theorem dX5_erasure_92 : decode cX5_erasure 92 = .ok (.iaload, 1) := by decide +kernel
theorem dX5_erasure_93 : decode cX5_erasure 93 = .ok (.ireturn, 1) := by decide +kernel
theorem dX5_erasure_94 : decode cX5_erasure 94 = .ok (.aload_n 0, 1) := by decide +kernel
theorem dX5_erasure_95 : decode cX5_erasure 95 = .ok (.getfield 10, 3) := by decide +kernel
theorem dX5_erasure_98 : decode cX5_erasure 98 = .ok (.getfield 211, 3) := by decide +kernel
theorem dX5_erasure_101 : decode cX5_erasure 101 = .ok (.getfield 226, 3) := by decide +kernel
theorem dX5_erasure_104 : decode cX5_erasure 104 = .ok (.iload_n 1, 1) := by decide +kernel
theorem dX5_erasure_105 : decode cX5_erasure 105 = .ok (.iaload, 1) := by decide +kernel
theorem dX5_erasure_106 : decode cX5_erasure 106 = .ok (.ireturn, 1) := by decide +kernel
theorem dX5_count_0 : decode cX5_count 0 = .ok (.iload_n 1, 1) := by decide +kernel
theorem dX5_count_1 : decode cX5_count 1 = .ok (.tableswitch 193 0 12 #[67, 75, 83, 91, 115, 123, 131, 139, 147, 158, 169, 177, 185], 67) := by decide +kernel
theorem dX5_count_68 : decode cX5_count 68 = .ok (.aload_n 0, 1) := by decide +kernel
theorem dX5_count_69 : decode cX5_count 69 = .ok (.getfield 10, 3) := by decide +kernel
theorem dX5_count_72 : decode cX5_count 72 = .ok (.getfield 130, 3) := by decide +kernel
theorem dX5_count_75 : decode cX5_count 75 = .ok (.ireturn, 1) := by decide +kernel
theorem dX5_count_76 : decode cX5_count 76 = .ok (.aload_n 0, 1) := by decide +kernel
theorem dX5_count_77 : decode cX5_count 77 = .ok (.getfield 10, 3) := by decide +kernel
theorem dX5_count_80 : decode cX5_count 80 = .ok (.invokevirtual 227, 3) := by decide +kernel
theorem dX5_count_83 : decode cX5_count 83 = .ok (.ireturn, 1) := by decide +kernel
theorem dX5_count_84 : decode cX5_count 84 = .ok (.aload_n 0, 1) := by decide +kernel
theorem dX5_count_85 : decode cX5_count 85 = .ok (.getfield 10, 3) := by decide +kernel
theorem dX5_count_88 : decode cX5_count 88 = .ok (.invokevirtual 230, 3) := by decide +kernel
theorem dX5_count_91 : decode cX5_count 91 = .ok (.ireturn, 1) := by decide +kernel
theorem dX5_count_92 : decode cX5_count 92 = .ok (.aload_n 0, 1) := by decide +kernel
theorem dX5_count_93 : decode cX5_count 93 = .ok (.getfield 10, 3) := by decide +kernel
theorem dX5_count_96 : decode cX5_count 96 = .ok (.getfield 233, 3) := by decide +kernel
theorem dX5_count_99 : decode cX5_count 99 = .ok (.iconst (-1), 1) := by decide +kernel
theorem dX5_count_100 : decode cX5_count 100 = .ok (.if_icmp .ne 8, 3) := by decide +kernel
theorem dX5_count_103 : decode cX5_count 103 = .ok (.bipush (-5), 2) := by decide +kernel
theorem dX5_count_105 : decode cX5_count 105 = .ok (.goto 10, 3) := by decide +kernel
theorem dX5_count_108 : decode cX5_count 108 = .ok (.aload_n 0, 1) := by decide +kernel
theorem dX5_count_109 : decode cX5_count 109 = .ok (.getfield 10, 3) := by decide +kernel
theorem dX5_count_112 : decode cX5_count 112 = .ok (.getfield 233, 3) := by decide +kernel
theorem dX5_count_115 : decode cX5_count 115 = .ok (.ireturn, 1) := by decide +kernel
theorem dX5_count_116 : decode cX5_count 116 = .ok (.aload_n 0, 1) := by decide +kernel
theorem dX5_count_117 : decode cX5_count 117 = .ok (.getfield 10, 3) := by decide +kernel
theorem dX5_count_120 : decode cX5_count 120 = .ok (.invokevirtual 205, 3) := by decide +kernel
theorem dX5_count_123 : decode cX5_count 123 = .ok (.ireturn, 1) := by decide +kernel
theorem dX5_count_124 : decode cX5_count 124 = .ok (.aload_n 0, 1) := by decide +kernel
theorem dX5_count_125 : decode cX5_count 125 = .ok (.getfield 10, 3) := by decide +kernel
theorem dX5_count_128 : decode cX5_count 128 = .ok (.getfield 236, 3) := by decide +kernel
theorem dX5_count_131 : decode cX5_count 131 = .ok (.ireturn, 1) := by decide +kernel
theorem dX5_count_132 : decode cX5_count 132 = .ok (.aload_n 0, 1) := by decide +kernel
theorem dX5_count_133 : decode cX5_count 133 = .ok (.getfield 10, 3) := by decide +kernel
theorem dX5_count_136 : decode cX5_count 136 = .ok (.getfield 239, 3) := by decide +kernel
theorem dX5_count_139 : decode cX5_count 139 = .ok (.ireturn, 1) := by decide +kernel
theorem dX5_count_140 : decode cX5_count 140 = .ok (.aload_n 0, 1) := by decide +kernel
theorem dX5_count_141 : decode cX5_count 141 = .ok (.getfield 10, 3) := by decide +kernel
theorem dX5_count_144 : decode cX5_count 144 = .ok (.getfield 242, 3) := by decide +kernel
theorem dX5_count_147 : decode cX5_count 147 = .ok (.ireturn, 1) := by decide +kernel
theorem dX5_count_148 : decode cX5_count 148 = .ok (.aload_n 0, 1) := by decide +kernel
theorem dX5_count_149 : decode cX5_count 149 = .ok (.getfield 10, 3) := by decide +kernel
theorem dX5_count_152 : decode cX5_count 152 = .ok (.getfield 211, 3) := by decide +kernel
theorem dX5_count_155 : decode cX5_count 155 = .ok (.getfield 215, 3) := by decide +kernel
theorem dX5_count_158 : decode cX5_count 158 = .ok (.ireturn, 1) := by decide +kernel
theorem dX5_count_159 : decode cX5_count 159 = .ok (.aload_n 0, 1) := by decide +kernel
theorem dX5_count_160 : decode cX5_count 160 = .ok (.getfield 10, 3) := by decide +kernel
theorem dX5_count_163 : decode cX5_count 163 = .ok (.getfield 137, 3) := by decide +kernel
theorem dX5_count_166 : decode cX5_count 166 = .ok (.getfield 245, 3) := by decide +kernel
theorem dX5_count_169 : decode cX5_count 169 = .ok (.ireturn, 1) := by decide +kernel
theorem dX5_count_170 : decode cX5_count 170 = .ok (.aload_n 0, 1) := by decide +kernel
theorem dX5_count_171 : decode cX5_count 171 = .ok (.getfield 10, 3) := by decide +kernel
theorem dX5_count_174 : decode cX5_count 174 = .ok (.invokevirtual 246, 3) := by decide +kernel
theorem dX5_count_177 : decode cX5_count 177 = .ok (.ireturn, 1) := by decide +kernel
theorem dX5_count_178 : decode cX5_count 178 = .ok (.aload_n 0, 1) := by decide +kernel
theorem dX5_count_179 : decode cX5_count 179 = .ok (.getfield 32, 3) := by decide +kernel
theorem dX5_count_182 : decode cX5_count 182 = .ok (.getfield 124, 3) := by decide +kernel
theorem dX5_count_185 : decode cX5_count 185 = .ok (.ireturn, 1) := by decide +kernel
theorem dX5_count_186 : decode cX5_count 186 = .ok (.aload_n 0, 1) := by decide +kernel
theorem dX5_count_187 : decode cX5_count 187 = .ok (.getfield 39, 3) := by decide +kernel
theorem dX5_count_190 : decode cX5_count 190 = .ok (.getfield 249, 3) := by decide +kernel
theorem dX5_count_193 : decode cX5_count 193 = .ok (.ireturn, 1) := by decide +kernel
theorem dX5_count_194 : decode cX5_count 194 = .ok (.bipush (-2), 2) := by decide +kernel
theorem dX5_count_196 : decode cX5_count 196 = .ok (.ireturn, 1) := by decide +kernel
theorem dX5_setting_0 : decode cX5_setting 0 = .ok (.iload_n 1, 1) := by decide +kernel
theorem dX5_setting_1 : decode cX5_setting 1 = .ok (.invokestatic 252, 3) := by decide +kernel
theorem dX5_setting_4 : decode cX5_setting 4 = .ok (.ifCond .ne 5, 3) := by decide +kernel
theorem dX5_setting_7 : decode cX5_setting 7 = .ok (.iconst (-1), 1) := by decide +kernel
theorem dX5_setting_8 : decode cX5_setting 8 = .ok (.ireturn, 1) := by decide +kernel
theorem dX5_setting_9 : decode cX5_setting 9 = .ok (.aload_n 0, 1) := by decide +kernel
theorem dX5_setting_10 : decode cX5_setting 10 = .ok (.getfield 10, 3) := by decide +kernel
theorem dX5_setting_13 : decode cX5_setting 13 = .ok (.getfield 255, 3) := by decide +kernel
theorem dX5_setting_16 : decode cX5_setting 16 = .ok (.iload_n 1, 1) := by decide +kernel
theorem dX5_setting_17 : decode cX5_setting 17 = .ok (.iaload, 1) := by decide +kernel
theorem dX5_setting_18 : decode cX5_setting 18 = .ok (.ireturn, 1) := by decide +kernel
theorem dX5_isPage_0 : decode cX5_isPage 0 = .ok (.iload_n 0, 1) := by decide +kernel
theorem dX5_isPage_1 : decode cX5_isPage 1 = .ok (.ifCond .lt 13, 3) := by decide +kernel
theorem dX5_isPage_4 : decode cX5_isPage 4 = .ok (.iload_n 0, 1) := by decide +kernel
theorem dX5_isPage_5 : decode cX5_isPage 5 = .ok (.bipush 24, 2) := by decide +kernel
theorem dX5_isPage_7 : decode cX5_isPage 7 = .ok (.if_icmp .ge 7, 3) := by decide +kernel
theorem dX5_isPage_10 : decode cX5_isPage 10 = .ok (.iconst 1, 1) := by decide +kernel
theorem dX5_isPage_11 : decode cX5_isPage 11 = .ok (.goto 4, 3) := by decide +kernel
theorem dX5_isPage_14 : decode cX5_isPage 14 = .ok (.iconst 0, 1) := by decide +kernel
theorem dX5_isPage_15 : decode cX5_isPage 15 = .ok (.ireturn, 1) := by decide +kernel
theorem dX5_isBlock_0 : decode cX5_isBlock 0 = .ok (.iload_n 0, 1) := by decide +kernel
theorem dX5_isBlock_1 : decode cX5_isBlock 1 = .ok (.ifCond .lt 13, 3) := by decide +kernel
theorem dX5_isBlock_4 : decode cX5_isBlock 4 = .ok (.iload_n 0, 1) := by decide +kernel
theorem dX5_isBlock_5 : decode cX5_isBlock 5 = .ok (.bipush 6, 2) := by decide +kernel
theorem dX5_isBlock_7 : decode cX5_isBlock 7 = .ok (.if_icmp .ge 7, 3) := by decide +kernel
theorem dX5_isBlock_10 : decode cX5_isBlock 10 = .ok (.iconst 1, 1) := by decide +kernel
theorem dX5_isBlock_11 : decode cX5_isBlock 11 = .ok (.goto 4, 3) := by decide +kernel
theorem dX5_isBlock_14 : decode cX5_isBlock 14 = .ok (.iconst 0, 1) := by decide +kernel
theorem dX5_isBlock_15 : decode cX5_isBlock 15 = .ok (.ireturn, 1) := by decide +kernel
theorem dX5_isSetting_0 : decode cX5_isSetting 0 = .ok (.iload_n 0, 1) := by decide +kernel
theorem dX5_isSetting_1 : decode cX5_isSetting 1 = .ok (.ifCond .lt 12, 3) := by decide +kernel
theorem dX5_isSetting_4 : decode cX5_isSetting 4 = .ok (.iload_n 0, 1) := by decide +kernel
theorem dX5_isSetting_5 : decode cX5_isSetting 5 = .ok (.iconst 5, 1) := by decide +kernel
theorem dX5_isSetting_6 : decode cX5_isSetting 6 = .ok (.if_icmp .ge 7, 3) := by decide +kernel
theorem dX5_isSetting_9 : decode cX5_isSetting 9 = .ok (.iconst 1, 1) := by decide +kernel
theorem dX5_isSetting_10 : decode cX5_isSetting 10 = .ok (.goto 4, 3) := by decide +kernel
theorem dX5_isSetting_13 : decode cX5_isSetting 13 = .ok (.iconst 0, 1) := by decide +kernel
theorem dX5_isSetting_14 : decode cX5_isSetting 14 = .ok (.ireturn, 1) := by decide +kernel
theorem dX6_init_0 : decode cX6_init 0 = .ok (.aload_n 0, 1) := by decide +kernel
theorem dX6_init_1 : decode cX6_init 1 = .ok (.invokespecial 1, 3) := by decide +kernel
theorem dX6_init_4 : decode cX6_init 4 = .ok (.aload_n 0, 1) := by decide +kernel
theorem dX6_init_5 : decode cX6_init 5 = .ok (.sipush 233, 3) := by decide +kernel
theorem dX6_init_8 : decode cX6_init 8 = .ok (.newarray .int, 2) := by decide +kernel
theorem dX6_init_10 : decode cX6_init 10 = .ok (.putfield 7, 3) := by decide +kernel
theorem dX6_init_13 : decode cX6_init 13 = .ok (.aload_n 0, 1) := by decide +kernel
theorem dX6_init_14 : decode cX6_init 14 = .ok (.sipush 233, 3) := by decide +kernel
theorem dX6_init_17 : decode cX6_init 17 = .ok (.newarray .int, 2) := by decide +kernel
theorem dX6_init_19 : decode cX6_init 19 = .ok (.putfield 13, 3) := by decide +kernel
theorem dX6_init_22 : decode cX6_init 22 = .ok (.aload_n 0, 1) := by decide +kernel
theorem dX6_init_23 : decode cX6_init 23 = .ok (.sipush 233, 3) := by decide +kernel
theorem dX6_init_26 : decode cX6_init 26 = .ok (.newarray .int, 2) := by decide +kernel
theorem dX6_init_28 : decode cX6_init 28 = .ok (.putfield 16, 3) := by decide +kernel
theorem dX6_init_31 : decode cX6_init 31 = .ok (.aload_n 0, 1) := by decide +kernel
theorem dX6_init_32 : decode cX6_init 32 = .ok (.sipush 932, 3) := by decide +kernel
theorem dX6_init_35 : decode cX6_init 35 = .ok (.newarray .int, 2) := by decide +kernel
theorem dX6_init_37 : decode cX6_init 37 = .ok (.putfield 19, 3) := by decide +kernel
theorem dX6_init_40 : decode cX6_init 40 = .ok (.aload_n 0, 1) := by decide +kernel
theorem dX6_init_41 : decode cX6_init 41 = .ok (.sipush 233, 3) := by decide +kernel
theorem dX6_init_44 : decode cX6_init 44 = .ok (.newarray .int, 2) := by decide +kernel
theorem dX6_init_46 : decode cX6_init 46 = .ok (.putfield 22, 3) := by decide +kernel
theorem dX6_init_49 : decode cX6_init 49 = .ok (.aload_n 0, 1) := by decide +kernel
theorem dX6_init_50 : decode cX6_init 50 = .ok (.bipush 60, 2) := by decide +kernel
theorem dX6_init_52 : decode cX6_init 52 = .ok (.newarray .int, 2) := by decide +kernel
theorem dX6_init_54 : decode cX6_init 54 = .ok (.putfield 25, 3) := by decide +kernel
theorem dX6_init_57 : decode cX6_init 57 = .ok (.aload_n 0, 1) := by decide +kernel
theorem dX6_init_58 : decode cX6_init 58 = .ok (.bipush 93, 2) := by decide +kernel
theorem dX6_init_60 : decode cX6_init 60 = .ok (.newarray .int, 2) := by decide +kernel
theorem dX6_init_62 : decode cX6_init 62 = .ok (.putfield 28, 3) := by decide +kernel
theorem dX6_init_65 : decode cX6_init 65 = .ok (.aload_n 0, 1) := by decide +kernel
theorem dX6_init_66 : decode cX6_init 66 = .ok (.iconst 3, 1) := by decide +kernel
theorem dX6_init_67 : decode cX6_init 67 = .ok (.newarray .int, 2) := by decide +kernel
theorem dX6_init_69 : decode cX6_init 69 = .ok (.putfield 31, 3) := by decide +kernel
theorem dX6_init_72 : decode cX6_init 72 = .ok (.aload_n 0, 1) := by decide +kernel
theorem dX6_init_73 : decode cX6_init 73 = .ok (.getfield 7, 3) := by decide +kernel
theorem dX6_init_76 : decode cX6_init 76 = .ok (.iconst 1, 1) := by decide +kernel
theorem dX6_init_77 : decode cX6_init 77 = .ok (.bipush 75, 2) := by decide +kernel
theorem dX6_init_79 : decode cX6_init 79 = .ok (.iastore, 1) := by decide +kernel
theorem dX6_init_80 : decode cX6_init 80 = .ok (.aload_n 0, 1) := by decide +kernel
theorem dX6_init_81 : decode cX6_init 81 = .ok (.getfield 7, 3) := by decide +kernel
theorem dX6_init_84 : decode cX6_init 84 = .ok (.iconst 2, 1) := by decide +kernel
theorem dX6_init_85 : decode cX6_init 85 = .ok (.sipush 200, 3) := by decide +kernel
theorem dX6_init_88 : decode cX6_init 88 = .ok (.iastore, 1) := by decide +kernel
theorem dX6_init_89 : decode cX6_init 89 = .ok (.aload_n 0, 1) := by decide +kernel
theorem dX6_init_90 : decode cX6_init 90 = .ok (.getfield 7, 3) := by decide +kernel
theorem dX6_init_93 : decode cX6_init 93 = .ok (.iconst 3, 1) := by decide +kernel
theorem dX6_init_94 : decode cX6_init 94 = .ok (.iconst 1, 1) := by decide +kernel
theorem dX6_init_95 : decode cX6_init 95 = .ok (.iastore, 1) := by decide +kernel
theorem dX6_init_96 : decode cX6_init 96 = .ok (.aload_n 0, 1) := by decide +kernel
theorem dX6_init_97 : decode cX6_init 97 = .ok (.getfield 7, 3) := by decide +kernel
theorem dX6_init_100 : decode cX6_init 100 = .ok (.iconst 4, 1) := by decide +kernel
theorem dX6_init_101 : decode cX6_init 101 = .ok (.iconst 2, 1) := by decide +kernel
theorem dX6_init_102 : decode cX6_init 102 = .ok (.iastore, 1) := by decide +kernel
theorem dX6_init_103 : decode cX6_init 103 = .ok (.aload_n 0, 1) := by decide +kernel
theorem dX6_init_104 : decode cX6_init 104 = .ok (.getfield 7, 3) := by decide +kernel
theorem dX6_init_107 : decode cX6_init 107 = .ok (.iconst 5, 1) := by decide +kernel
theorem dX6_init_108 : decode cX6_init 108 = .ok (.iconst 1, 1) := by decide +kernel
theorem dX6_init_109 : decode cX6_init 109 = .ok (.iastore, 1) := by decide +kernel
theorem dX6_init_110 : decode cX6_init 110 = .ok (.aload_n 0, 1) := by decide +kernel
theorem dX6_init_111 : decode cX6_init 111 = .ok (.getfield 7, 3) := by decide +kernel
theorem dX6_init_114 : decode cX6_init 114 = .ok (.bipush 6, 2) := by decide +kernel
theorem dX6_init_116 : decode cX6_init 116 = .ok (.bipush (-5), 2) := by decide +kernel
theorem dX6_init_118 : decode cX6_init 118 = .ok (.iastore, 1) := by decide +kernel
theorem dX6_init_119 : decode cX6_init 119 = .ok (.iconst 0, 1) := by decide +kernel
theorem dX6_init_120 : decode cX6_init 120 = .ok (.istore_n 1, 1) := by decide +kernel
theorem dX6_init_121 : decode cX6_init 121 = .ok (.iload_n 1, 1) := by decide +kernel
theorem dX6_init_122 : decode cX6_init 122 = .ok (.bipush 6, 2) := by decide +kernel
theorem dX6_init_124 : decode cX6_init 124 = .ok (.if_icmp .ge 39, 3) := by decide +kernel
theorem dX6_init_127 : decode cX6_init 127 = .ok (.aload_n 0, 1) := by decide +kernel
theorem dX6_init_128 : decode cX6_init 128 = .ok (.getfield 7, 3) := by decide +kernel
theorem dX6_init_131 : decode cX6_init 131 = .ok (.bipush 41, 2) := by decide +kernel
theorem dX6_init_133 : decode cX6_init 133 = .ok (.iconst 4, 1) := by decide +kernel
theorem dX6_init_134 : decode cX6_init 134 = .ok (.iload_n 1, 1) := by decide +kernel
theorem dX6_init_135 : decode cX6_init 135 = .ok (.imul, 1) := by decide +kernel
theorem dX6_init_136 : decode cX6_init 136 = .ok (.iadd, 1) := by decide +kernel
theorem dX6_init_137 : decode cX6_init 137 = .ok (.iload_n 1, 1) := by decide +kernel
theorem dX6_init_138 : decode cX6_init 138 = .ok (.iconst 2, 1) := by decide +kernel
theorem dX6_init_139 : decode cX6_init 139 = .ok (.if_icmp .ge 7, 3) := by decide +kernel
theorem dX6_init_142 : decode cX6_init 142 = .ok (.iconst 0, 1) := by decide +kernel
theorem dX6_init_143 : decode cX6_init 143 = .ok (.goto 13, 3) := by decide +kernel
theorem dX6_init_146 : decode cX6_init 146 = .ok (.iload_n 1, 1) := by decide +kernel
theorem dX6_init_147 : decode cX6_init 147 = .ok (.iconst 5, 1) := by decide +kernel
theorem dX6_init_148 : decode cX6_init 148 = .ok (.if_icmp .ge 7, 3) := by decide +kernel
theorem dX6_init_151 : decode cX6_init 151 = .ok (.iconst 1, 1) := by decide +kernel
theorem dX6_init_152 : decode cX6_init 152 = .ok (.goto 4, 3) := by decide +kernel
theorem dX6_init_155 : decode cX6_init 155 = .ok (.iconst 2, 1) := by decide +kernel
theorem dX6_init_156 : decode cX6_init 156 = .ok (.iastore, 1) := by decide +kernel
theorem dX6_init_157 : decode cX6_init 157 = .ok (.iinc 1 1, 3) := by decide +kernel
theorem dX6_init_160 : decode cX6_init 160 = .ok (.goto (-39), 3) := by decide +kernel
theorem dX6_init_163 : decode cX6_init 163 = .ok (.iconst 0, 1) := by decide +kernel
theorem dX6_init_164 : decode cX6_init 164 = .ok (.istore_n 1, 1) := by decide +kernel
theorem dX6_init_165 : decode cX6_init 165 = .ok (.iload_n 1, 1) := by decide +kernel
theorem dX6_init_166 : decode cX6_init 166 = .ok (.bipush 48, 2) := by decide +kernel
theorem dX6_init_168 : decode cX6_init 168 = .ok (.if_icmp .ge 21, 3) := by decide +kernel
theorem dX6_init_171 : decode cX6_init 171 = .ok (.aload_n 0, 1) := by decide +kernel
theorem dX6_init_172 : decode cX6_init 172 = .ok (.getfield 7, 3) := by decide +kernel
theorem dX6_init_175 : decode cX6_init 175 = .ok (.bipush 65, 2) := by decide +kernel
theorem dX6_init_177 : decode cX6_init 177 = .ok (.iconst 3, 1) := by decide +kernel
theorem dX6_init_178 : decode cX6_init 178 = .ok (.iload_n 1, 1) := by decide +kernel
theorem dX6_init_179 : decode cX6_init 179 = .ok (.imul, 1) := by decide +kernel
theorem dX6_init_180 : decode cX6_init 180 = .ok (.iadd, 1) := by decide +kernel
theorem dX6_init_181 : decode cX6_init 181 = .ok (.iconst (-1), 1) := by decide +kernel
theorem dX6_init_182 : decode cX6_init 182 = .ok (.iastore, 1) := by decide +kernel
theorem dX6_init_183 : decode cX6_init 183 = .ok (.iinc 1 1, 3) := by decide +kernel
theorem dX6_init_186 : decode cX6_init 186 = .ok (.goto (-21), 3) := by decide +kernel
theorem dX6_init_189 : decode cX6_init 189 = .ok (.return_, 1) := by decide +kernel
theorem dX6_in_0 : decode cX6_in 0 = .ok (.iload_n 0, 1) := by decide +kernel
theorem dX6_in_1 : decode cX6_in 1 = .ok (.iload_n 1, 1) := by decide +kernel
theorem dX6_in_2 : decode cX6_in 2 = .ok (.if_icmp .lt 12, 3) := by decide +kernel
theorem dX6_in_5 : decode cX6_in 5 = .ok (.iload_n 0, 1) := by decide +kernel
theorem dX6_in_6 : decode cX6_in 6 = .ok (.iload_n 2, 1) := by decide +kernel
theorem dX6_in_7 : decode cX6_in 7 = .ok (.if_icmp .gt 7, 3) := by decide +kernel
theorem dX6_in_10 : decode cX6_in 10 = .ok (.iconst 1, 1) := by decide +kernel
theorem dX6_in_11 : decode cX6_in 11 = .ok (.goto 4, 3) := by decide +kernel
theorem dX6_in_14 : decode cX6_in 14 = .ok (.iconst 0, 1) := by decide +kernel
theorem dX6_in_15 : decode cX6_in 15 = .ok (.ireturn, 1) := by decide +kernel
theorem dX6_isPage_0 : decode cX6_isPage 0 = .ok (.iload_n 0, 1) := by decide +kernel
theorem dX6_isPage_1 : decode cX6_isPage 1 = .ok (.iconst 0, 1) := by decide +kernel
theorem dX6_isPage_2 : decode cX6_isPage 2 = .ok (.bipush 23, 2) := by decide +kernel
theorem dX6_isPage_4 : decode cX6_isPage 4 = .ok (.invokestatic 34, 3) := by decide +kernel
theorem dX6_isPage_7 : decode cX6_isPage 7 = .ok (.ireturn, 1) := by decide +kernel
theorem dX6_isBlock_0 : decode cX6_isBlock 0 = .ok (.iload_n 0, 1) := by decide +kernel
theorem dX6_isBlock_1 : decode cX6_isBlock 1 = .ok (.iconst 0, 1) := by decide +kernel
theorem dX6_isBlock_2 : decode cX6_isBlock 2 = .ok (.iconst 5, 1) := by decide +kernel
theorem dX6_isBlock_3 : decode cX6_isBlock 3 = .ok (.invokestatic 34, 3) := by decide +kernel
theorem dX6_isBlock_6 : decode cX6_isBlock 6 = .ok (.ireturn, 1) := by decide +kernel
theorem dX6_lays_0 : decode cX6_lays 0 = .ok (.iconst 0, 1) := by decide +kernel
theorem dX6_lays_1 : decode cX6_lays 1 = .ok (.istore 4, 2) := by decide +kernel
theorem dX6_lays_3 : decode cX6_lays 3 = .ok (.iload 4, 2) := by decide +kernel
theorem dX6_lays_5 : decode cX6_lays 5 = .ok (.sipush 233, 3) := by decide +kernel
theorem dX6_lays_8 : decode cX6_lays 8 = .ok (.if_icmp .ge 21, 3) := by decide +kernel
theorem dX6_lays_11 : decode cX6_lays 11 = .ok (.aload_n 2, 1) := by decide +kernel
theorem dX6_lays_12 : decode cX6_lays 12 = .ok (.iload_n 3, 1) := by decide +kernel
theorem dX6_lays_13 : decode cX6_lays 13 = .ok (.iload 4, 2) := by decide +kernel
theorem dX6_lays_15 : decode cX6_lays 15 = .ok (.iadd, 1) := by decide +kernel
theorem dX6_lays_16 : decode cX6_lays 16 = .ok (.aload_n 0, 1) := by decide +kernel
theorem dX6_lays_17 : decode cX6_lays 17 = .ok (.iload_n 1, 1) := by decide +kernel
theorem dX6_lays_18 : decode cX6_lays 18 = .ok (.iload 4, 2) := by decide +kernel
theorem dX6_lays_20 : decode cX6_lays 20 = .ok (.iadd, 1) := by decide +kernel
theorem dX6_lays_21 : decode cX6_lays 21 = .ok (.iaload, 1) := by decide +kernel
theorem dX6_lays_22 : decode cX6_lays 22 = .ok (.iastore, 1) := by decide +kernel
theorem dX6_lays_23 : decode cX6_lays 23 = .ok (.iinc 4 1, 3) := by decide +kernel
theorem dX6_lays_26 : decode cX6_lays 26 = .ok (.goto (-23), 3) := by decide +kernel
theorem dX6_lays_29 : decode cX6_lays 29 = .ok (.return_, 1) := by decide +kernel
theorem dX6_records_0 : decode cX6_records 0 = .ok (.aload_n 0, 1) := by decide +kernel
theorem dX6_records_1 : decode cX6_records 1 = .ok (.getfield 38, 3) := by decide +kernel
theorem dX6_records_4 : decode cX6_records 4 = .ok (.iconst 4, 1) := by decide +kernel
theorem dX6_records_5 : decode cX6_records 5 = .ok (.if_icmp .ne 44, 3) := by decide +kernel
theorem dX6_records_8 : decode cX6_records 8 = .ok (.iconst 0, 1) := by decide +kernel
theorem dX6_records_9 : decode cX6_records 9 = .ok (.istore_n 1, 1) := by decide +kernel
theorem dX6_records_10 : decode cX6_records 10 = .ok (.iload_n 1, 1) := by decide +kernel
theorem dX6_records_11 : decode cX6_records 11 = .ok (.sipush 699, 3) := by decide +kernel
theorem dX6_records_14 : decode cX6_records 14 = .ok (.if_icmp .ge 25, 3) := by decide +kernel
theorem dX6_records_17 : decode cX6_records 17 = .ok (.aload_n 0, 1) := by decide +kernel
theorem dX6_records_18 : decode cX6_records 18 = .ok (.getfield 19, 3) := by decide +kernel
theorem dX6_records_21 : decode cX6_records 21 = .ok (.iload_n 1, 1) := by decide +kernel
theorem dX6_records_22 : decode cX6_records 22 = .ok (.aload_n 0, 1) := by decide +kernel
theorem dX6_records_23 : decode cX6_records 23 = .ok (.getfield 19, 3) := by decide +kernel
theorem dX6_records_26 : decode cX6_records 26 = .ok (.iload_n 1, 1) := by decide +kernel
theorem dX6_records_27 : decode cX6_records 27 = .ok (.sipush 233, 3) := by decide +kernel
theorem dX6_records_30 : decode cX6_records 30 = .ok (.iadd, 1) := by decide +kernel
theorem dX6_records_31 : decode cX6_records 31 = .ok (.iaload, 1) := by decide +kernel
theorem dX6_records_32 : decode cX6_records 32 = .ok (.iastore, 1) := by decide +kernel
theorem dX6_records_33 : decode cX6_records 33 = .ok (.iinc 1 1, 3) := by decide +kernel
theorem dX6_records_36 : decode cX6_records 36 = .ok (.goto (-26), 3) := by decide +kernel
theorem dX6_records_39 : decode cX6_records 39 = .ok (.aload_n 0, 1) := by decide +kernel
theorem dX6_records_40 : decode cX6_records 40 = .ok (.dup, 1) := by decide +kernel
theorem dX6_records_41 : decode cX6_records 41 = .ok (.getfield 38, 3) := by decide +kernel
theorem dX6_records_44 : decode cX6_records 44 = .ok (.iconst 1, 1) := by decide +kernel
theorem dX6_records_45 : decode cX6_records 45 = .ok (.isub, 1) := by decide +kernel
theorem dX6_records_46 : decode cX6_records 46 = .ok (.putfield 38, 3) := by decide +kernel
theorem dX6_records_49 : decode cX6_records 49 = .ok (.aload_n 0, 1) := by decide +kernel
theorem dX6_records_50 : decode cX6_records 50 = .ok (.getfield 7, 3) := by decide +kernel
theorem dX6_records_53 : decode cX6_records 53 = .ok (.iconst 0, 1) := by decide +kernel
theorem dX6_records_54 : decode cX6_records 54 = .ok (.aload_n 0, 1) := by decide +kernel
theorem dX6_records_55 : decode cX6_records 55 = .ok (.getfield 19, 3) := by decide +kernel
theorem dX6_records_58 : decode cX6_records 58 = .ok (.sipush 233, 3) := by decide +kernel
theorem dX6_records_61 : decode cX6_records 61 = .ok (.aload_n 0, 1) := by decide +kernel
theorem dX6_records_62 : decode cX6_records 62 = .ok (.getfield 38, 3) := by decide +kernel
theorem dX6_records_65 : decode cX6_records 65 = .ok (.imul, 1) := by decide +kernel
theorem dX6_records_66 : decode cX6_records 66 = .ok (.invokestatic 42, 3) := by decide +kernel
theorem dX6_records_69 : decode cX6_records 69 = .ok (.aload_n 0, 1) := by decide +kernel
theorem dX6_records_70 : decode cX6_records 70 = .ok (.dup, 1) := by decide +kernel
theorem dX6_records_71 : decode cX6_records 71 = .ok (.getfield 38, 3) := by decide +kernel
theorem dX6_records_74 : decode cX6_records 74 = .ok (.iconst 1, 1) := by decide +kernel
theorem dX6_records_75 : decode cX6_records 75 = .ok (.iadd, 1) := by decide +kernel
theorem dX6_records_76 : decode cX6_records 76 = .ok (.putfield 38, 3) := by decide +kernel
theorem dX6_records_79 : decode cX6_records 79 = .ok (.return_, 1) := by decide +kernel
theorem dX6_becomes_0 : decode cX6_becomes 0 = .ok (.aload_n 0, 1) := by decide +kernel
theorem dX6_becomes_1 : decode cX6_becomes 1 = .ok (.invokevirtual 46, 3) := by decide +kernel
theorem dX6_becomes_4 : decode cX6_becomes 4 = .ok (.aload_n 0, 1) := by decide +kernel
theorem dX6_becomes_5 : decode cX6_becomes 5 = .ok (.getfield 13, 3) := by decide +kernel
theorem dX6_becomes_8 : decode cX6_becomes 8 = .ok (.iconst 0, 1) := by decide +kernel
theorem dX6_becomes_9 : decode cX6_becomes 9 = .ok (.aload_n 0, 1) := by decide +kernel
theorem dX6_becomes_10 : decode cX6_becomes 10 = .ok (.getfield 7, 3) := by decide +kernel
theorem dX6_becomes_13 : decode cX6_becomes 13 = .ok (.iconst 0, 1) := by decide +kernel
theorem dX6_becomes_14 : decode cX6_becomes 14 = .ok (.invokestatic 42, 3) := by decide +kernel
theorem dX6_becomes_17 : decode cX6_becomes 17 = .ok (.iload_n 1, 1) := by decide +kernel
theorem dX6_becomes_18 : decode cX6_becomes 18 = .ok (.ireturn, 1) := by decide +kernel
theorem dX6_tries_0 : decode cX6_tries 0 = .ok (.aload_n 0, 1) := by decide +kernel
theorem dX6_tries_1 : decode cX6_tries 1 = .ok (.getfield 7, 3) := by decide +kernel
theorem dX6_tries_4 : decode cX6_tries 4 = .ok (.iconst 0, 1) := by decide +kernel
theorem dX6_tries_5 : decode cX6_tries 5 = .ok (.aload_n 0, 1) := by decide +kernel
theorem dX6_tries_6 : decode cX6_tries 6 = .ok (.getfield 13, 3) := by decide +kernel
theorem dX6_tries_9 : decode cX6_tries 9 = .ok (.iconst 0, 1) := by decide +kernel
theorem dX6_tries_10 : decode cX6_tries 10 = .ok (.invokestatic 42, 3) := by decide +kernel
theorem dX6_tries_13 : decode cX6_tries 13 = .ok (.return_, 1) := by decide +kernel
theorem dX6_undo_0 : decode cX6_undo 0 = .ok (.aload_n 0, 1) := by decide +kernel
theorem dX6_undo_1 : decode cX6_undo 1 = .ok (.getfield 38, 3) := by decide +kernel
theorem dX6_undo_4 : decode cX6_undo 4 = .ok (.ifCond .ne 6, 3) := by decide +kernel
theorem dX6_undo_7 : decode cX6_undo 7 = .ok (.bipush (-5), 2) := by decide +kernel
theorem dX6_undo_9 : decode cX6_undo 9 = .ok (.ireturn, 1) := by decide +kernel
theorem dX6_undo_10 : decode cX6_undo 10 = .ok (.aload_n 0, 1) := by decide +kernel
theorem dX6_undo_11 : decode cX6_undo 11 = .ok (.dup, 1) := by decide +kernel
theorem dX6_undo_12 : decode cX6_undo 12 = .ok (.getfield 38, 3) := by decide +kernel
theorem dX6_undo_15 : decode cX6_undo 15 = .ok (.iconst 1, 1) := by decide +kernel
theorem dX6_undo_16 : decode cX6_undo 16 = .ok (.isub, 1) := by decide +kernel
theorem dX6_undo_17 : decode cX6_undo 17 = .ok (.putfield 38, 3) := by decide +kernel
theorem dX6_undo_20 : decode cX6_undo 20 = .ok (.aload_n 0, 1) := by decide +kernel
theorem dX6_undo_21 : decode cX6_undo 21 = .ok (.getfield 19, 3) := by decide +kernel
theorem dX6_undo_24 : decode cX6_undo 24 = .ok (.sipush 233, 3) := by decide +kernel
theorem dX6_undo_27 : decode cX6_undo 27 = .ok (.aload_n 0, 1) := by decide +kernel
theorem dX6_undo_28 : decode cX6_undo 28 = .ok (.getfield 38, 3) := by decide +kernel
theorem dX6_undo_31 : decode cX6_undo 31 = .ok (.imul, 1) := by decide +kernel
theorem dX6_undo_32 : decode cX6_undo 32 = .ok (.aload_n 0, 1) := by decide +kernel
theorem dX6_undo_33 : decode cX6_undo 33 = .ok (.getfield 7, 3) := by decide +kernel
theorem dX6_undo_36 : decode cX6_undo 36 = .ok (.iconst 0, 1) := by decide +kernel
theorem dX6_undo_37 : decode cX6_undo 37 = .ok (.invokestatic 42, 3) := by decide +kernel
theorem dX6_undo_40 : decode cX6_undo 40 = .ok (.aload_n 0, 1) := by decide +kernel
theorem dX6_undo_41 : decode cX6_undo 41 = .ok (.getfield 38, 3) := by decide +kernel
theorem dX6_undo_44 : decode cX6_undo 44 = .ok (.ireturn, 1) := by decide +kernel
theorem dX6_keep_0 : decode cX6_keep 0 = .ok (.aload_n 0, 1) := by decide +kernel
theorem dX6_keep_1 : decode cX6_keep 1 = .ok (.getfield 7, 3) := by decide +kernel
theorem dX6_keep_4 : decode cX6_keep 4 = .ok (.iconst 0, 1) := by decide +kernel
theorem dX6_keep_5 : decode cX6_keep 5 = .ok (.aload_n 0, 1) := by decide +kernel
theorem dX6_keep_6 : decode cX6_keep 6 = .ok (.getfield 22, 3) := by decide +kernel
theorem dX6_keep_9 : decode cX6_keep 9 = .ok (.iconst 0, 1) := by decide +kernel
theorem dX6_keep_10 : decode cX6_keep 10 = .ok (.invokestatic 42, 3) := by decide +kernel
theorem dX6_keep_13 : decode cX6_keep 13 = .ok (.aload_n 0, 1) := by decide +kernel
theorem dX6_keep_14 : decode cX6_keep 14 = .ok (.iconst 1, 1) := by decide +kernel
theorem dX6_keep_15 : decode cX6_keep 15 = .ok (.putfield 49, 3) := by decide +kernel
theorem dX6_keep_18 : decode cX6_keep 18 = .ok (.aload_n 0, 1) := by decide +kernel
theorem dX6_keep_19 : decode cX6_keep 19 = .ok (.getfield 7, 3) := by decide +kernel
theorem dX6_keep_22 : decode cX6_keep 22 = .ok (.iconst 0, 1) := by decide +kernel
theorem dX6_keep_23 : decode cX6_keep 23 = .ok (.iaload, 1) := by decide +kernel
theorem dX6_keep_24 : decode cX6_keep 24 = .ok (.ireturn, 1) := by decide +kernel
theorem dX6_restore_0 : decode cX6_restore 0 = .ok (.aload_n 0, 1) := by decide +kernel
theorem dX6_restore_1 : decode cX6_restore 1 = .ok (.getfield 49, 3) := by decide +kernel
theorem dX6_restore_4 : decode cX6_restore 4 = .ok (.ifCond .ne 6, 3) := by decide +kernel
theorem dX6_restore_7 : decode cX6_restore 7 = .ok (.bipush (-5), 2) := by decide +kernel
theorem dX6_restore_9 : decode cX6_restore 9 = .ok (.ireturn, 1) := by decide +kernel
theorem dX6_restore_10 : decode cX6_restore 10 = .ok (.aload_n 0, 1) := by decide +kernel
theorem dX6_restore_11 : decode cX6_restore 11 = .ok (.invokevirtual 46, 3) := by decide +kernel
theorem dX6_restore_14 : decode cX6_restore 14 = .ok (.aload_n 0, 1) := by decide +kernel
theorem dX6_restore_15 : decode cX6_restore 15 = .ok (.getfield 22, 3) := by decide +kernel
theorem dX6_restore_18 : decode cX6_restore 18 = .ok (.iconst 0, 1) := by decide +kernel
theorem dX6_restore_19 : decode cX6_restore 19 = .ok (.aload_n 0, 1) := by decide +kernel
theorem dX6_restore_20 : decode cX6_restore 20 = .ok (.getfield 7, 3) := by decide +kernel
theorem dX6_restore_23 : decode cX6_restore 23 = .ok (.iconst 0, 1) := by decide +kernel
theorem dX6_restore_24 : decode cX6_restore 24 = .ok (.invokestatic 42, 3) := by decide +kernel
theorem dX6_restore_27 : decode cX6_restore 27 = .ok (.aload_n 0, 1) := by decide +kernel
theorem dX6_restore_28 : decode cX6_restore 28 = .ok (.getfield 7, 3) := by decide +kernel
theorem dX6_restore_31 : decode cX6_restore 31 = .ok (.iconst 0, 1) := by decide +kernel
theorem dX6_restore_32 : decode cX6_restore 32 = .ok (.iaload, 1) := by decide +kernel
theorem dX6_restore_33 : decode cX6_restore 33 = .ok (.ireturn, 1) := by decide +kernel
theorem dX6_holds_0 : decode cX6_holds 0 = .ok (.aload_n 0, 1) := by decide +kernel
theorem dX6_holds_1 : decode cX6_holds 1 = .ok (.bipush 65, 2) := by decide +kernel
theorem dX6_holds_3 : decode cX6_holds 3 = .ok (.iconst 3, 1) := by decide +kernel
theorem dX6_holds_4 : decode cX6_holds 4 = .ok (.iload_n 1, 1) := by decide +kernel
theorem dX6_holds_5 : decode cX6_holds 5 = .ok (.imul, 1) := by decide +kernel
theorem dX6_holds_6 : decode cX6_holds 6 = .ok (.iadd, 1) := by decide +kernel
theorem dX6_holds_7 : decode cX6_holds 7 = .ok (.iaload, 1) := by decide +kernel
theorem dX6_holds_8 : decode cX6_holds 8 = .ok (.ireturn, 1) := by decide +kernel
theorem dX6_weak_0 : decode cX6_weak 0 = .ok (.aload_n 0, 1) := by decide +kernel
theorem dX6_weak_1 : decode cX6_weak 1 = .ok (.bipush 65, 2) := by decide +kernel
theorem dX6_weak_3 : decode cX6_weak 3 = .ok (.iconst 3, 1) := by decide +kernel
theorem dX6_weak_4 : decode cX6_weak 4 = .ok (.iload_n 1, 1) := by decide +kernel
theorem dX6_weak_5 : decode cX6_weak 5 = .ok (.imul, 1) := by decide +kernel
theorem dX6_weak_6 : decode cX6_weak 6 = .ok (.iadd, 1) := by decide +kernel
theorem dX6_weak_7 : decode cX6_weak 7 = .ok (.iconst 1, 1) := by decide +kernel
theorem dX6_weak_8 : decode cX6_weak 8 = .ok (.iadd, 1) := by decide +kernel
theorem dX6_weak_9 : decode cX6_weak 9 = .ok (.iaload, 1) := by decide +kernel
theorem dX6_weak_10 : decode cX6_weak 10 = .ok (.ireturn, 1) := by decide +kernel
theorem dX6_placeOf_0 : decode cX6_placeOf 0 = .ok (.iconst 0, 1) := by decide +kernel
theorem dX6_placeOf_1 : decode cX6_placeOf 1 = .ok (.istore_n 2, 1) := by decide +kernel
theorem dX6_placeOf_2 : decode cX6_placeOf 2 = .ok (.iload_n 2, 1) := by decide +kernel
theorem dX6_placeOf_3 : decode cX6_placeOf 3 = .ok (.bipush 48, 2) := by decide +kernel
theorem dX6_placeOf_5 : decode cX6_placeOf 5 = .ok (.if_icmp .ge 20, 3) := by decide +kernel
theorem dX6_placeOf_8 : decode cX6_placeOf 8 = .ok (.aload_n 0, 1) := by decide +kernel
theorem dX6_placeOf_9 : decode cX6_placeOf 9 = .ok (.iload_n 2, 1) := by decide +kernel
theorem dX6_placeOf_10 : decode cX6_placeOf 10 = .ok (.invokestatic 53, 3) := by decide +kernel
theorem dX6_placeOf_13 : decode cX6_placeOf 13 = .ok (.iload_n 1, 1) := by decide +kernel
theorem dX6_placeOf_14 : decode cX6_placeOf 14 = .ok (.if_icmp .ne 5, 3) := by decide +kernel
theorem dX6_placeOf_17 : decode cX6_placeOf 17 = .ok (.iload_n 2, 1) := by decide +kernel
theorem dX6_placeOf_18 : decode cX6_placeOf 18 = .ok (.ireturn, 1) := by decide +kernel
theorem dX6_placeOf_19 : decode cX6_placeOf 19 = .ok (.iinc 2 1, 3) := by decide +kernel
theorem dX6_placeOf_22 : decode cX6_placeOf 22 = .ok (.goto (-20), 3) := by decide +kernel
theorem dX6_placeOf_25 : decode cX6_placeOf 25 = .ok (.bipush (-5), 2) := by decide +kernel
theorem dX6_placeOf_27 : decode cX6_placeOf 27 = .ok (.ireturn, 1) := by decide +kernel
theorem dX6_kind_0 : decode cX6_kind 0 = .ok (.aload_n 0, 1) := by decide +kernel
theorem dX6_kind_1 : decode cX6_kind 1 = .ok (.bipush 41, 2) := by decide +kernel
theorem dX6_kind_3 : decode cX6_kind 3 = .ok (.iconst 4, 1) := by decide +kernel
theorem dX6_kind_4 : decode cX6_kind 4 = .ok (.iload_n 1, 1) := by decide +kernel
theorem dX6_kind_5 : decode cX6_kind 5 = .ok (.imul, 1) := by decide +kernel
theorem dX6_kind_6 : decode cX6_kind 6 = .ok (.iadd, 1) := by decide +kernel
theorem dX6_kind_7 : decode cX6_kind 7 = .ok (.iaload, 1) := by decide +kernel
theorem dX6_kind_8 : decode cX6_kind 8 = .ok (.ireturn, 1) := by decide +kernel
theorem dX6_bears_0 : decode cX6_bears 0 = .ok (.aload_n 0, 1) := by decide +kernel
theorem dX6_bears_1 : decode cX6_bears 1 = .ok (.bipush 41, 2) := by decide +kernel
theorem dX6_bears_3 : decode cX6_bears 3 = .ok (.iconst 4, 1) := by decide +kernel
theorem dX6_bears_4 : decode cX6_bears 4 = .ok (.iload_n 1, 1) := by decide +kernel
theorem dX6_bears_5 : decode cX6_bears 5 = .ok (.imul, 1) := by decide +kernel
theorem dX6_bears_6 : decode cX6_bears 6 = .ok (.iadd, 1) := by decide +kernel
theorem dX6_bears_7 : decode cX6_bears 7 = .ok (.iconst 1, 1) := by decide +kernel
theorem dX6_bears_8 : decode cX6_bears 8 = .ok (.iadd, 1) := by decide +kernel
theorem dX6_bears_9 : decode cX6_bears 9 = .ok (.iaload, 1) := by decide +kernel
theorem dX6_bears_10 : decode cX6_bears 10 = .ok (.istore_n 2, 1) := by decide +kernel
theorem dX6_bears_11 : decode cX6_bears 11 = .ok (.aload_n 0, 1) := by decide +kernel
theorem dX6_bears_12 : decode cX6_bears 12 = .ok (.iload_n 1, 1) := by decide +kernel
theorem dX6_bears_13 : decode cX6_bears 13 = .ok (.invokestatic 57, 3) := by decide +kernel
theorem dX6_bears_16 : decode cX6_bears 16 = .ok (.ifCond .ne 13, 3) := by decide +kernel
theorem dX6_bears_19 : decode cX6_bears 19 = .ok (.sipush 400, 3) := by decide +kernel
theorem dX6_bears_22 : decode cX6_bears 22 = .ok (.iconst 4, 1) := by decide +kernel
theorem dX6_bears_23 : decode cX6_bears 23 = .ok (.iload_n 2, 1) := by decide +kernel
theorem dX6_bears_24 : decode cX6_bears 24 = .ok (.imul, 1) := by decide +kernel
theorem dX6_bears_25 : decode cX6_bears 25 = .ok (.isub, 1) := by decide +kernel
theorem dX6_bears_26 : decode cX6_bears 26 = .ok (.goto 29, 3) := by decide +kernel
theorem dX6_bears_29 : decode cX6_bears 29 = .ok (.aload_n 0, 1) := by decide +kernel
theorem dX6_bears_30 : decode cX6_bears 30 = .ok (.iload_n 1, 1) := by decide +kernel
theorem dX6_bears_31 : decode cX6_bears 31 = .ok (.invokestatic 57, 3) := by decide +kernel
theorem dX6_bears_34 : decode cX6_bears 34 = .ok (.iconst 1, 1) := by decide +kernel
theorem dX6_bears_35 : decode cX6_bears 35 = .ok (.if_icmp .ne 13, 3) := by decide +kernel
theorem dX6_bears_38 : decode cX6_bears 38 = .ok (.sipush 200, 3) := by decide +kernel
theorem dX6_bears_41 : decode cX6_bears 41 = .ok (.iconst 5, 1) := by decide +kernel
theorem dX6_bears_42 : decode cX6_bears 42 = .ok (.iload_n 2, 1) := by decide +kernel
theorem dX6_bears_43 : decode cX6_bears 43 = .ok (.imul, 1) := by decide +kernel
theorem dX6_bears_44 : decode cX6_bears 44 = .ok (.isub, 1) := by decide +kernel
theorem dX6_bears_45 : decode cX6_bears 45 = .ok (.goto 10, 3) := by decide +kernel
theorem dX6_bears_48 : decode cX6_bears 48 = .ok (.bipush 100, 2) := by decide +kernel
theorem dX6_bears_50 : decode cX6_bears 50 = .ok (.bipush 10, 2) := by decide +kernel
theorem dX6_bears_52 : decode cX6_bears 52 = .ok (.iload_n 2, 1) := by decide +kernel
theorem dX6_bears_53 : decode cX6_bears 53 = .ok (.imul, 1) := by decide +kernel
theorem dX6_bears_54 : decode cX6_bears 54 = .ok (.isub, 1) := by decide +kernel
theorem dX6_bears_55 : decode cX6_bears 55 = .ok (.istore_n 3, 1) := by decide +kernel
theorem dX6_bears_56 : decode cX6_bears 56 = .ok (.iload_n 3, 1) := by decide +kernel
theorem dX6_bears_57 : decode cX6_bears 57 = .ok (.bipush 20, 2) := by decide +kernel
theorem dX6_bears_59 : decode cX6_bears 59 = .ok (.if_icmp .ge 8, 3) := by decide +kernel
theorem dX6_bears_62 : decode cX6_bears 62 = .ok (.bipush 20, 2) := by decide +kernel
theorem dX6_bears_64 : decode cX6_bears 64 = .ok (.goto 4, 3) := by decide +kernel
theorem dX6_bears_67 : decode cX6_bears 67 = .ok (.iload_n 3, 1) := by decide +kernel
theorem dX6_bears_68 : decode cX6_bears 68 = .ok (.ireturn, 1) := by decide +kernel
theorem dX6_many_0 : decode cX6_many 0 = .ok (.iconst 0, 1) := by decide +kernel
theorem dX6_many_1 : decode cX6_many 1 = .ok (.istore_n 3, 1) := by decide +kernel
theorem dX6_many_2 : decode cX6_many 2 = .ok (.bipush 8, 2) := by decide +kernel
theorem dX6_many_4 : decode cX6_many 4 = .ok (.iload_n 1, 1) := by decide +kernel
theorem dX6_many_5 : decode cX6_many 5 = .ok (.imul, 1) := by decide +kernel
theorem dX6_many_6 : decode cX6_many 6 = .ok (.istore 4, 2) := by decide +kernel
theorem dX6_many_8 : decode cX6_many 8 = .ok (.iload 4, 2) := by decide +kernel
theorem dX6_many_10 : decode cX6_many 10 = .ok (.bipush 8, 2) := by decide +kernel
theorem dX6_many_12 : decode cX6_many 12 = .ok (.iload_n 1, 1) := by decide +kernel
theorem dX6_many_13 : decode cX6_many 13 = .ok (.imul, 1) := by decide +kernel
theorem dX6_many_14 : decode cX6_many 14 = .ok (.bipush 8, 2) := by decide +kernel
theorem dX6_many_16 : decode cX6_many 16 = .ok (.iadd, 1) := by decide +kernel
theorem dX6_many_17 : decode cX6_many 17 = .ok (.if_icmp .ge 48, 3) := by decide +kernel
theorem dX6_many_20 : decode cX6_many 20 = .ok (.iload_n 3, 1) := by decide +kernel
theorem dX6_many_21 : decode cX6_many 21 = .ok (.iload_n 2, 1) := by decide +kernel
theorem dX6_many_22 : decode cX6_many 22 = .ok (.ifCond .ne 20, 3) := by decide +kernel
theorem dX6_many_25 : decode cX6_many 25 = .ok (.aload_n 0, 1) := by decide +kernel
theorem dX6_many_26 : decode cX6_many 26 = .ok (.iload 4, 2) := by decide +kernel
theorem dX6_many_28 : decode cX6_many 28 = .ok (.invokestatic 53, 3) := by decide +kernel
theorem dX6_many_31 : decode cX6_many 31 = .ok (.ifCond .lt 7, 3) := by decide +kernel
theorem dX6_many_34 : decode cX6_many 34 = .ok (.iconst 1, 1) := by decide +kernel
theorem dX6_many_35 : decode cX6_many 35 = .ok (.goto 22, 3) := by decide +kernel
theorem dX6_many_38 : decode cX6_many 38 = .ok (.iconst 0, 1) := by decide +kernel
theorem dX6_many_39 : decode cX6_many 39 = .ok (.goto 18, 3) := by decide +kernel
theorem dX6_many_42 : decode cX6_many 42 = .ok (.aload_n 0, 1) := by decide +kernel
theorem dX6_many_43 : decode cX6_many 43 = .ok (.iload 4, 2) := by decide +kernel
theorem dX6_many_45 : decode cX6_many 45 = .ok (.invokestatic 53, 3) := by decide +kernel
theorem dX6_many_48 : decode cX6_many 48 = .ok (.iload_n 2, 1) := by decide +kernel
theorem dX6_many_49 : decode cX6_many 49 = .ok (.if_icmp .ne 7, 3) := by decide +kernel
theorem dX6_many_52 : decode cX6_many 52 = .ok (.iconst 1, 1) := by decide +kernel
theorem dX6_many_53 : decode cX6_many 53 = .ok (.goto 4, 3) := by decide +kernel
theorem dX6_many_56 : decode cX6_many 56 = .ok (.iconst 0, 1) := by decide +kernel
theorem dX6_many_57 : decode cX6_many 57 = .ok (.iadd, 1) := by decide +kernel
theorem dX6_many_58 : decode cX6_many 58 = .ok (.istore_n 3, 1) := by decide +kernel
theorem dX6_many_59 : decode cX6_many 59 = .ok (.iinc 4 1, 3) := by decide +kernel
theorem dX6_many_62 : decode cX6_many 62 = .ok (.goto (-54), 3) := by decide +kernel
theorem dX6_many_65 : decode cX6_many 65 = .ok (.iload_n 3, 1) := by decide +kernel
theorem dX6_many_66 : decode cX6_many 66 = .ok (.ireturn, 1) := by decide +kernel
theorem dX6_isFree_0 : decode cX6_isFree 0 = .ok (.aload_n 0, 1) := by decide +kernel
theorem dX6_isFree_1 : decode cX6_isFree 1 = .ok (.bipush 6, 2) := by decide +kernel
theorem dX6_isFree_3 : decode cX6_isFree 3 = .ok (.iaload, 1) := by decide +kernel
theorem dX6_isFree_4 : decode cX6_isFree 4 = .ok (.iload_n 1, 1) := by decide +kernel
theorem dX6_isFree_5 : decode cX6_isFree 5 = .ok (.if_icmp .eq 18, 3) := by decide +kernel
theorem dX6_isFree_8 : decode cX6_isFree 8 = .ok (.aload_n 0, 1) := by decide +kernel
theorem dX6_isFree_9 : decode cX6_isFree 9 = .ok (.iload_n 1, 1) := by decide +kernel
theorem dX6_isFree_10 : decode cX6_isFree 10 = .ok (.iconst (-1), 1) := by decide +kernel
theorem dX6_isFree_11 : decode cX6_isFree 11 = .ok (.invokestatic 60, 3) := by decide +kernel
theorem dX6_isFree_14 : decode cX6_isFree 14 = .ok (.bipush 8, 2) := by decide +kernel
theorem dX6_isFree_16 : decode cX6_isFree 16 = .ok (.if_icmp .ne 7, 3) := by decide +kernel
theorem dX6_isFree_19 : decode cX6_isFree 19 = .ok (.iconst 1, 1) := by decide +kernel
theorem dX6_isFree_20 : decode cX6_isFree 20 = .ok (.goto 4, 3) := by decide +kernel
theorem dX6_isFree_23 : decode cX6_isFree 23 = .ok (.iconst 0, 1) := by decide +kernel
theorem dX6_isFree_24 : decode cX6_isFree 24 = .ok (.ireturn, 1) := by decide +kernel
theorem dX6_free_0 : decode cX6_free 0 = .ok (.iconst 0, 1) := by decide +kernel
theorem dX6_free_1 : decode cX6_free 1 = .ok (.istore_n 1, 1) := by decide +kernel
theorem dX6_free_2 : decode cX6_free 2 = .ok (.iconst 0, 1) := by decide +kernel
theorem dX6_free_3 : decode cX6_free 3 = .ok (.istore_n 2, 1) := by decide +kernel
theorem dX6_free_4 : decode cX6_free 4 = .ok (.iload_n 2, 1) := by decide +kernel
theorem dX6_free_5 : decode cX6_free 5 = .ok (.bipush 6, 2) := by decide +kernel
theorem dX6_free_7 : decode cX6_free 7 = .ok (.if_icmp .ge 25, 3) := by decide +kernel
theorem dX6_free_10 : decode cX6_free 10 = .ok (.iload_n 1, 1) := by decide +kernel
theorem dX6_free_11 : decode cX6_free 11 = .ok (.aload_n 0, 1) := by decide +kernel
theorem dX6_free_12 : decode cX6_free 12 = .ok (.iload_n 2, 1) := by decide +kernel
theorem dX6_free_13 : decode cX6_free 13 = .ok (.invokestatic 64, 3) := by decide +kernel
theorem dX6_free_16 : decode cX6_free 16 = .ok (.ifCond .eq 7, 3) := by decide +kernel
theorem dX6_free_19 : decode cX6_free 19 = .ok (.iconst 1, 1) := by decide +kernel
theorem dX6_free_20 : decode cX6_free 20 = .ok (.goto 4, 3) := by decide +kernel
theorem dX6_free_23 : decode cX6_free 23 = .ok (.iconst 0, 1) := by decide +kernel
theorem dX6_free_24 : decode cX6_free 24 = .ok (.iadd, 1) := by decide +kernel
theorem dX6_free_25 : decode cX6_free 25 = .ok (.istore_n 1, 1) := by decide +kernel
theorem dX6_free_26 : decode cX6_free 26 = .ok (.iinc 2 1, 3) := by decide +kernel
theorem dX6_free_29 : decode cX6_free 29 = .ok (.goto (-25), 3) := by decide +kernel
theorem dX6_free_32 : decode cX6_free 32 = .ok (.iload_n 1, 1) := by decide +kernel
theorem dX6_free_33 : decode cX6_free 33 = .ok (.ireturn, 1) := by decide +kernel
theorem dX6_weaker_0 : decode cX6_weaker 0 = .ok (.iload_n 1, 1) := by decide +kernel
theorem dX6_weaker_1 : decode cX6_weaker 1 = .ok (.iload_n 2, 1) := by decide +kernel
theorem dX6_weaker_2 : decode cX6_weaker 2 = .ok (.if_icmp .ge 9, 3) := by decide +kernel
theorem dX6_weaker_5 : decode cX6_weaker 5 = .ok (.iload_n 2, 1) := by decide +kernel
theorem dX6_weaker_6 : decode cX6_weaker 6 = .ok (.iload_n 1, 1) := by decide +kernel
theorem dX6_weaker_7 : decode cX6_weaker 7 = .ok (.isub, 1) := by decide +kernel
theorem dX6_weaker_8 : decode cX6_weaker 8 = .ok (.goto 6, 3) := by decide +kernel
theorem dX6_weaker_11 : decode cX6_weaker 11 = .ok (.iload_n 1, 1) := by decide +kernel
theorem dX6_weaker_12 : decode cX6_weaker 12 = .ok (.iload_n 2, 1) := by decide +kernel
theorem dX6_weaker_13 : decode cX6_weaker 13 = .ok (.isub, 1) := by decide +kernel
theorem dX6_weaker_14 : decode cX6_weaker 14 = .ok (.istore_n 3, 1) := by decide +kernel
theorem dX6_weaker_15 : decode cX6_weaker 15 = .ok (.iload_n 3, 1) := by decide +kernel
theorem dX6_weaker_16 : decode cX6_weaker 16 = .ok (.ifCond .ne 5, 3) := by decide +kernel
theorem dX6_weaker_19 : decode cX6_weaker 19 = .ok (.iconst 1, 1) := by decide +kernel
theorem dX6_weaker_20 : decode cX6_weaker 20 = .ok (.ireturn, 1) := by decide +kernel
theorem dX6_weaker_21 : decode cX6_weaker 21 = .ok (.iload_n 3, 1) := by decide +kernel
theorem dX6_weaker_22 : decode cX6_weaker 22 = .ok (.iconst 1, 1) := by decide +kernel
theorem dX6_weaker_23 : decode cX6_weaker 23 = .ok (.if_icmp .ne 7, 3) := by decide +kernel
theorem dX6_weaker_26 : decode cX6_weaker 26 = .ok (.iconst 4, 1) := by decide +kernel
theorem dX6_weaker_27 : decode cX6_weaker 27 = .ok (.goto 13, 3) := by decide +kernel
theorem dX6_weaker_30 : decode cX6_weaker 30 = .ok (.iload_n 3, 1) := by decide +kernel
theorem dX6_weaker_31 : decode cX6_weaker 31 = .ok (.iconst 2, 1) := by decide +kernel
theorem dX6_weaker_32 : decode cX6_weaker 32 = .ok (.if_icmp .ne 7, 3) := by decide +kernel
theorem dX6_weaker_35 : decode cX6_weaker 35 = .ok (.iconst 2, 1) := by decide +kernel
theorem dX6_weaker_36 : decode cX6_weaker 36 = .ok (.goto 4, 3) := by decide +kernel
theorem dX6_weaker_39 : decode cX6_weaker 39 = .ok (.iconst 1, 1) := by decide +kernel
theorem dX6_weaker_40 : decode cX6_weaker 40 = .ok (.aload_n 0, 1) := by decide +kernel
theorem dX6_weaker_41 : decode cX6_weaker 41 = .ok (.iload_n 1, 1) := by decide +kernel
theorem dX6_weaker_42 : decode cX6_weaker 42 = .ok (.bipush 8, 2) := by decide +kernel
theorem dX6_weaker_44 : decode cX6_weaker 44 = .ok (.idiv, 1) := by decide +kernel
theorem dX6_weaker_45 : decode cX6_weaker 45 = .ok (.invokestatic 57, 3) := by decide +kernel
theorem dX6_weaker_48 : decode cX6_weaker 48 = .ok (.iconst 2, 1) := by decide +kernel
theorem dX6_weaker_49 : decode cX6_weaker 49 = .ok (.if_icmp .ne 7, 3) := by decide +kernel
theorem dX6_weaker_52 : decode cX6_weaker 52 = .ok (.iconst 2, 1) := by decide +kernel
theorem dX6_weaker_53 : decode cX6_weaker 53 = .ok (.goto 4, 3) := by decide +kernel
theorem dX6_weaker_56 : decode cX6_weaker 56 = .ok (.iconst 1, 1) := by decide +kernel
theorem dX6_weaker_57 : decode cX6_weaker 57 = .ok (.imul, 1) := by decide +kernel
theorem dX6_weaker_58 : decode cX6_weaker 58 = .ok (.ireturn, 1) := by decide +kernel
theorem dX6_readsLeft_0 : decode cX6_readsLeft 0 = .ok (.iload_n 1, 1) := by decide +kernel
theorem dX6_readsLeft_1 : decode cX6_readsLeft 1 = .ok (.bipush 8, 2) := by decide +kernel
theorem dX6_readsLeft_3 : decode cX6_readsLeft 3 = .ok (.idiv, 1) := by decide +kernel
theorem dX6_readsLeft_4 : decode cX6_readsLeft 4 = .ok (.istore_n 2, 1) := by decide +kernel
theorem dX6_readsLeft_5 : decode cX6_readsLeft 5 = .ok (.ldc 68, 2) := by decide +kernel
theorem dX6_readsLeft_7 : decode cX6_readsLeft 7 = .ok (.istore_n 3, 1) := by decide +kernel
theorem dX6_readsLeft_8 : decode cX6_readsLeft 8 = .ok (.bipush 8, 2) := by decide +kernel
theorem dX6_readsLeft_10 : decode cX6_readsLeft 10 = .ok (.iload_n 2, 1) := by decide +kernel
theorem dX6_readsLeft_11 : decode cX6_readsLeft 11 = .ok (.imul, 1) := by decide +kernel
theorem dX6_readsLeft_12 : decode cX6_readsLeft 12 = .ok (.istore 4, 2) := by decide +kernel
theorem dX6_readsLeft_14 : decode cX6_readsLeft 14 = .ok (.iload 4, 2) := by decide +kernel
theorem dX6_readsLeft_16 : decode cX6_readsLeft 16 = .ok (.bipush 8, 2) := by decide +kernel
theorem dX6_readsLeft_18 : decode cX6_readsLeft 18 = .ok (.iload_n 2, 1) := by decide +kernel
theorem dX6_readsLeft_19 : decode cX6_readsLeft 19 = .ok (.imul, 1) := by decide +kernel
theorem dX6_readsLeft_20 : decode cX6_readsLeft 20 = .ok (.bipush 8, 2) := by decide +kernel
theorem dX6_readsLeft_22 : decode cX6_readsLeft 22 = .ok (.iadd, 1) := by decide +kernel
theorem dX6_readsLeft_23 : decode cX6_readsLeft 23 = .ok (.if_icmp .ge 53, 3) := by decide +kernel
theorem dX6_readsLeft_26 : decode cX6_readsLeft 26 = .ok (.aload_n 0, 1) := by decide +kernel
theorem dX6_readsLeft_27 : decode cX6_readsLeft 27 = .ok (.iload_n 2, 1) := by decide +kernel
theorem dX6_readsLeft_28 : decode cX6_readsLeft 28 = .ok (.invokestatic 69, 3) := by decide +kernel
theorem dX6_readsLeft_31 : decode cX6_readsLeft 31 = .ok (.aload_n 0, 1) := by decide +kernel
theorem dX6_readsLeft_32 : decode cX6_readsLeft 32 = .ok (.iload 4, 2) := by decide +kernel
theorem dX6_readsLeft_34 : decode cX6_readsLeft 34 = .ok (.invokestatic 72, 3) := by decide +kernel
theorem dX6_readsLeft_37 : decode cX6_readsLeft 37 = .ok (.isub, 1) := by decide +kernel
theorem dX6_readsLeft_38 : decode cX6_readsLeft 38 = .ok (.aload_n 0, 1) := by decide +kernel
theorem dX6_readsLeft_39 : decode cX6_readsLeft 39 = .ok (.iload 4, 2) := by decide +kernel
theorem dX6_readsLeft_41 : decode cX6_readsLeft 41 = .ok (.iload_n 1, 1) := by decide +kernel
theorem dX6_readsLeft_42 : decode cX6_readsLeft 42 = .ok (.invokestatic 75, 3) := by decide +kernel
theorem dX6_readsLeft_45 : decode cX6_readsLeft 45 = .ok (.idiv, 1) := by decide +kernel
theorem dX6_readsLeft_46 : decode cX6_readsLeft 46 = .ok (.istore 5, 2) := by decide +kernel
theorem dX6_readsLeft_48 : decode cX6_readsLeft 48 = .ok (.aload_n 0, 1) := by decide +kernel
theorem dX6_readsLeft_49 : decode cX6_readsLeft 49 = .ok (.iload 4, 2) := by decide +kernel
theorem dX6_readsLeft_51 : decode cX6_readsLeft 51 = .ok (.invokestatic 53, 3) := by decide +kernel
theorem dX6_readsLeft_54 : decode cX6_readsLeft 54 = .ok (.ifCond .lt 14, 3) := by decide +kernel
theorem dX6_readsLeft_57 : decode cX6_readsLeft 57 = .ok (.iload 5, 2) := by decide +kernel
theorem dX6_readsLeft_59 : decode cX6_readsLeft 59 = .ok (.iload_n 3, 1) := by decide +kernel
theorem dX6_readsLeft_60 : decode cX6_readsLeft 60 = .ok (.if_icmp .ge 8, 3) := by decide +kernel
theorem dX6_readsLeft_63 : decode cX6_readsLeft 63 = .ok (.iload 5, 2) := by decide +kernel
theorem dX6_readsLeft_65 : decode cX6_readsLeft 65 = .ok (.goto 4, 3) := by decide +kernel
theorem dX6_readsLeft_68 : decode cX6_readsLeft 68 = .ok (.iload_n 3, 1) := by decide +kernel
theorem dX6_readsLeft_69 : decode cX6_readsLeft 69 = .ok (.istore_n 3, 1) := by decide +kernel
theorem dX6_readsLeft_70 : decode cX6_readsLeft 70 = .ok (.iinc 4 1, 3) := by decide +kernel
theorem dX6_readsLeft_73 : decode cX6_readsLeft 73 = .ok (.goto (-59), 3) := by decide +kernel
theorem dX6_readsLeft_76 : decode cX6_readsLeft 76 = .ok (.iload_n 3, 1) := by decide +kernel
theorem dX6_readsLeft_77 : decode cX6_readsLeft 77 = .ok (.ifCond .ge 7, 3) := by decide +kernel
theorem dX6_readsLeft_80 : decode cX6_readsLeft 80 = .ok (.iconst 0, 1) := by decide +kernel
theorem dX6_readsLeft_81 : decode cX6_readsLeft 81 = .ok (.goto 4, 3) := by decide +kernel
theorem dX6_readsLeft_84 : decode cX6_readsLeft 84 = .ok (.iload_n 3, 1) := by decide +kernel
theorem dX6_readsLeft_85 : decode cX6_readsLeft 85 = .ok (.ireturn, 1) := by decide +kernel
theorem dX6_reads_0 : decode cX6_reads 0 = .ok (.iload_n 1, 1) := by decide +kernel
theorem dX6_reads_1 : decode cX6_reads 1 = .ok (.bipush 8, 2) := by decide +kernel
theorem dX6_reads_3 : decode cX6_reads 3 = .ok (.idiv, 1) := by decide +kernel
theorem dX6_reads_4 : decode cX6_reads 4 = .ok (.istore_n 2, 1) := by decide +kernel
theorem dX6_reads_5 : decode cX6_reads 5 = .ok (.bipush 8, 2) := by decide +kernel
theorem dX6_reads_7 : decode cX6_reads 7 = .ok (.iload_n 2, 1) := by decide +kernel
theorem dX6_reads_8 : decode cX6_reads 8 = .ok (.imul, 1) := by decide +kernel
theorem dX6_reads_9 : decode cX6_reads 9 = .ok (.istore_n 3, 1) := by decide +kernel
theorem dX6_reads_10 : decode cX6_reads 10 = .ok (.iload_n 3, 1) := by decide +kernel
theorem dX6_reads_11 : decode cX6_reads 11 = .ok (.bipush 8, 2) := by decide +kernel
theorem dX6_reads_13 : decode cX6_reads 13 = .ok (.iload_n 2, 1) := by decide +kernel
theorem dX6_reads_14 : decode cX6_reads 14 = .ok (.imul, 1) := by decide +kernel
theorem dX6_reads_15 : decode cX6_reads 15 = .ok (.bipush 8, 2) := by decide +kernel
theorem dX6_reads_17 : decode cX6_reads 17 = .ok (.iadd, 1) := by decide +kernel
theorem dX6_reads_18 : decode cX6_reads 18 = .ok (.if_icmp .ge 40, 3) := by decide +kernel
theorem dX6_reads_21 : decode cX6_reads 21 = .ok (.aload_n 0, 1) := by decide +kernel
theorem dX6_reads_22 : decode cX6_reads 22 = .ok (.bipush 65, 2) := by decide +kernel
theorem dX6_reads_24 : decode cX6_reads 24 = .ok (.iconst 3, 1) := by decide +kernel
theorem dX6_reads_25 : decode cX6_reads 25 = .ok (.iload_n 3, 1) := by decide +kernel
theorem dX6_reads_26 : decode cX6_reads 26 = .ok (.imul, 1) := by decide +kernel
theorem dX6_reads_27 : decode cX6_reads 27 = .ok (.iadd, 1) := by decide +kernel
theorem dX6_reads_28 : decode cX6_reads 28 = .ok (.iconst 1, 1) := by decide +kernel
theorem dX6_reads_29 : decode cX6_reads 29 = .ok (.iadd, 1) := by decide +kernel
theorem dX6_reads_30 : decode cX6_reads 30 = .ok (.dup2, 1) := by decide +kernel
theorem dX6_reads_31 : decode cX6_reads 31 = .ok (.iaload, 1) := by decide +kernel
theorem dX6_reads_32 : decode cX6_reads 32 = .ok (.aload_n 0, 1) := by decide +kernel
theorem dX6_reads_33 : decode cX6_reads 33 = .ok (.iload_n 3, 1) := by decide +kernel
theorem dX6_reads_34 : decode cX6_reads 34 = .ok (.invokestatic 53, 3) := by decide +kernel
theorem dX6_reads_37 : decode cX6_reads 37 = .ok (.ifCond .lt 12, 3) := by decide +kernel
theorem dX6_reads_40 : decode cX6_reads 40 = .ok (.aload_n 0, 1) := by decide +kernel
theorem dX6_reads_41 : decode cX6_reads 41 = .ok (.iload_n 3, 1) := by decide +kernel
theorem dX6_reads_42 : decode cX6_reads 42 = .ok (.iload_n 1, 1) := by decide +kernel
theorem dX6_reads_43 : decode cX6_reads 43 = .ok (.invokestatic 75, 3) := by decide +kernel
theorem dX6_reads_46 : decode cX6_reads 46 = .ok (.goto 4, 3) := by decide +kernel
theorem dX6_reads_49 : decode cX6_reads 49 = .ok (.iconst 0, 1) := by decide +kernel
theorem dX6_reads_50 : decode cX6_reads 50 = .ok (.iadd, 1) := by decide +kernel
theorem dX6_reads_51 : decode cX6_reads 51 = .ok (.iastore, 1) := by decide +kernel
theorem dX6_reads_52 : decode cX6_reads 52 = .ok (.iinc 3 1, 3) := by decide +kernel
theorem dX6_reads_55 : decode cX6_reads 55 = .ok (.goto (-45), 3) := by decide +kernel
theorem dX6_reads_58 : decode cX6_reads 58 = .ok (.aload_n 0, 1) := by decide +kernel
theorem dX6_reads_59 : decode cX6_reads 59 = .ok (.bipush 41, 2) := by decide +kernel
theorem dX6_reads_61 : decode cX6_reads 61 = .ok (.iconst 4, 1) := by decide +kernel
theorem dX6_reads_62 : decode cX6_reads 62 = .ok (.iload_n 2, 1) := by decide +kernel
theorem dX6_reads_63 : decode cX6_reads 63 = .ok (.imul, 1) := by decide +kernel
theorem dX6_reads_64 : decode cX6_reads 64 = .ok (.iadd, 1) := by decide +kernel
theorem dX6_reads_65 : decode cX6_reads 65 = .ok (.iconst 3, 1) := by decide +kernel
theorem dX6_reads_66 : decode cX6_reads 66 = .ok (.iadd, 1) := by decide +kernel
theorem dX6_reads_67 : decode cX6_reads 67 = .ok (.dup2, 1) := by decide +kernel
theorem dX6_reads_68 : decode cX6_reads 68 = .ok (.iaload, 1) := by decide +kernel
theorem dX6_reads_69 : decode cX6_reads 69 = .ok (.iconst 1, 1) := by decide +kernel
theorem dX6_reads_70 : decode cX6_reads 70 = .ok (.iadd, 1) := by decide +kernel
theorem dX6_reads_71 : decode cX6_reads 71 = .ok (.iastore, 1) := by decide +kernel
theorem dX6_reads_72 : decode cX6_reads 72 = .ok (.return_, 1) := by decide +kernel
theorem dX6_greatest_0 : decode cX6_greatest 0 = .ok (.iconst 0, 1) := by decide +kernel
theorem dX6_greatest_1 : decode cX6_greatest 1 = .ok (.istore_n 2, 1) := by decide +kernel
theorem dX6_greatest_2 : decode cX6_greatest 2 = .ok (.bipush 8, 2) := by decide +kernel
theorem dX6_greatest_4 : decode cX6_greatest 4 = .ok (.iload_n 1, 1) := by decide +kernel
theorem dX6_greatest_5 : decode cX6_greatest 5 = .ok (.imul, 1) := by decide +kernel
theorem dX6_greatest_6 : decode cX6_greatest 6 = .ok (.istore_n 3, 1) := by decide +kernel
theorem dX6_greatest_7 : decode cX6_greatest 7 = .ok (.iload_n 3, 1) := by decide +kernel
theorem dX6_greatest_8 : decode cX6_greatest 8 = .ok (.bipush 8, 2) := by decide +kernel
theorem dX6_greatest_10 : decode cX6_greatest 10 = .ok (.iload_n 1, 1) := by decide +kernel
theorem dX6_greatest_11 : decode cX6_greatest 11 = .ok (.imul, 1) := by decide +kernel
theorem dX6_greatest_12 : decode cX6_greatest 12 = .ok (.bipush 8, 2) := by decide +kernel
theorem dX6_greatest_14 : decode cX6_greatest 14 = .ok (.iadd, 1) := by decide +kernel
theorem dX6_greatest_15 : decode cX6_greatest 15 = .ok (.if_icmp .ge 36, 3) := by decide +kernel
theorem dX6_greatest_18 : decode cX6_greatest 18 = .ok (.aload_n 0, 1) := by decide +kernel
theorem dX6_greatest_19 : decode cX6_greatest 19 = .ok (.iload_n 3, 1) := by decide +kernel
theorem dX6_greatest_20 : decode cX6_greatest 20 = .ok (.invokestatic 53, 3) := by decide +kernel
theorem dX6_greatest_23 : decode cX6_greatest 23 = .ok (.ifCond .lt 20, 3) := by decide +kernel
theorem dX6_greatest_26 : decode cX6_greatest 26 = .ok (.aload_n 0, 1) := by decide +kernel
theorem dX6_greatest_27 : decode cX6_greatest 27 = .ok (.iload_n 3, 1) := by decide +kernel
theorem dX6_greatest_28 : decode cX6_greatest 28 = .ok (.invokestatic 72, 3) := by decide +kernel
theorem dX6_greatest_31 : decode cX6_greatest 31 = .ok (.iload_n 2, 1) := by decide +kernel
theorem dX6_greatest_32 : decode cX6_greatest 32 = .ok (.if_icmp .le 11, 3) := by decide +kernel
theorem dX6_greatest_35 : decode cX6_greatest 35 = .ok (.aload_n 0, 1) := by decide +kernel
theorem dX6_greatest_36 : decode cX6_greatest 36 = .ok (.iload_n 3, 1) := by decide +kernel
theorem dX6_greatest_37 : decode cX6_greatest 37 = .ok (.invokestatic 72, 3) := by decide +kernel
theorem dX6_greatest_40 : decode cX6_greatest 40 = .ok (.goto 4, 3) := by decide +kernel
theorem dX6_greatest_43 : decode cX6_greatest 43 = .ok (.iload_n 2, 1) := by decide +kernel
theorem dX6_greatest_44 : decode cX6_greatest 44 = .ok (.istore_n 2, 1) := by decide +kernel
theorem dX6_greatest_45 : decode cX6_greatest 45 = .ok (.iinc 3 1, 3) := by decide +kernel
theorem dX6_greatest_48 : decode cX6_greatest 48 = .ok (.goto (-41), 3) := by decide +kernel
theorem dX6_greatest_51 : decode cX6_greatest 51 = .ok (.iload_n 2, 1) := by decide +kernel
theorem dX6_greatest_52 : decode cX6_greatest 52 = .ok (.ireturn, 1) := by decide +kernel
theorem dX6_hundredths_0 : decode cX6_hundredths 0 = .ok (.bipush 100, 2) := by decide +kernel
theorem dX6_hundredths_2 : decode cX6_hundredths 2 = .ok (.aload_n 0, 1) := by decide +kernel
theorem dX6_hundredths_3 : decode cX6_hundredths 3 = .ok (.iload_n 1, 1) := by decide +kernel
theorem dX6_hundredths_4 : decode cX6_hundredths 4 = .ok (.invokestatic 78, 3) := by decide +kernel
theorem dX6_hundredths_7 : decode cX6_hundredths 7 = .ok (.imul, 1) := by decide +kernel
theorem dX6_hundredths_8 : decode cX6_hundredths 8 = .ok (.aload_n 0, 1) := by decide +kernel
theorem dX6_hundredths_9 : decode cX6_hundredths 9 = .ok (.iload_n 1, 1) := by decide +kernel
theorem dX6_hundredths_10 : decode cX6_hundredths 10 = .ok (.invokestatic 69, 3) := by decide +kernel
theorem dX6_hundredths_13 : decode cX6_hundredths 13 = .ok (.idiv, 1) := by decide +kernel
theorem dX6_hundredths_14 : decode cX6_hundredths 14 = .ok (.ireturn, 1) := by decide +kernel
theorem dX6_isMarked_0 : decode cX6_isMarked 0 = .ok (.aload_n 0, 1) := by decide +kernel
theorem dX6_isMarked_1 : decode cX6_isMarked 1 = .ok (.bipush 41, 2) := by decide +kernel
theorem dX6_isMarked_3 : decode cX6_isMarked 3 = .ok (.iconst 4, 1) := by decide +kernel
theorem dX6_isMarked_4 : decode cX6_isMarked 4 = .ok (.iload_n 1, 1) := by decide +kernel
theorem dX6_isMarked_5 : decode cX6_isMarked 5 = .ok (.imul, 1) := by decide +kernel
theorem dX6_isMarked_6 : decode cX6_isMarked 6 = .ok (.iadd, 1) := by decide +kernel
theorem dX6_isMarked_7 : decode cX6_isMarked 7 = .ok (.iconst 2, 1) := by decide +kernel
theorem dX6_isMarked_8 : decode cX6_isMarked 8 = .ok (.iadd, 1) := by decide +kernel
theorem dX6_isMarked_9 : decode cX6_isMarked 9 = .ok (.iaload, 1) := by decide +kernel
theorem dX6_isMarked_10 : decode cX6_isMarked 10 = .ok (.iconst 1, 1) := by decide +kernel
theorem dX6_isMarked_11 : decode cX6_isMarked 11 = .ok (.if_icmp .ne 5, 3) := by decide +kernel
theorem dX6_isMarked_14 : decode cX6_isMarked 14 = .ok (.iconst 1, 1) := by decide +kernel
theorem dX6_isMarked_15 : decode cX6_isMarked 15 = .ok (.ireturn, 1) := by decide +kernel
theorem dX6_isMarked_16 : decode cX6_isMarked 16 = .ok (.aload_n 0, 1) := by decide +kernel
theorem dX6_isMarked_17 : decode cX6_isMarked 17 = .ok (.iload_n 1, 1) := by decide +kernel
theorem dX6_isMarked_18 : decode cX6_isMarked 18 = .ok (.iconst 0, 1) := by decide +kernel
theorem dX6_isMarked_19 : decode cX6_isMarked 19 = .ok (.invokestatic 60, 3) := by decide +kernel
theorem dX6_isMarked_22 : decode cX6_isMarked 22 = .ok (.ifCond .ne 5, 3) := by decide +kernel
theorem dX6_isMarked_25 : decode cX6_isMarked 25 = .ok (.iconst 0, 1) := by decide +kernel
theorem dX6_isMarked_26 : decode cX6_isMarked 26 = .ok (.ireturn, 1) := by decide +kernel
theorem dX6_isMarked_27 : decode cX6_isMarked 27 = .ok (.iconst 0, 1) := by decide +kernel
theorem dX6_isMarked_28 : decode cX6_isMarked 28 = .ok (.istore_n 2, 1) := by decide +kernel
theorem dX6_isMarked_29 : decode cX6_isMarked 29 = .ok (.bipush 8, 2) := by decide +kernel
theorem dX6_isMarked_31 : decode cX6_isMarked 31 = .ok (.iload_n 1, 1) := by decide +kernel
theorem dX6_isMarked_32 : decode cX6_isMarked 32 = .ok (.imul, 1) := by decide +kernel
theorem dX6_isMarked_33 : decode cX6_isMarked 33 = .ok (.istore_n 3, 1) := by decide +kernel
theorem dX6_isMarked_34 : decode cX6_isMarked 34 = .ok (.iload_n 3, 1) := by decide +kernel
theorem dX6_isMarked_35 : decode cX6_isMarked 35 = .ok (.bipush 8, 2) := by decide +kernel
theorem dX6_isMarked_37 : decode cX6_isMarked 37 = .ok (.iload_n 1, 1) := by decide +kernel
theorem dX6_isMarked_38 : decode cX6_isMarked 38 = .ok (.imul, 1) := by decide +kernel
theorem dX6_isMarked_39 : decode cX6_isMarked 39 = .ok (.bipush 8, 2) := by decide +kernel
theorem dX6_isMarked_41 : decode cX6_isMarked 41 = .ok (.iadd, 1) := by decide +kernel
theorem dX6_isMarked_42 : decode cX6_isMarked 42 = .ok (.if_icmp .ge 47, 3) := by decide +kernel
theorem dX6_isMarked_45 : decode cX6_isMarked 45 = .ok (.iload_n 2, 1) := by decide +kernel
theorem dX6_isMarked_46 : decode cX6_isMarked 46 = .ok (.ifCond .ne 31, 3) := by decide +kernel
theorem dX6_isMarked_49 : decode cX6_isMarked 49 = .ok (.aload_n 0, 1) := by decide +kernel
theorem dX6_isMarked_50 : decode cX6_isMarked 50 = .ok (.iload_n 3, 1) := by decide +kernel
theorem dX6_isMarked_51 : decode cX6_isMarked 51 = .ok (.invokestatic 53, 3) := by decide +kernel
theorem dX6_isMarked_54 : decode cX6_isMarked 54 = .ok (.ifCond .lt 27, 3) := by decide +kernel
theorem dX6_isMarked_57 : decode cX6_isMarked 57 = .ok (.aload_n 0, 1) := by decide +kernel
theorem dX6_isMarked_58 : decode cX6_isMarked 58 = .ok (.iconst 0, 1) := by decide +kernel
theorem dX6_isMarked_59 : decode cX6_isMarked 59 = .ok (.iaload, 1) := by decide +kernel
theorem dX6_isMarked_60 : decode cX6_isMarked 60 = .ok (.aload_n 0, 1) := by decide +kernel
theorem dX6_isMarked_61 : decode cX6_isMarked 61 = .ok (.bipush 65, 2) := by decide +kernel
theorem dX6_isMarked_63 : decode cX6_isMarked 63 = .ok (.iconst 3, 1) := by decide +kernel
theorem dX6_isMarked_64 : decode cX6_isMarked 64 = .ok (.iload_n 3, 1) := by decide +kernel
theorem dX6_isMarked_65 : decode cX6_isMarked 65 = .ok (.imul, 1) := by decide +kernel
theorem dX6_isMarked_66 : decode cX6_isMarked 66 = .ok (.iadd, 1) := by decide +kernel
theorem dX6_isMarked_67 : decode cX6_isMarked 67 = .ok (.iconst 2, 1) := by decide +kernel
theorem dX6_isMarked_68 : decode cX6_isMarked 68 = .ok (.iadd, 1) := by decide +kernel
theorem dX6_isMarked_69 : decode cX6_isMarked 69 = .ok (.iaload, 1) := by decide +kernel
theorem dX6_isMarked_70 : decode cX6_isMarked 70 = .ok (.isub, 1) := by decide +kernel
theorem dX6_isMarked_71 : decode cX6_isMarked 71 = .ok (.aload_n 0, 1) := by decide +kernel
theorem dX6_isMarked_72 : decode cX6_isMarked 72 = .ok (.iconst 2, 1) := by decide +kernel
theorem dX6_isMarked_73 : decode cX6_isMarked 73 = .ok (.iaload, 1) := by decide +kernel
theorem dX6_isMarked_74 : decode cX6_isMarked 74 = .ok (.if_icmp .lt 7, 3) := by decide +kernel
theorem dX6_isMarked_77 : decode cX6_isMarked 77 = .ok (.iconst 1, 1) := by decide +kernel
theorem dX6_isMarked_78 : decode cX6_isMarked 78 = .ok (.goto 4, 3) := by decide +kernel
theorem dX6_isMarked_81 : decode cX6_isMarked 81 = .ok (.iconst 0, 1) := by decide +kernel
theorem dX6_isMarked_82 : decode cX6_isMarked 82 = .ok (.istore_n 2, 1) := by decide +kernel
theorem dX6_isMarked_83 : decode cX6_isMarked 83 = .ok (.iinc 3 1, 3) := by decide +kernel
theorem dX6_isMarked_86 : decode cX6_isMarked 86 = .ok (.goto (-52), 3) := by decide +kernel
theorem dX6_isMarked_89 : decode cX6_isMarked 89 = .ok (.iload_n 2, 1) := by decide +kernel
theorem dX6_isMarked_90 : decode cX6_isMarked 90 = .ok (.ifCond .ne 23, 3) := by decide +kernel
theorem dX6_isMarked_93 : decode cX6_isMarked 93 = .ok (.bipush 100, 2) := by decide +kernel
theorem dX6_isMarked_95 : decode cX6_isMarked 95 = .ok (.aload_n 0, 1) := by decide +kernel
theorem dX6_isMarked_96 : decode cX6_isMarked 96 = .ok (.iload_n 1, 1) := by decide +kernel
theorem dX6_isMarked_97 : decode cX6_isMarked 97 = .ok (.invokestatic 78, 3) := by decide +kernel
theorem dX6_isMarked_100 : decode cX6_isMarked 100 = .ok (.imul, 1) := by decide +kernel
theorem dX6_isMarked_101 : decode cX6_isMarked 101 = .ok (.aload_n 0, 1) := by decide +kernel
theorem dX6_isMarked_102 : decode cX6_isMarked 102 = .ok (.iconst 1, 1) := by decide +kernel
theorem dX6_isMarked_103 : decode cX6_isMarked 103 = .ok (.iaload, 1) := by decide +kernel
theorem dX6_isMarked_104 : decode cX6_isMarked 104 = .ok (.aload_n 0, 1) := by decide +kernel
theorem dX6_isMarked_105 : decode cX6_isMarked 105 = .ok (.iload_n 1, 1) := by decide +kernel
theorem dX6_isMarked_106 : decode cX6_isMarked 106 = .ok (.invokestatic 69, 3) := by decide +kernel
theorem dX6_isMarked_109 : decode cX6_isMarked 109 = .ok (.imul, 1) := by decide +kernel
theorem dX6_isMarked_110 : decode cX6_isMarked 110 = .ok (.if_icmp .lt 7, 3) := by decide +kernel
theorem dX6_isMarked_113 : decode cX6_isMarked 113 = .ok (.iconst 1, 1) := by decide +kernel
theorem dX6_isMarked_114 : decode cX6_isMarked 114 = .ok (.goto 4, 3) := by decide +kernel
theorem dX6_isMarked_117 : decode cX6_isMarked 117 = .ok (.iconst 0, 1) := by decide +kernel
theorem dX6_isMarked_118 : decode cX6_isMarked 118 = .ok (.ireturn, 1) := by decide +kernel
theorem dX6_marks_0 : decode cX6_marks 0 = .ok (.iconst 0, 1) := by decide +kernel
theorem dX6_marks_1 : decode cX6_marks 1 = .ok (.istore_n 1, 1) := by decide +kernel
theorem dX6_marks_2 : decode cX6_marks 2 = .ok (.iconst 0, 1) := by decide +kernel
theorem dX6_marks_3 : decode cX6_marks 3 = .ok (.istore_n 2, 1) := by decide +kernel
theorem dX6_marks_4 : decode cX6_marks 4 = .ok (.iload_n 2, 1) := by decide +kernel
theorem dX6_marks_5 : decode cX6_marks 5 = .ok (.bipush 6, 2) := by decide +kernel
theorem dX6_marks_7 : decode cX6_marks 7 = .ok (.if_icmp .ge 25, 3) := by decide +kernel
theorem dX6_marks_10 : decode cX6_marks 10 = .ok (.iload_n 1, 1) := by decide +kernel
theorem dX6_marks_11 : decode cX6_marks 11 = .ok (.aload_n 0, 1) := by decide +kernel
theorem dX6_marks_12 : decode cX6_marks 12 = .ok (.iload_n 2, 1) := by decide +kernel
theorem dX6_marks_13 : decode cX6_marks 13 = .ok (.invokestatic 81, 3) := by decide +kernel
theorem dX6_marks_16 : decode cX6_marks 16 = .ok (.ifCond .eq 7, 3) := by decide +kernel
theorem dX6_marks_19 : decode cX6_marks 19 = .ok (.iconst 1, 1) := by decide +kernel
theorem dX6_marks_20 : decode cX6_marks 20 = .ok (.goto 4, 3) := by decide +kernel
theorem dX6_marks_23 : decode cX6_marks 23 = .ok (.iconst 0, 1) := by decide +kernel
theorem dX6_marks_24 : decode cX6_marks 24 = .ok (.iadd, 1) := by decide +kernel
theorem dX6_marks_25 : decode cX6_marks 25 = .ok (.istore_n 1, 1) := by decide +kernel
theorem dX6_marks_26 : decode cX6_marks 26 = .ok (.iinc 2 1, 3) := by decide +kernel
theorem dX6_marks_29 : decode cX6_marks 29 = .ok (.goto (-25), 3) := by decide +kernel
theorem dX6_marks_32 : decode cX6_marks 32 = .ok (.iload_n 1, 1) := by decide +kernel
theorem dX6_marks_33 : decode cX6_marks 33 = .ok (.ireturn, 1) := by decide +kernel
theorem dX6_markedAt_0 : decode cX6_markedAt 0 = .ok (.iconst 0, 1) := by decide +kernel
theorem dX6_markedAt_1 : decode cX6_markedAt 1 = .ok (.istore_n 2, 1) := by decide +kernel
theorem dX6_markedAt_2 : decode cX6_markedAt 2 = .ok (.iload_n 2, 1) := by decide +kernel
theorem dX6_markedAt_3 : decode cX6_markedAt 3 = .ok (.bipush 6, 2) := by decide +kernel
theorem dX6_markedAt_5 : decode cX6_markedAt 5 = .ok (.if_icmp .ge 105, 3) := by decide +kernel
theorem dX6_markedAt_8 : decode cX6_markedAt 8 = .ok (.iconst 0, 1) := by decide +kernel
theorem dX6_markedAt_9 : decode cX6_markedAt 9 = .ok (.istore_n 3, 1) := by decide +kernel
theorem dX6_markedAt_10 : decode cX6_markedAt 10 = .ok (.iconst 0, 1) := by decide +kernel
theorem dX6_markedAt_11 : decode cX6_markedAt 11 = .ok (.istore 4, 2) := by decide +kernel
theorem dX6_markedAt_13 : decode cX6_markedAt 13 = .ok (.iload 4, 2) := by decide +kernel
theorem dX6_markedAt_15 : decode cX6_markedAt 15 = .ok (.bipush 6, 2) := by decide +kernel
theorem dX6_markedAt_17 : decode cX6_markedAt 17 = .ok (.if_icmp .ge 72, 3) := by decide +kernel
theorem dX6_markedAt_20 : decode cX6_markedAt 20 = .ok (.aload_n 0, 1) := by decide +kernel
theorem dX6_markedAt_21 : decode cX6_markedAt 21 = .ok (.iload 4, 2) := by decide +kernel
theorem dX6_markedAt_23 : decode cX6_markedAt 23 = .ok (.invokestatic 84, 3) := by decide +kernel
theorem dX6_markedAt_26 : decode cX6_markedAt 26 = .ok (.aload_n 0, 1) := by decide +kernel
theorem dX6_markedAt_27 : decode cX6_markedAt 27 = .ok (.iload_n 2, 1) := by decide +kernel
theorem dX6_markedAt_28 : decode cX6_markedAt 28 = .ok (.invokestatic 84, 3) := by decide +kernel
theorem dX6_markedAt_31 : decode cX6_markedAt 31 = .ok (.if_icmp .gt 23, 3) := by decide +kernel
theorem dX6_markedAt_34 : decode cX6_markedAt 34 = .ok (.aload_n 0, 1) := by decide +kernel
theorem dX6_markedAt_35 : decode cX6_markedAt 35 = .ok (.iload 4, 2) := by decide +kernel
theorem dX6_markedAt_37 : decode cX6_markedAt 37 = .ok (.invokestatic 84, 3) := by decide +kernel
theorem dX6_markedAt_40 : decode cX6_markedAt 40 = .ok (.aload_n 0, 1) := by decide +kernel
theorem dX6_markedAt_41 : decode cX6_markedAt 41 = .ok (.iload_n 2, 1) := by decide +kernel
theorem dX6_markedAt_42 : decode cX6_markedAt 42 = .ok (.invokestatic 84, 3) := by decide +kernel
theorem dX6_markedAt_45 : decode cX6_markedAt 45 = .ok (.if_icmp .ne 13, 3) := by decide +kernel
theorem dX6_markedAt_48 : decode cX6_markedAt 48 = .ok (.iload 4, 2) := by decide +kernel
theorem dX6_markedAt_50 : decode cX6_markedAt 50 = .ok (.iload_n 2, 1) := by decide +kernel
theorem dX6_markedAt_51 : decode cX6_markedAt 51 = .ok (.if_icmp .ge 7, 3) := by decide +kernel
theorem dX6_markedAt_54 : decode cX6_markedAt 54 = .ok (.iconst 1, 1) := by decide +kernel
theorem dX6_markedAt_55 : decode cX6_markedAt 55 = .ok (.goto 4, 3) := by decide +kernel
theorem dX6_markedAt_58 : decode cX6_markedAt 58 = .ok (.iconst 0, 1) := by decide +kernel
theorem dX6_markedAt_59 : decode cX6_markedAt 59 = .ok (.istore 5, 2) := by decide +kernel
theorem dX6_markedAt_61 : decode cX6_markedAt 61 = .ok (.iload_n 3, 1) := by decide +kernel
theorem dX6_markedAt_62 : decode cX6_markedAt 62 = .ok (.aload_n 0, 1) := by decide +kernel
theorem dX6_markedAt_63 : decode cX6_markedAt 63 = .ok (.iload 4, 2) := by decide +kernel
theorem dX6_markedAt_65 : decode cX6_markedAt 65 = .ok (.invokestatic 81, 3) := by decide +kernel
theorem dX6_markedAt_68 : decode cX6_markedAt 68 = .ok (.ifCond .eq 12, 3) := by decide +kernel
theorem dX6_markedAt_71 : decode cX6_markedAt 71 = .ok (.iload 5, 2) := by decide +kernel
theorem dX6_markedAt_73 : decode cX6_markedAt 73 = .ok (.ifCond .eq 7, 3) := by decide +kernel
theorem dX6_markedAt_76 : decode cX6_markedAt 76 = .ok (.iconst 1, 1) := by decide +kernel
theorem dX6_markedAt_77 : decode cX6_markedAt 77 = .ok (.goto 4, 3) := by decide +kernel
theorem dX6_markedAt_80 : decode cX6_markedAt 80 = .ok (.iconst 0, 1) := by decide +kernel
theorem dX6_markedAt_81 : decode cX6_markedAt 81 = .ok (.iadd, 1) := by decide +kernel
theorem dX6_markedAt_82 : decode cX6_markedAt 82 = .ok (.istore_n 3, 1) := by decide +kernel
theorem dX6_markedAt_83 : decode cX6_markedAt 83 = .ok (.iinc 4 1, 3) := by decide +kernel
theorem dX6_markedAt_86 : decode cX6_markedAt 86 = .ok (.goto (-73), 3) := by decide +kernel
theorem dX6_markedAt_89 : decode cX6_markedAt 89 = .ok (.aload_n 0, 1) := by decide +kernel
theorem dX6_markedAt_90 : decode cX6_markedAt 90 = .ok (.iload_n 2, 1) := by decide +kernel
theorem dX6_markedAt_91 : decode cX6_markedAt 91 = .ok (.invokestatic 81, 3) := by decide +kernel
theorem dX6_markedAt_94 : decode cX6_markedAt 94 = .ok (.ifCond .eq 10, 3) := by decide +kernel
theorem dX6_markedAt_97 : decode cX6_markedAt 97 = .ok (.iload_n 3, 1) := by decide +kernel
theorem dX6_markedAt_98 : decode cX6_markedAt 98 = .ok (.iload_n 1, 1) := by decide +kernel
theorem dX6_markedAt_99 : decode cX6_markedAt 99 = .ok (.if_icmp .ne 5, 3) := by decide +kernel
theorem dX6_markedAt_102 : decode cX6_markedAt 102 = .ok (.iload_n 2, 1) := by decide +kernel
theorem dX6_markedAt_103 : decode cX6_markedAt 103 = .ok (.ireturn, 1) := by decide +kernel
theorem dX6_markedAt_104 : decode cX6_markedAt 104 = .ok (.iinc 2 1, 3) := by decide +kernel
theorem dX6_markedAt_107 : decode cX6_markedAt 107 = .ok (.goto (-105), 3) := by decide +kernel
theorem dX6_markedAt_110 : decode cX6_markedAt 110 = .ok (.bipush (-5), 2) := by decide +kernel
theorem dX6_markedAt_112 : decode cX6_markedAt 112 = .ok (.ireturn, 1) := by decide +kernel
theorem dX6_buffered_0 : decode cX6_buffered 0 = .ok (.iconst 0, 1) := by decide +kernel
theorem dX6_buffered_1 : decode cX6_buffered 1 = .ok (.istore_n 2, 1) := by decide +kernel
theorem dX6_buffered_2 : decode cX6_buffered 2 = .ok (.iload_n 2, 1) := by decide +kernel
theorem dX6_buffered_3 : decode cX6_buffered 3 = .ok (.aload_n 0, 1) := by decide +kernel
theorem dX6_buffered_4 : decode cX6_buffered 4 = .ok (.bipush 11, 2) := by decide +kernel
theorem dX6_buffered_6 : decode cX6_buffered 6 = .ok (.iaload, 1) := by decide +kernel
theorem dX6_buffered_7 : decode cX6_buffered 7 = .ok (.if_icmp .ge 21, 3) := by decide +kernel
theorem dX6_buffered_10 : decode cX6_buffered 10 = .ok (.aload_n 0, 1) := by decide +kernel
theorem dX6_buffered_11 : decode cX6_buffered 11 = .ok (.bipush 12, 2) := by decide +kernel
theorem dX6_buffered_13 : decode cX6_buffered 13 = .ok (.iload_n 2, 1) := by decide +kernel
theorem dX6_buffered_14 : decode cX6_buffered 14 = .ok (.iadd, 1) := by decide +kernel
theorem dX6_buffered_15 : decode cX6_buffered 15 = .ok (.iaload, 1) := by decide +kernel
theorem dX6_buffered_16 : decode cX6_buffered 16 = .ok (.iload_n 1, 1) := by decide +kernel
theorem dX6_buffered_17 : decode cX6_buffered 17 = .ok (.if_icmp .ne 5, 3) := by decide +kernel
theorem dX6_buffered_20 : decode cX6_buffered 20 = .ok (.iload_n 2, 1) := by decide +kernel
theorem dX6_buffered_21 : decode cX6_buffered 21 = .ok (.ireturn, 1) := by decide +kernel
theorem dX6_buffered_22 : decode cX6_buffered 22 = .ok (.iinc 2 1, 3) := by decide +kernel
theorem dX6_buffered_25 : decode cX6_buffered 25 = .ok (.goto (-23), 3) := by decide +kernel
theorem dX6_buffered_28 : decode cX6_buffered 28 = .ok (.bipush (-5), 2) := by decide +kernel
theorem dX6_buffered_30 : decode cX6_buffered 30 = .ok (.ireturn, 1) := by decide +kernel
theorem dX6_leaves_0 : decode cX6_leaves 0 = .ok (.aload_n 0, 1) := by decide +kernel
theorem dX6_leaves_1 : decode cX6_leaves 1 = .ok (.iload_n 1, 1) := by decide +kernel
theorem dX6_leaves_2 : decode cX6_leaves 2 = .ok (.invokestatic 87, 3) := by decide +kernel
theorem dX6_leaves_5 : decode cX6_leaves 5 = .ok (.istore_n 2, 1) := by decide +kernel
theorem dX6_leaves_6 : decode cX6_leaves 6 = .ok (.iload_n 2, 1) := by decide +kernel
theorem dX6_leaves_7 : decode cX6_leaves 7 = .ok (.bipush (-5), 2) := by decide +kernel
theorem dX6_leaves_9 : decode cX6_leaves 9 = .ok (.if_icmp .eq 41, 3) := by decide +kernel
theorem dX6_leaves_12 : decode cX6_leaves 12 = .ok (.aload_n 0, 1) := by decide +kernel
theorem dX6_leaves_13 : decode cX6_leaves 13 = .ok (.bipush 11, 2) := by decide +kernel
theorem dX6_leaves_15 : decode cX6_leaves 15 = .ok (.dup2, 1) := by decide +kernel
theorem dX6_leaves_16 : decode cX6_leaves 16 = .ok (.iaload, 1) := by decide +kernel
theorem dX6_leaves_17 : decode cX6_leaves 17 = .ok (.iconst 1, 1) := by decide +kernel
theorem dX6_leaves_18 : decode cX6_leaves 18 = .ok (.isub, 1) := by decide +kernel
theorem dX6_leaves_19 : decode cX6_leaves 19 = .ok (.iastore, 1) := by decide +kernel
theorem dX6_leaves_20 : decode cX6_leaves 20 = .ok (.iload_n 2, 1) := by decide +kernel
theorem dX6_leaves_21 : decode cX6_leaves 21 = .ok (.istore_n 3, 1) := by decide +kernel
theorem dX6_leaves_22 : decode cX6_leaves 22 = .ok (.iload_n 3, 1) := by decide +kernel
theorem dX6_leaves_23 : decode cX6_leaves 23 = .ok (.aload_n 0, 1) := by decide +kernel
theorem dX6_leaves_24 : decode cX6_leaves 24 = .ok (.bipush 11, 2) := by decide +kernel
theorem dX6_leaves_26 : decode cX6_leaves 26 = .ok (.iaload, 1) := by decide +kernel
theorem dX6_leaves_27 : decode cX6_leaves 27 = .ok (.if_icmp .ge 23, 3) := by decide +kernel
theorem dX6_leaves_30 : decode cX6_leaves 30 = .ok (.aload_n 0, 1) := by decide +kernel
theorem dX6_leaves_31 : decode cX6_leaves 31 = .ok (.bipush 12, 2) := by decide +kernel
theorem dX6_leaves_33 : decode cX6_leaves 33 = .ok (.iload_n 3, 1) := by decide +kernel
theorem dX6_leaves_34 : decode cX6_leaves 34 = .ok (.iadd, 1) := by decide +kernel
theorem dX6_leaves_35 : decode cX6_leaves 35 = .ok (.aload_n 0, 1) := by decide +kernel
theorem dX6_leaves_36 : decode cX6_leaves 36 = .ok (.bipush 12, 2) := by decide +kernel
theorem dX6_leaves_38 : decode cX6_leaves 38 = .ok (.iload_n 3, 1) := by decide +kernel
theorem dX6_leaves_39 : decode cX6_leaves 39 = .ok (.iadd, 1) := by decide +kernel
theorem dX6_leaves_40 : decode cX6_leaves 40 = .ok (.iconst 1, 1) := by decide +kernel
theorem dX6_leaves_41 : decode cX6_leaves 41 = .ok (.iadd, 1) := by decide +kernel
theorem dX6_leaves_42 : decode cX6_leaves 42 = .ok (.iaload, 1) := by decide +kernel
theorem dX6_leaves_43 : decode cX6_leaves 43 = .ok (.iastore, 1) := by decide +kernel
theorem dX6_leaves_44 : decode cX6_leaves 44 = .ok (.iinc 3 1, 3) := by decide +kernel
theorem dX6_leaves_47 : decode cX6_leaves 47 = .ok (.goto (-25), 3) := by decide +kernel
theorem dX6_leaves_50 : decode cX6_leaves 50 = .ok (.return_, 1) := by decide +kernel
theorem dX6_fronts_0 : decode cX6_fronts 0 = .ok (.aload_n 0, 1) := by decide +kernel
theorem dX6_fronts_1 : decode cX6_fronts 1 = .ok (.iload_n 1, 1) := by decide +kernel
theorem dX6_fronts_2 : decode cX6_fronts 2 = .ok (.invokestatic 90, 3) := by decide +kernel
theorem dX6_fronts_5 : decode cX6_fronts 5 = .ok (.aload_n 0, 1) := by decide +kernel
theorem dX6_fronts_6 : decode cX6_fronts 6 = .ok (.iconst 4, 1) := by decide +kernel
theorem dX6_fronts_7 : decode cX6_fronts 7 = .ok (.iaload, 1) := by decide +kernel
theorem dX6_fronts_8 : decode cX6_fronts 8 = .ok (.ifCond .ne 4, 3) := by decide +kernel
theorem dX6_fronts_11 : decode cX6_fronts 11 = .ok (.return_, 1) := by decide +kernel
theorem dX6_fronts_12 : decode cX6_fronts 12 = .ok (.aload_n 0, 1) := by decide +kernel
theorem dX6_fronts_13 : decode cX6_fronts 13 = .ok (.bipush 11, 2) := by decide +kernel
theorem dX6_fronts_15 : decode cX6_fronts 15 = .ok (.aload_n 0, 1) := by decide +kernel
theorem dX6_fronts_16 : decode cX6_fronts 16 = .ok (.bipush 11, 2) := by decide +kernel
theorem dX6_fronts_18 : decode cX6_fronts 18 = .ok (.iaload, 1) := by decide +kernel
theorem dX6_fronts_19 : decode cX6_fronts 19 = .ok (.aload_n 0, 1) := by decide +kernel
theorem dX6_fronts_20 : decode cX6_fronts 20 = .ok (.iconst 4, 1) := by decide +kernel
theorem dX6_fronts_21 : decode cX6_fronts 21 = .ok (.iaload, 1) := by decide +kernel
theorem dX6_fronts_22 : decode cX6_fronts 22 = .ok (.if_icmp .ne 12, 3) := by decide +kernel
theorem dX6_fronts_25 : decode cX6_fronts 25 = .ok (.aload_n 0, 1) := by decide +kernel
theorem dX6_fronts_26 : decode cX6_fronts 26 = .ok (.bipush 11, 2) := by decide +kernel
theorem dX6_fronts_28 : decode cX6_fronts 28 = .ok (.iaload, 1) := by decide +kernel
theorem dX6_fronts_29 : decode cX6_fronts 29 = .ok (.iconst 1, 1) := by decide +kernel
theorem dX6_fronts_30 : decode cX6_fronts 30 = .ok (.isub, 1) := by decide +kernel
theorem dX6_fronts_31 : decode cX6_fronts 31 = .ok (.goto 7, 3) := by decide +kernel
theorem dX6_fronts_34 : decode cX6_fronts 34 = .ok (.aload_n 0, 1) := by decide +kernel
theorem dX6_fronts_35 : decode cX6_fronts 35 = .ok (.bipush 11, 2) := by decide +kernel
theorem dX6_fronts_37 : decode cX6_fronts 37 = .ok (.iaload, 1) := by decide +kernel
theorem dX6_fronts_38 : decode cX6_fronts 38 = .ok (.iastore, 1) := by decide +kernel
theorem dX6_fronts_39 : decode cX6_fronts 39 = .ok (.aload_n 0, 1) := by decide +kernel
theorem dX6_fronts_40 : decode cX6_fronts 40 = .ok (.bipush 11, 2) := by decide +kernel
theorem dX6_fronts_42 : decode cX6_fronts 42 = .ok (.iaload, 1) := by decide +kernel
theorem dX6_fronts_43 : decode cX6_fronts 43 = .ok (.istore_n 2, 1) := by decide +kernel
theorem dX6_fronts_44 : decode cX6_fronts 44 = .ok (.iload_n 2, 1) := by decide +kernel
theorem dX6_fronts_45 : decode cX6_fronts 45 = .ok (.ifCond .le 23, 3) := by decide +kernel
theorem dX6_fronts_48 : decode cX6_fronts 48 = .ok (.aload_n 0, 1) := by decide +kernel
theorem dX6_fronts_49 : decode cX6_fronts 49 = .ok (.bipush 12, 2) := by decide +kernel
theorem dX6_fronts_51 : decode cX6_fronts 51 = .ok (.iload_n 2, 1) := by decide +kernel
theorem dX6_fronts_52 : decode cX6_fronts 52 = .ok (.iadd, 1) := by decide +kernel
theorem dX6_fronts_53 : decode cX6_fronts 53 = .ok (.aload_n 0, 1) := by decide +kernel
theorem dX6_fronts_54 : decode cX6_fronts 54 = .ok (.bipush 12, 2) := by decide +kernel
theorem dX6_fronts_56 : decode cX6_fronts 56 = .ok (.iload_n 2, 1) := by decide +kernel
theorem dX6_fronts_57 : decode cX6_fronts 57 = .ok (.iadd, 1) := by decide +kernel
theorem dX6_fronts_58 : decode cX6_fronts 58 = .ok (.iconst 1, 1) := by decide +kernel
theorem dX6_fronts_59 : decode cX6_fronts 59 = .ok (.isub, 1) := by decide +kernel
theorem dX6_fronts_60 : decode cX6_fronts 60 = .ok (.iaload, 1) := by decide +kernel
theorem dX6_fronts_61 : decode cX6_fronts 61 = .ok (.iastore, 1) := by decide +kernel
theorem dX6_fronts_62 : decode cX6_fronts 62 = .ok (.iinc 2 (-1), 3) := by decide +kernel
theorem dX6_fronts_65 : decode cX6_fronts 65 = .ok (.goto (-21), 3) := by decide +kernel
theorem dX6_fronts_68 : decode cX6_fronts 68 = .ok (.aload_n 0, 1) := by decide +kernel
theorem dX6_fronts_69 : decode cX6_fronts 69 = .ok (.bipush 12, 2) := by decide +kernel
theorem dX6_fronts_71 : decode cX6_fronts 71 = .ok (.iload_n 1, 1) := by decide +kernel
theorem dX6_fronts_72 : decode cX6_fronts 72 = .ok (.iastore, 1) := by decide +kernel
theorem dX6_fronts_73 : decode cX6_fronts 73 = .ok (.aload_n 0, 1) := by decide +kernel
theorem dX6_fronts_74 : decode cX6_fronts 74 = .ok (.bipush 11, 2) := by decide +kernel
theorem dX6_fronts_76 : decode cX6_fronts 76 = .ok (.dup2, 1) := by decide +kernel
theorem dX6_fronts_77 : decode cX6_fronts 77 = .ok (.iaload, 1) := by decide +kernel
theorem dX6_fronts_78 : decode cX6_fronts 78 = .ok (.iconst 1, 1) := by decide +kernel
theorem dX6_fronts_79 : decode cX6_fronts 79 = .ok (.iadd, 1) := by decide +kernel
theorem dX6_fronts_80 : decode cX6_fronts 80 = .ok (.iastore, 1) := by decide +kernel
theorem dX6_fronts_81 : decode cX6_fronts 81 = .ok (.return_, 1) := by decide +kernel
theorem dX6_isOpenFull_0 : decode cX6_isOpenFull 0 = .ok (.aload_n 0, 1) := by decide +kernel
theorem dX6_isOpenFull_1 : decode cX6_isOpenFull 1 = .ok (.bipush 6, 2) := by decide +kernel
theorem dX6_isOpenFull_3 : decode cX6_isOpenFull 3 = .ok (.iaload, 1) := by decide +kernel
theorem dX6_isOpenFull_4 : decode cX6_isOpenFull 4 = .ok (.bipush (-5), 2) := by decide +kernel
theorem dX6_isOpenFull_6 : decode cX6_isOpenFull 6 = .ok (.if_icmp .eq 15, 3) := by decide +kernel
theorem dX6_isOpenFull_9 : decode cX6_isOpenFull 9 = .ok (.aload_n 0, 1) := by decide +kernel
theorem dX6_isOpenFull_10 : decode cX6_isOpenFull 10 = .ok (.aload_n 0, 1) := by decide +kernel
theorem dX6_isOpenFull_11 : decode cX6_isOpenFull 11 = .ok (.bipush 6, 2) := by decide +kernel
theorem dX6_isOpenFull_13 : decode cX6_isOpenFull 13 = .ok (.iaload, 1) := by decide +kernel
theorem dX6_isOpenFull_14 : decode cX6_isOpenFull 14 = .ok (.iconst (-1), 1) := by decide +kernel
theorem dX6_isOpenFull_15 : decode cX6_isOpenFull 15 = .ok (.invokestatic 60, 3) := by decide +kernel
theorem dX6_isOpenFull_18 : decode cX6_isOpenFull 18 = .ok (.ifCond .ne 7, 3) := by decide +kernel
theorem dX6_isOpenFull_21 : decode cX6_isOpenFull 21 = .ok (.iconst 1, 1) := by decide +kernel
theorem dX6_isOpenFull_22 : decode cX6_isOpenFull 22 = .ok (.goto 4, 3) := by decide +kernel
theorem dX6_isOpenFull_25 : decode cX6_isOpenFull 25 = .ok (.iconst 0, 1) := by decide +kernel
theorem dX6_isOpenFull_26 : decode cX6_isOpenFull 26 = .ok (.ireturn, 1) := by decide +kernel
theorem dX6_bestFree_0 : decode cX6_bestFree 0 = .ok (.bipush (-5), 2) := by decide +kernel
theorem dX6_bestFree_2 : decode cX6_bestFree 2 = .ok (.istore_n 1, 1) := by decide +kernel
theorem dX6_bestFree_3 : decode cX6_bestFree 3 = .ok (.iconst 0, 1) := by decide +kernel
theorem dX6_bestFree_4 : decode cX6_bestFree 4 = .ok (.istore_n 2, 1) := by decide +kernel
theorem dX6_bestFree_5 : decode cX6_bestFree 5 = .ok (.iload_n 2, 1) := by decide +kernel
theorem dX6_bestFree_6 : decode cX6_bestFree 6 = .ok (.bipush 6, 2) := by decide +kernel
theorem dX6_bestFree_8 : decode cX6_bestFree 8 = .ok (.if_icmp .ge 52, 3) := by decide +kernel
theorem dX6_bestFree_11 : decode cX6_bestFree 11 = .ok (.aload_n 0, 1) := by decide +kernel
theorem dX6_bestFree_12 : decode cX6_bestFree 12 = .ok (.iload_n 2, 1) := by decide +kernel
theorem dX6_bestFree_13 : decode cX6_bestFree 13 = .ok (.invokestatic 64, 3) := by decide +kernel
theorem dX6_bestFree_16 : decode cX6_bestFree 16 = .ok (.ifCond .eq 36, 3) := by decide +kernel
theorem dX6_bestFree_19 : decode cX6_bestFree 19 = .ok (.iload_n 1, 1) := by decide +kernel
theorem dX6_bestFree_20 : decode cX6_bestFree 20 = .ok (.bipush (-5), 2) := by decide +kernel
theorem dX6_bestFree_22 : decode cX6_bestFree 22 = .ok (.if_icmp .eq 26, 3) := by decide +kernel
theorem dX6_bestFree_25 : decode cX6_bestFree 25 = .ok (.aload_n 0, 1) := by decide +kernel
theorem dX6_bestFree_26 : decode cX6_bestFree 26 = .ok (.bipush 41, 2) := by decide +kernel
theorem dX6_bestFree_28 : decode cX6_bestFree 28 = .ok (.iconst 4, 1) := by decide +kernel
theorem dX6_bestFree_29 : decode cX6_bestFree 29 = .ok (.iload_n 2, 1) := by decide +kernel
theorem dX6_bestFree_30 : decode cX6_bestFree 30 = .ok (.imul, 1) := by decide +kernel
theorem dX6_bestFree_31 : decode cX6_bestFree 31 = .ok (.iadd, 1) := by decide +kernel
theorem dX6_bestFree_32 : decode cX6_bestFree 32 = .ok (.iconst 1, 1) := by decide +kernel
theorem dX6_bestFree_33 : decode cX6_bestFree 33 = .ok (.iadd, 1) := by decide +kernel
theorem dX6_bestFree_34 : decode cX6_bestFree 34 = .ok (.iaload, 1) := by decide +kernel
theorem dX6_bestFree_35 : decode cX6_bestFree 35 = .ok (.aload_n 0, 1) := by decide +kernel
theorem dX6_bestFree_36 : decode cX6_bestFree 36 = .ok (.bipush 41, 2) := by decide +kernel
theorem dX6_bestFree_38 : decode cX6_bestFree 38 = .ok (.iconst 4, 1) := by decide +kernel
theorem dX6_bestFree_39 : decode cX6_bestFree 39 = .ok (.iload_n 1, 1) := by decide +kernel
theorem dX6_bestFree_40 : decode cX6_bestFree 40 = .ok (.imul, 1) := by decide +kernel
theorem dX6_bestFree_41 : decode cX6_bestFree 41 = .ok (.iadd, 1) := by decide +kernel
theorem dX6_bestFree_42 : decode cX6_bestFree 42 = .ok (.iconst 1, 1) := by decide +kernel
theorem dX6_bestFree_43 : decode cX6_bestFree 43 = .ok (.iadd, 1) := by decide +kernel
theorem dX6_bestFree_44 : decode cX6_bestFree 44 = .ok (.iaload, 1) := by decide +kernel
theorem dX6_bestFree_45 : decode cX6_bestFree 45 = .ok (.if_icmp .ge 7, 3) := by decide +kernel
theorem dX6_bestFree_48 : decode cX6_bestFree 48 = .ok (.iload_n 2, 1) := by decide +kernel
theorem dX6_bestFree_49 : decode cX6_bestFree 49 = .ok (.goto 4, 3) := by decide +kernel
theorem dX6_bestFree_52 : decode cX6_bestFree 52 = .ok (.iload_n 1, 1) := by decide +kernel
theorem dX6_bestFree_53 : decode cX6_bestFree 53 = .ok (.istore_n 1, 1) := by decide +kernel
theorem dX6_bestFree_54 : decode cX6_bestFree 54 = .ok (.iinc 2 1, 3) := by decide +kernel
theorem dX6_bestFree_57 : decode cX6_bestFree 57 = .ok (.goto (-52), 3) := by decide +kernel
theorem dX6_bestFree_60 : decode cX6_bestFree 60 = .ok (.iload_n 1, 1) := by decide +kernel
theorem dX6_bestFree_61 : decode cX6_bestFree 61 = .ok (.ireturn, 1) := by decide +kernel
theorem dX6_gives_0 : decode cX6_gives 0 = .ok (.aload_n 0, 1) := by decide +kernel
theorem dX6_gives_1 : decode cX6_gives 1 = .ok (.invokestatic 94, 3) := by decide +kernel
theorem dX6_gives_4 : decode cX6_gives 4 = .ok (.ifCond .eq 11, 3) := by decide +kernel
theorem dX6_gives_7 : decode cX6_gives 7 = .ok (.aload_n 0, 1) := by decide +kernel
theorem dX6_gives_8 : decode cX6_gives 8 = .ok (.bipush 6, 2) := by decide +kernel
theorem dX6_gives_10 : decode cX6_gives 10 = .ok (.aload_n 0, 1) := by decide +kernel
theorem dX6_gives_11 : decode cX6_gives 11 = .ok (.invokestatic 98, 3) := by decide +kernel
theorem dX6_gives_14 : decode cX6_gives 14 = .ok (.iastore, 1) := by decide +kernel
theorem dX6_gives_15 : decode cX6_gives 15 = .ok (.aload_n 0, 1) := by decide +kernel
theorem dX6_gives_16 : decode cX6_gives 16 = .ok (.iload_n 1, 1) := by decide +kernel
theorem dX6_gives_17 : decode cX6_gives 17 = .ok (.invokestatic 102, 3) := by decide +kernel
theorem dX6_gives_20 : decode cX6_gives 20 = .ok (.istore_n 2, 1) := by decide +kernel
theorem dX6_gives_21 : decode cX6_gives 21 = .ok (.iload_n 2, 1) := by decide +kernel
theorem dX6_gives_22 : decode cX6_gives 22 = .ok (.bipush (-5), 2) := by decide +kernel
theorem dX6_gives_24 : decode cX6_gives 24 = .ok (.if_icmp .eq 13, 3) := by decide +kernel
theorem dX6_gives_27 : decode cX6_gives 27 = .ok (.aload_n 0, 1) := by decide +kernel
theorem dX6_gives_28 : decode cX6_gives 28 = .ok (.bipush 65, 2) := by decide +kernel
theorem dX6_gives_30 : decode cX6_gives 30 = .ok (.iconst 3, 1) := by decide +kernel
theorem dX6_gives_31 : decode cX6_gives 31 = .ok (.iload_n 2, 1) := by decide +kernel
theorem dX6_gives_32 : decode cX6_gives 32 = .ok (.imul, 1) := by decide +kernel
theorem dX6_gives_33 : decode cX6_gives 33 = .ok (.iadd, 1) := by decide +kernel
theorem dX6_gives_34 : decode cX6_gives 34 = .ok (.bipush (-2), 2) := by decide +kernel
theorem dX6_gives_36 : decode cX6_gives 36 = .ok (.iastore, 1) := by decide +kernel
theorem dX6_gives_37 : decode cX6_gives 37 = .ok (.bipush 8, 2) := by decide +kernel
theorem dX6_gives_39 : decode cX6_gives 39 = .ok (.aload_n 0, 1) := by decide +kernel
theorem dX6_gives_40 : decode cX6_gives 40 = .ok (.bipush 6, 2) := by decide +kernel
theorem dX6_gives_42 : decode cX6_gives 42 = .ok (.iaload, 1) := by decide +kernel
theorem dX6_gives_43 : decode cX6_gives 43 = .ok (.imul, 1) := by decide +kernel
theorem dX6_gives_44 : decode cX6_gives 44 = .ok (.istore_n 3, 1) := by decide +kernel
theorem dX6_gives_45 : decode cX6_gives 45 = .ok (.aload_n 0, 1) := by decide +kernel
theorem dX6_gives_46 : decode cX6_gives 46 = .ok (.iload_n 3, 1) := by decide +kernel
theorem dX6_gives_47 : decode cX6_gives 47 = .ok (.invokestatic 53, 3) := by decide +kernel
theorem dX6_gives_50 : decode cX6_gives 50 = .ok (.iconst (-1), 1) := by decide +kernel
theorem dX6_gives_51 : decode cX6_gives 51 = .ok (.if_icmp .eq 9, 3) := by decide +kernel
theorem dX6_gives_54 : decode cX6_gives 54 = .ok (.iinc 3 1, 3) := by decide +kernel
theorem dX6_gives_57 : decode cX6_gives 57 = .ok (.goto (-12), 3) := by decide +kernel
theorem dX6_gives_60 : decode cX6_gives 60 = .ok (.aload_n 0, 1) := by decide +kernel
theorem dX6_gives_61 : decode cX6_gives 61 = .ok (.bipush 65, 2) := by decide +kernel
theorem dX6_gives_63 : decode cX6_gives 63 = .ok (.iconst 3, 1) := by decide +kernel
theorem dX6_gives_64 : decode cX6_gives 64 = .ok (.iload_n 3, 1) := by decide +kernel
theorem dX6_gives_65 : decode cX6_gives 65 = .ok (.imul, 1) := by decide +kernel
theorem dX6_gives_66 : decode cX6_gives 66 = .ok (.iadd, 1) := by decide +kernel
theorem dX6_gives_67 : decode cX6_gives 67 = .ok (.iload_n 1, 1) := by decide +kernel
theorem dX6_gives_68 : decode cX6_gives 68 = .ok (.iastore, 1) := by decide +kernel
theorem dX6_gives_69 : decode cX6_gives 69 = .ok (.aload_n 0, 1) := by decide +kernel
theorem dX6_gives_70 : decode cX6_gives 70 = .ok (.bipush 65, 2) := by decide +kernel
theorem dX6_gives_72 : decode cX6_gives 72 = .ok (.iconst 3, 1) := by decide +kernel
theorem dX6_gives_73 : decode cX6_gives 73 = .ok (.iload_n 3, 1) := by decide +kernel
theorem dX6_gives_74 : decode cX6_gives 74 = .ok (.imul, 1) := by decide +kernel
theorem dX6_gives_75 : decode cX6_gives 75 = .ok (.iadd, 1) := by decide +kernel
theorem dX6_gives_76 : decode cX6_gives 76 = .ok (.iconst 1, 1) := by decide +kernel
theorem dX6_gives_77 : decode cX6_gives 77 = .ok (.iadd, 1) := by decide +kernel
theorem dX6_gives_78 : decode cX6_gives 78 = .ok (.iconst 0, 1) := by decide +kernel
theorem dX6_gives_79 : decode cX6_gives 79 = .ok (.iastore, 1) := by decide +kernel
theorem dX6_gives_80 : decode cX6_gives 80 = .ok (.aload_n 0, 1) := by decide +kernel
theorem dX6_gives_81 : decode cX6_gives 81 = .ok (.bipush 65, 2) := by decide +kernel
theorem dX6_gives_83 : decode cX6_gives 83 = .ok (.iconst 3, 1) := by decide +kernel
theorem dX6_gives_84 : decode cX6_gives 84 = .ok (.iload_n 3, 1) := by decide +kernel
theorem dX6_gives_85 : decode cX6_gives 85 = .ok (.imul, 1) := by decide +kernel
theorem dX6_gives_86 : decode cX6_gives 86 = .ok (.iadd, 1) := by decide +kernel
theorem dX6_gives_87 : decode cX6_gives 87 = .ok (.iconst 2, 1) := by decide +kernel
theorem dX6_gives_88 : decode cX6_gives 88 = .ok (.iadd, 1) := by decide +kernel
theorem dX6_gives_89 : decode cX6_gives 89 = .ok (.aload_n 0, 1) := by decide +kernel
theorem dX6_gives_90 : decode cX6_gives 90 = .ok (.iconst 0, 1) := by decide +kernel
theorem dX6_gives_91 : decode cX6_gives 91 = .ok (.iaload, 1) := by decide +kernel
theorem dX6_gives_92 : decode cX6_gives 92 = .ok (.iastore, 1) := by decide +kernel
theorem dX6_gives_93 : decode cX6_gives 93 = .ok (.iload_n 3, 1) := by decide +kernel
theorem dX6_gives_94 : decode cX6_gives 94 = .ok (.ireturn, 1) := by decide +kernel
theorem dX6_lowestPage_0 : decode cX6_lowestPage 0 = .ok (.bipush 8, 2) := by decide +kernel
theorem dX6_lowestPage_2 : decode cX6_lowestPage 2 = .ok (.iload_n 1, 1) := by decide +kernel
theorem dX6_lowestPage_3 : decode cX6_lowestPage 3 = .ok (.imul, 1) := by decide +kernel
theorem dX6_lowestPage_4 : decode cX6_lowestPage 4 = .ok (.istore_n 2, 1) := by decide +kernel
theorem dX6_lowestPage_5 : decode cX6_lowestPage 5 = .ok (.iload_n 2, 1) := by decide +kernel
theorem dX6_lowestPage_6 : decode cX6_lowestPage 6 = .ok (.bipush 8, 2) := by decide +kernel
theorem dX6_lowestPage_8 : decode cX6_lowestPage 8 = .ok (.iload_n 1, 1) := by decide +kernel
theorem dX6_lowestPage_9 : decode cX6_lowestPage 9 = .ok (.imul, 1) := by decide +kernel
theorem dX6_lowestPage_10 : decode cX6_lowestPage 10 = .ok (.bipush 8, 2) := by decide +kernel
theorem dX6_lowestPage_12 : decode cX6_lowestPage 12 = .ok (.iadd, 1) := by decide +kernel
theorem dX6_lowestPage_13 : decode cX6_lowestPage 13 = .ok (.if_icmp .ge 19, 3) := by decide +kernel
theorem dX6_lowestPage_16 : decode cX6_lowestPage 16 = .ok (.aload_n 0, 1) := by decide +kernel
theorem dX6_lowestPage_17 : decode cX6_lowestPage 17 = .ok (.iload_n 2, 1) := by decide +kernel
theorem dX6_lowestPage_18 : decode cX6_lowestPage 18 = .ok (.invokestatic 53, 3) := by decide +kernel
theorem dX6_lowestPage_21 : decode cX6_lowestPage 21 = .ok (.ifCond .lt 5, 3) := by decide +kernel
theorem dX6_lowestPage_24 : decode cX6_lowestPage 24 = .ok (.iload_n 2, 1) := by decide +kernel
theorem dX6_lowestPage_25 : decode cX6_lowestPage 25 = .ok (.ireturn, 1) := by decide +kernel
theorem dX6_lowestPage_26 : decode cX6_lowestPage 26 = .ok (.iinc 2 1, 3) := by decide +kernel
theorem dX6_lowestPage_29 : decode cX6_lowestPage 29 = .ok (.goto (-24), 3) := by decide +kernel
theorem dX6_lowestPage_32 : decode cX6_lowestPage 32 = .ok (.bipush (-5), 2) := by decide +kernel
theorem dX6_lowestPage_34 : decode cX6_lowestPage 34 = .ok (.ireturn, 1) := by decide +kernel
theorem dX6_shuts_0 : decode cX6_shuts 0 = .ok (.aload_n 0, 1) := by decide +kernel
theorem dX6_shuts_1 : decode cX6_shuts 1 = .ok (.bipush 6, 2) := by decide +kernel
theorem dX6_shuts_3 : decode cX6_shuts 3 = .ok (.aload_n 0, 1) := by decide +kernel
theorem dX6_shuts_4 : decode cX6_shuts 4 = .ok (.bipush 6, 2) := by decide +kernel
theorem dX6_shuts_6 : decode cX6_shuts 6 = .ok (.iaload, 1) := by decide +kernel
theorem dX6_shuts_7 : decode cX6_shuts 7 = .ok (.iload_n 1, 1) := by decide +kernel
theorem dX6_shuts_8 : decode cX6_shuts 8 = .ok (.if_icmp .ne 8, 3) := by decide +kernel
theorem dX6_shuts_11 : decode cX6_shuts 11 = .ok (.bipush (-5), 2) := by decide +kernel
theorem dX6_shuts_13 : decode cX6_shuts 13 = .ok (.goto 7, 3) := by decide +kernel
theorem dX6_shuts_16 : decode cX6_shuts 16 = .ok (.aload_n 0, 1) := by decide +kernel
theorem dX6_shuts_17 : decode cX6_shuts 17 = .ok (.bipush 6, 2) := by decide +kernel
theorem dX6_shuts_19 : decode cX6_shuts 19 = .ok (.iaload, 1) := by decide +kernel
theorem dX6_shuts_20 : decode cX6_shuts 20 = .ok (.iastore, 1) := by decide +kernel
theorem dX6_shuts_21 : decode cX6_shuts 21 = .ok (.return_, 1) := by decide +kernel
theorem dX6_moves_0 : decode cX6_moves 0 = .ok (.aload_n 0, 1) := by decide +kernel
theorem dX6_moves_1 : decode cX6_moves 1 = .ok (.iload_n 1, 1) := by decide +kernel
theorem dX6_moves_2 : decode cX6_moves 2 = .ok (.invokestatic 105, 3) := by decide +kernel
theorem dX6_moves_5 : decode cX6_moves 5 = .ok (.aload_n 0, 1) := by decide +kernel
theorem dX6_moves_6 : decode cX6_moves 6 = .ok (.iload_n 1, 1) := by decide +kernel
theorem dX6_moves_7 : decode cX6_moves 7 = .ok (.invokestatic 108, 3) := by decide +kernel
theorem dX6_moves_10 : decode cX6_moves 10 = .ok (.istore_n 2, 1) := by decide +kernel
theorem dX6_moves_11 : decode cX6_moves 11 = .ok (.aload_n 0, 1) := by decide +kernel
theorem dX6_moves_12 : decode cX6_moves 12 = .ok (.iload_n 2, 1) := by decide +kernel
theorem dX6_moves_13 : decode cX6_moves 13 = .ok (.invokestatic 111, 3) := by decide +kernel
theorem dX6_moves_16 : decode cX6_moves 16 = .ok (.ifCond .eq 19, 3) := by decide +kernel
theorem dX6_moves_19 : decode cX6_moves 19 = .ok (.aload_n 0, 1) := by decide +kernel
theorem dX6_moves_20 : decode cX6_moves 20 = .ok (.invokestatic 94, 3) := by decide +kernel
theorem dX6_moves_23 : decode cX6_moves 23 = .ok (.ifCond .eq 14, 3) := by decide +kernel
theorem dX6_moves_26 : decode cX6_moves 26 = .ok (.aload_n 0, 1) := by decide +kernel
theorem dX6_moves_27 : decode cX6_moves 27 = .ok (.invokestatic 98, 3) := by decide +kernel
theorem dX6_moves_30 : decode cX6_moves 30 = .ok (.bipush (-5), 2) := by decide +kernel
theorem dX6_moves_32 : decode cX6_moves 32 = .ok (.if_icmp .ne 5, 3) := by decide +kernel
theorem dX6_moves_35 : decode cX6_moves 35 = .ok (.iconst 0, 1) := by decide +kernel
theorem dX6_moves_36 : decode cX6_moves 36 = .ok (.ireturn, 1) := by decide +kernel
theorem dX6_moves_37 : decode cX6_moves 37 = .ok (.aload_n 0, 1) := by decide +kernel
theorem dX6_moves_38 : decode cX6_moves 38 = .ok (.iload_n 2, 1) := by decide +kernel
theorem dX6_moves_39 : decode cX6_moves 39 = .ok (.invokestatic 114, 3) := by decide +kernel
theorem dX6_moves_42 : decode cX6_moves 42 = .ok (.aload_n 0, 1) := by decide +kernel
theorem dX6_moves_43 : decode cX6_moves 43 = .ok (.aload_n 0, 1) := by decide +kernel
theorem dX6_moves_44 : decode cX6_moves 44 = .ok (.iload_n 2, 1) := by decide +kernel
theorem dX6_moves_45 : decode cX6_moves 45 = .ok (.invokestatic 53, 3) := by decide +kernel
theorem dX6_moves_48 : decode cX6_moves 48 = .ok (.invokestatic 117, 3) := by decide +kernel
theorem dX6_moves_51 : decode cX6_moves 51 = .ok (.pop, 1) := by decide +kernel
theorem dX6_moves_52 : decode cX6_moves 52 = .ok (.aload_n 0, 1) := by decide +kernel
theorem dX6_moves_53 : decode cX6_moves 53 = .ok (.bipush 9, 2) := by decide +kernel
theorem dX6_moves_55 : decode cX6_moves 55 = .ok (.dup2, 1) := by decide +kernel
theorem dX6_moves_56 : decode cX6_moves 56 = .ok (.iaload, 1) := by decide +kernel
theorem dX6_moves_57 : decode cX6_moves 57 = .ok (.iconst 1, 1) := by decide +kernel
theorem dX6_moves_58 : decode cX6_moves 58 = .ok (.iadd, 1) := by decide +kernel
theorem dX6_moves_59 : decode cX6_moves 59 = .ok (.iastore, 1) := by decide +kernel
theorem dX6_moves_60 : decode cX6_moves 60 = .ok (.iconst 1, 1) := by decide +kernel
theorem dX6_moves_61 : decode cX6_moves 61 = .ok (.ireturn, 1) := by decide +kernel
theorem dX6_erases_0 : decode cX6_erases 0 = .ok (.aload_n 0, 1) := by decide +kernel
theorem dX6_erases_1 : decode cX6_erases 1 = .ok (.iload_n 1, 1) := by decide +kernel
theorem dX6_erases_2 : decode cX6_erases 2 = .ok (.invokestatic 105, 3) := by decide +kernel
theorem dX6_erases_5 : decode cX6_erases 5 = .ok (.iconst 0, 1) := by decide +kernel
theorem dX6_erases_6 : decode cX6_erases 6 = .ok (.istore_n 2, 1) := by decide +kernel
theorem dX6_erases_7 : decode cX6_erases 7 = .ok (.bipush 8, 2) := by decide +kernel
theorem dX6_erases_9 : decode cX6_erases 9 = .ok (.iload_n 1, 1) := by decide +kernel
theorem dX6_erases_10 : decode cX6_erases 10 = .ok (.imul, 1) := by decide +kernel
theorem dX6_erases_11 : decode cX6_erases 11 = .ok (.istore_n 3, 1) := by decide +kernel
theorem dX6_erases_12 : decode cX6_erases 12 = .ok (.iload_n 3, 1) := by decide +kernel
theorem dX6_erases_13 : decode cX6_erases 13 = .ok (.bipush 8, 2) := by decide +kernel
theorem dX6_erases_15 : decode cX6_erases 15 = .ok (.iload_n 1, 1) := by decide +kernel
theorem dX6_erases_16 : decode cX6_erases 16 = .ok (.imul, 1) := by decide +kernel
theorem dX6_erases_17 : decode cX6_erases 17 = .ok (.bipush 8, 2) := by decide +kernel
theorem dX6_erases_19 : decode cX6_erases 19 = .ok (.iadd, 1) := by decide +kernel
theorem dX6_erases_20 : decode cX6_erases 20 = .ok (.if_icmp .ge 48, 3) := by decide +kernel
theorem dX6_erases_23 : decode cX6_erases 23 = .ok (.aload_n 0, 1) := by decide +kernel
theorem dX6_erases_24 : decode cX6_erases 24 = .ok (.iload_n 3, 1) := by decide +kernel
theorem dX6_erases_25 : decode cX6_erases 25 = .ok (.invokestatic 72, 3) := by decide +kernel
theorem dX6_erases_28 : decode cX6_erases 28 = .ok (.iload_n 2, 1) := by decide +kernel
theorem dX6_erases_29 : decode cX6_erases 29 = .ok (.if_icmp .le 11, 3) := by decide +kernel
theorem dX6_erases_32 : decode cX6_erases 32 = .ok (.aload_n 0, 1) := by decide +kernel
theorem dX6_erases_33 : decode cX6_erases 33 = .ok (.iload_n 3, 1) := by decide +kernel
theorem dX6_erases_34 : decode cX6_erases 34 = .ok (.invokestatic 72, 3) := by decide +kernel
theorem dX6_erases_37 : decode cX6_erases 37 = .ok (.goto 4, 3) := by decide +kernel
theorem dX6_erases_40 : decode cX6_erases 40 = .ok (.iload_n 2, 1) := by decide +kernel
theorem dX6_erases_41 : decode cX6_erases 41 = .ok (.istore_n 2, 1) := by decide +kernel
theorem dX6_erases_42 : decode cX6_erases 42 = .ok (.aload_n 0, 1) := by decide +kernel
theorem dX6_erases_43 : decode cX6_erases 43 = .ok (.bipush 65, 2) := by decide +kernel
theorem dX6_erases_45 : decode cX6_erases 45 = .ok (.iconst 3, 1) := by decide +kernel
theorem dX6_erases_46 : decode cX6_erases 46 = .ok (.iload_n 3, 1) := by decide +kernel
theorem dX6_erases_47 : decode cX6_erases 47 = .ok (.imul, 1) := by decide +kernel
theorem dX6_erases_48 : decode cX6_erases 48 = .ok (.iadd, 1) := by decide +kernel
theorem dX6_erases_49 : decode cX6_erases 49 = .ok (.iconst (-1), 1) := by decide +kernel
theorem dX6_erases_50 : decode cX6_erases 50 = .ok (.iastore, 1) := by decide +kernel
theorem dX6_erases_51 : decode cX6_erases 51 = .ok (.aload_n 0, 1) := by decide +kernel
theorem dX6_erases_52 : decode cX6_erases 52 = .ok (.bipush 65, 2) := by decide +kernel
theorem dX6_erases_54 : decode cX6_erases 54 = .ok (.iconst 3, 1) := by decide +kernel
theorem dX6_erases_55 : decode cX6_erases 55 = .ok (.iload_n 3, 1) := by decide +kernel
theorem dX6_erases_56 : decode cX6_erases 56 = .ok (.imul, 1) := by decide +kernel
theorem dX6_erases_57 : decode cX6_erases 57 = .ok (.iadd, 1) := by decide +kernel
theorem dX6_erases_58 : decode cX6_erases 58 = .ok (.iconst 1, 1) := by decide +kernel
theorem dX6_erases_59 : decode cX6_erases 59 = .ok (.iadd, 1) := by decide +kernel
theorem dX6_erases_60 : decode cX6_erases 60 = .ok (.iconst 0, 1) := by decide +kernel
theorem dX6_erases_61 : decode cX6_erases 61 = .ok (.iastore, 1) := by decide +kernel
theorem dX6_erases_62 : decode cX6_erases 62 = .ok (.iinc 3 1, 3) := by decide +kernel
theorem dX6_erases_65 : decode cX6_erases 65 = .ok (.goto (-53), 3) := by decide +kernel
theorem dX6_erases_68 : decode cX6_erases 68 = .ok (.aload_n 0, 1) := by decide +kernel
theorem dX6_erases_69 : decode cX6_erases 69 = .ok (.bipush 41, 2) := by decide +kernel
theorem dX6_erases_71 : decode cX6_erases 71 = .ok (.iconst 4, 1) := by decide +kernel
theorem dX6_erases_72 : decode cX6_erases 72 = .ok (.iload_n 1, 1) := by decide +kernel
theorem dX6_erases_73 : decode cX6_erases 73 = .ok (.imul, 1) := by decide +kernel
theorem dX6_erases_74 : decode cX6_erases 74 = .ok (.iadd, 1) := by decide +kernel
theorem dX6_erases_75 : decode cX6_erases 75 = .ok (.iconst 1, 1) := by decide +kernel
theorem dX6_erases_76 : decode cX6_erases 76 = .ok (.iadd, 1) := by decide +kernel
theorem dX6_erases_77 : decode cX6_erases 77 = .ok (.dup2, 1) := by decide +kernel
theorem dX6_erases_78 : decode cX6_erases 78 = .ok (.iaload, 1) := by decide +kernel
theorem dX6_erases_79 : decode cX6_erases 79 = .ok (.iconst 1, 1) := by decide +kernel
theorem dX6_erases_80 : decode cX6_erases 80 = .ok (.iadd, 1) := by decide +kernel
theorem dX6_erases_81 : decode cX6_erases 81 = .ok (.iastore, 1) := by decide +kernel
theorem dX6_erases_82 : decode cX6_erases 82 = .ok (.aload_n 0, 1) := by decide +kernel
theorem dX6_erases_83 : decode cX6_erases 83 = .ok (.bipush 41, 2) := by decide +kernel
theorem dX6_erases_85 : decode cX6_erases 85 = .ok (.iconst 4, 1) := by decide +kernel
theorem dX6_erases_86 : decode cX6_erases 86 = .ok (.iload_n 1, 1) := by decide +kernel
theorem dX6_erases_87 : decode cX6_erases 87 = .ok (.imul, 1) := by decide +kernel
theorem dX6_erases_88 : decode cX6_erases 88 = .ok (.iadd, 1) := by decide +kernel
theorem dX6_erases_89 : decode cX6_erases 89 = .ok (.iconst 2, 1) := by decide +kernel
theorem dX6_erases_90 : decode cX6_erases 90 = .ok (.iadd, 1) := by decide +kernel
theorem dX6_erases_91 : decode cX6_erases 91 = .ok (.iconst 0, 1) := by decide +kernel
theorem dX6_erases_92 : decode cX6_erases 92 = .ok (.iastore, 1) := by decide +kernel
theorem dX6_erases_93 : decode cX6_erases 93 = .ok (.aload_n 0, 1) := by decide +kernel
theorem dX6_erases_94 : decode cX6_erases 94 = .ok (.bipush 10, 2) := by decide +kernel
theorem dX6_erases_96 : decode cX6_erases 96 = .ok (.dup2, 1) := by decide +kernel
theorem dX6_erases_97 : decode cX6_erases 97 = .ok (.iaload, 1) := by decide +kernel
theorem dX6_erases_98 : decode cX6_erases 98 = .ok (.iconst 1, 1) := by decide +kernel
theorem dX6_erases_99 : decode cX6_erases 99 = .ok (.iadd, 1) := by decide +kernel
theorem dX6_erases_100 : decode cX6_erases 100 = .ok (.iastore, 1) := by decide +kernel
theorem dX6_erases_101 : decode cX6_erases 101 = .ok (.bipush 40, 2) := by decide +kernel
theorem dX6_erases_103 : decode cX6_erases 103 = .ok (.istore_n 3, 1) := by decide +kernel
theorem dX6_erases_104 : decode cX6_erases 104 = .ok (.iload_n 3, 1) := by decide +kernel
theorem dX6_erases_105 : decode cX6_erases 105 = .ok (.bipush 20, 2) := by decide +kernel
theorem dX6_erases_107 : decode cX6_erases 107 = .ok (.if_icmp .lt 17, 3) := by decide +kernel
theorem dX6_erases_110 : decode cX6_erases 110 = .ok (.aload_n 0, 1) := by decide +kernel
theorem dX6_erases_111 : decode cX6_erases 111 = .ok (.iload_n 3, 1) := by decide +kernel
theorem dX6_erases_112 : decode cX6_erases 112 = .ok (.aload_n 0, 1) := by decide +kernel
theorem dX6_erases_113 : decode cX6_erases 113 = .ok (.iload_n 3, 1) := by decide +kernel
theorem dX6_erases_114 : decode cX6_erases 114 = .ok (.iconst 3, 1) := by decide +kernel
theorem dX6_erases_115 : decode cX6_erases 115 = .ok (.isub, 1) := by decide +kernel
theorem dX6_erases_116 : decode cX6_erases 116 = .ok (.iaload, 1) := by decide +kernel
theorem dX6_erases_117 : decode cX6_erases 117 = .ok (.iastore, 1) := by decide +kernel
theorem dX6_erases_118 : decode cX6_erases 118 = .ok (.iinc 3 (-1), 3) := by decide +kernel
theorem dX6_erases_121 : decode cX6_erases 121 = .ok (.goto (-17), 3) := by decide +kernel
theorem dX6_erases_124 : decode cX6_erases 124 = .ok (.aload_n 0, 1) := by decide +kernel
theorem dX6_erases_125 : decode cX6_erases 125 = .ok (.bipush 17, 2) := by decide +kernel
theorem dX6_erases_127 : decode cX6_erases 127 = .ok (.iload_n 1, 1) := by decide +kernel
theorem dX6_erases_128 : decode cX6_erases 128 = .ok (.iastore, 1) := by decide +kernel
theorem dX6_erases_129 : decode cX6_erases 129 = .ok (.aload_n 0, 1) := by decide +kernel
theorem dX6_erases_130 : decode cX6_erases 130 = .ok (.bipush 18, 2) := by decide +kernel
theorem dX6_erases_132 : decode cX6_erases 132 = .ok (.aload_n 0, 1) := by decide +kernel
theorem dX6_erases_133 : decode cX6_erases 133 = .ok (.iconst 0, 1) := by decide +kernel
theorem dX6_erases_134 : decode cX6_erases 134 = .ok (.iaload, 1) := by decide +kernel
theorem dX6_erases_135 : decode cX6_erases 135 = .ok (.iastore, 1) := by decide +kernel
theorem dX6_erases_136 : decode cX6_erases 136 = .ok (.aload_n 0, 1) := by decide +kernel
theorem dX6_erases_137 : decode cX6_erases 137 = .ok (.bipush 19, 2) := by decide +kernel
theorem dX6_erases_139 : decode cX6_erases 139 = .ok (.iload_n 2, 1) := by decide +kernel
theorem dX6_erases_140 : decode cX6_erases 140 = .ok (.iastore, 1) := by decide +kernel
theorem dX6_erases_141 : decode cX6_erases 141 = .ok (.aload_n 0, 1) := by decide +kernel
theorem dX6_erases_142 : decode cX6_erases 142 = .ok (.bipush 16, 2) := by decide +kernel
theorem dX6_erases_144 : decode cX6_erases 144 = .ok (.dup2, 1) := by decide +kernel
theorem dX6_erases_145 : decode cX6_erases 145 = .ok (.iaload, 1) := by decide +kernel
theorem dX6_erases_146 : decode cX6_erases 146 = .ok (.aload_n 0, 1) := by decide +kernel
theorem dX6_erases_147 : decode cX6_erases 147 = .ok (.bipush 16, 2) := by decide +kernel
theorem dX6_erases_149 : decode cX6_erases 149 = .ok (.iaload, 1) := by decide +kernel
theorem dX6_erases_150 : decode cX6_erases 150 = .ok (.bipush 8, 2) := by decide +kernel
theorem dX6_erases_152 : decode cX6_erases 152 = .ok (.if_icmp .ge 7, 3) := by decide +kernel
theorem dX6_erases_155 : decode cX6_erases 155 = .ok (.iconst 1, 1) := by decide +kernel
theorem dX6_erases_156 : decode cX6_erases 156 = .ok (.goto 4, 3) := by decide +kernel
theorem dX6_erases_159 : decode cX6_erases 159 = .ok (.iconst 0, 1) := by decide +kernel
theorem dX6_erases_160 : decode cX6_erases 160 = .ok (.iadd, 1) := by decide +kernel
theorem dX6_erases_161 : decode cX6_erases 161 = .ok (.iastore, 1) := by decide +kernel
theorem dX6_erases_162 : decode cX6_erases 162 = .ok (.return_, 1) := by decide +kernel
theorem dX6_movesAll_0 : decode cX6_movesAll 0 = .ok (.aload_n 0, 1) := by decide +kernel
theorem dX6_movesAll_1 : decode cX6_movesAll 1 = .ok (.iload_n 1, 1) := by decide +kernel
theorem dX6_movesAll_2 : decode cX6_movesAll 2 = .ok (.invokestatic 105, 3) := by decide +kernel
theorem dX6_movesAll_5 : decode cX6_movesAll 5 = .ok (.iconst 0, 1) := by decide +kernel
theorem dX6_movesAll_6 : decode cX6_movesAll 6 = .ok (.istore_n 2, 1) := by decide +kernel
theorem dX6_movesAll_7 : decode cX6_movesAll 7 = .ok (.aload_n 0, 1) := by decide +kernel
theorem dX6_movesAll_8 : decode cX6_movesAll 8 = .ok (.iload_n 1, 1) := by decide +kernel
theorem dX6_movesAll_9 : decode cX6_movesAll 9 = .ok (.invokestatic 108, 3) := by decide +kernel
theorem dX6_movesAll_12 : decode cX6_movesAll 12 = .ok (.bipush (-5), 2) := by decide +kernel
theorem dX6_movesAll_14 : decode cX6_movesAll 14 = .ok (.if_icmp .eq 20, 3) := by decide +kernel
theorem dX6_movesAll_17 : decode cX6_movesAll 17 = .ok (.aload_n 0, 1) := by decide +kernel
theorem dX6_movesAll_18 : decode cX6_movesAll 18 = .ok (.iload_n 1, 1) := by decide +kernel
theorem dX6_movesAll_19 : decode cX6_movesAll 19 = .ok (.invokestatic 120, 3) := by decide +kernel
theorem dX6_movesAll_22 : decode cX6_movesAll 22 = .ok (.ifCond .ne 6, 3) := by decide +kernel
theorem dX6_movesAll_25 : decode cX6_movesAll 25 = .ok (.bipush (-4), 2) := by decide +kernel
theorem dX6_movesAll_27 : decode cX6_movesAll 27 = .ok (.ireturn, 1) := by decide +kernel
theorem dX6_movesAll_28 : decode cX6_movesAll 28 = .ok (.iinc 2 1, 3) := by decide +kernel
theorem dX6_movesAll_31 : decode cX6_movesAll 31 = .ok (.goto (-24), 3) := by decide +kernel
theorem dX6_movesAll_34 : decode cX6_movesAll 34 = .ok (.aload_n 0, 1) := by decide +kernel
theorem dX6_movesAll_35 : decode cX6_movesAll 35 = .ok (.iload_n 1, 1) := by decide +kernel
theorem dX6_movesAll_36 : decode cX6_movesAll 36 = .ok (.invokestatic 123, 3) := by decide +kernel
theorem dX6_movesAll_39 : decode cX6_movesAll 39 = .ok (.iload_n 2, 1) := by decide +kernel
theorem dX6_movesAll_40 : decode cX6_movesAll 40 = .ok (.ireturn, 1) := by decide +kernel
theorem dX6_ticksOn_0 : decode cX6_ticksOn 0 = .ok (.aload_n 0, 1) := by decide +kernel
theorem dX6_ticksOn_1 : decode cX6_ticksOn 1 = .ok (.iconst 0, 1) := by decide +kernel
theorem dX6_ticksOn_2 : decode cX6_ticksOn 2 = .ok (.dup2, 1) := by decide +kernel
theorem dX6_ticksOn_3 : decode cX6_ticksOn 3 = .ok (.iaload, 1) := by decide +kernel
theorem dX6_ticksOn_4 : decode cX6_ticksOn 4 = .ok (.iconst 1, 1) := by decide +kernel
theorem dX6_ticksOn_5 : decode cX6_ticksOn 5 = .ok (.iadd, 1) := by decide +kernel
theorem dX6_ticksOn_6 : decode cX6_ticksOn 6 = .ok (.iastore, 1) := by decide +kernel
theorem dX6_ticksOn_7 : decode cX6_ticksOn 7 = .ok (.aload_n 0, 1) := by decide +kernel
theorem dX6_ticksOn_8 : decode cX6_ticksOn 8 = .ok (.iconst 3, 1) := by decide +kernel
theorem dX6_ticksOn_9 : decode cX6_ticksOn 9 = .ok (.iaload, 1) := by decide +kernel
theorem dX6_ticksOn_10 : decode cX6_ticksOn 10 = .ok (.istore_n 1, 1) := by decide +kernel
theorem dX6_ticksOn_11 : decode cX6_ticksOn 11 = .ok (.iconst 0, 1) := by decide +kernel
theorem dX6_ticksOn_12 : decode cX6_ticksOn 12 = .ok (.istore_n 2, 1) := by decide +kernel
theorem dX6_ticksOn_13 : decode cX6_ticksOn 13 = .ok (.iload_n 1, 1) := by decide +kernel
theorem dX6_ticksOn_14 : decode cX6_ticksOn 14 = .ok (.ifCond .le 61, 3) := by decide +kernel
theorem dX6_ticksOn_17 : decode cX6_ticksOn 17 = .ok (.aload_n 0, 1) := by decide +kernel
theorem dX6_ticksOn_18 : decode cX6_ticksOn 18 = .ok (.iconst 0, 1) := by decide +kernel
theorem dX6_ticksOn_19 : decode cX6_ticksOn 19 = .ok (.invokestatic 126, 3) := by decide +kernel
theorem dX6_ticksOn_22 : decode cX6_ticksOn 22 = .ok (.istore_n 3, 1) := by decide +kernel
theorem dX6_ticksOn_23 : decode cX6_ticksOn 23 = .ok (.iload_n 3, 1) := by decide +kernel
theorem dX6_ticksOn_24 : decode cX6_ticksOn 24 = .ok (.bipush (-5), 2) := by decide +kernel
theorem dX6_ticksOn_26 : decode cX6_ticksOn 26 = .ok (.if_icmp .ne 5, 3) := by decide +kernel
theorem dX6_ticksOn_29 : decode cX6_ticksOn 29 = .ok (.iload_n 2, 1) := by decide +kernel
theorem dX6_ticksOn_30 : decode cX6_ticksOn 30 = .ok (.ireturn, 1) := by decide +kernel
theorem dX6_ticksOn_31 : decode cX6_ticksOn 31 = .ok (.aload_n 0, 1) := by decide +kernel
theorem dX6_ticksOn_32 : decode cX6_ticksOn 32 = .ok (.iload_n 3, 1) := by decide +kernel
theorem dX6_ticksOn_33 : decode cX6_ticksOn 33 = .ok (.invokestatic 108, 3) := by decide +kernel
theorem dX6_ticksOn_36 : decode cX6_ticksOn 36 = .ok (.bipush (-5), 2) := by decide +kernel
theorem dX6_ticksOn_38 : decode cX6_ticksOn 38 = .ok (.if_icmp .eq 19, 3) := by decide +kernel
theorem dX6_ticksOn_41 : decode cX6_ticksOn 41 = .ok (.aload_n 0, 1) := by decide +kernel
theorem dX6_ticksOn_42 : decode cX6_ticksOn 42 = .ok (.iload_n 3, 1) := by decide +kernel
theorem dX6_ticksOn_43 : decode cX6_ticksOn 43 = .ok (.invokestatic 120, 3) := by decide +kernel
theorem dX6_ticksOn_46 : decode cX6_ticksOn 46 = .ok (.ifCond .ne 5, 3) := by decide +kernel
theorem dX6_ticksOn_49 : decode cX6_ticksOn 49 = .ok (.iload_n 2, 1) := by decide +kernel
theorem dX6_ticksOn_50 : decode cX6_ticksOn 50 = .ok (.ireturn, 1) := by decide +kernel
theorem dX6_ticksOn_51 : decode cX6_ticksOn 51 = .ok (.iinc 1 (-1), 3) := by decide +kernel
theorem dX6_ticksOn_54 : decode cX6_ticksOn 54 = .ok (.iinc 2 1, 3) := by decide +kernel
theorem dX6_ticksOn_57 : decode cX6_ticksOn 57 = .ok (.aload_n 0, 1) := by decide +kernel
theorem dX6_ticksOn_58 : decode cX6_ticksOn 58 = .ok (.iload_n 3, 1) := by decide +kernel
theorem dX6_ticksOn_59 : decode cX6_ticksOn 59 = .ok (.invokestatic 108, 3) := by decide +kernel
theorem dX6_ticksOn_62 : decode cX6_ticksOn 62 = .ok (.bipush (-5), 2) := by decide +kernel
theorem dX6_ticksOn_64 : decode cX6_ticksOn 64 = .ok (.if_icmp .ne 8, 3) := by decide +kernel
theorem dX6_ticksOn_67 : decode cX6_ticksOn 67 = .ok (.aload_n 0, 1) := by decide +kernel
theorem dX6_ticksOn_68 : decode cX6_ticksOn 68 = .ok (.iload_n 3, 1) := by decide +kernel
theorem dX6_ticksOn_69 : decode cX6_ticksOn 69 = .ok (.invokestatic 123, 3) := by decide +kernel
theorem dX6_ticksOn_72 : decode cX6_ticksOn 72 = .ok (.goto (-59), 3) := by decide +kernel
theorem dX6_ticksOn_75 : decode cX6_ticksOn 75 = .ok (.iload_n 2, 1) := by decide +kernel
theorem dX6_ticksOn_76 : decode cX6_ticksOn 76 = .ok (.ireturn, 1) := by decide +kernel
theorem dX6_writesOn_0 : decode cX6_writesOn 0 = .ok (.iload_n 1, 1) := by decide +kernel
theorem dX6_writesOn_1 : decode cX6_writesOn 1 = .ok (.invokestatic 129, 3) := by decide +kernel
theorem dX6_writesOn_4 : decode cX6_writesOn 4 = .ok (.ifCond .ne 5, 3) := by decide +kernel
theorem dX6_writesOn_7 : decode cX6_writesOn 7 = .ok (.iconst (-1), 1) := by decide +kernel
theorem dX6_writesOn_8 : decode cX6_writesOn 8 = .ok (.ireturn, 1) := by decide +kernel
theorem dX6_writesOn_9 : decode cX6_writesOn 9 = .ok (.aload_n 0, 1) := by decide +kernel
theorem dX6_writesOn_10 : decode cX6_writesOn 10 = .ok (.invokestatic 133, 3) := by decide +kernel
theorem dX6_writesOn_13 : decode cX6_writesOn 13 = .ok (.aload_n 0, 1) := by decide +kernel
theorem dX6_writesOn_14 : decode cX6_writesOn 14 = .ok (.invokestatic 94, 3) := by decide +kernel
theorem dX6_writesOn_17 : decode cX6_writesOn 17 = .ok (.ifCond .eq 7, 3) := by decide +kernel
theorem dX6_writesOn_20 : decode cX6_writesOn 20 = .ok (.iconst 2, 1) := by decide +kernel
theorem dX6_writesOn_21 : decode cX6_writesOn 21 = .ok (.goto 4, 3) := by decide +kernel
theorem dX6_writesOn_24 : decode cX6_writesOn 24 = .ok (.iconst 1, 1) := by decide +kernel
theorem dX6_writesOn_25 : decode cX6_writesOn 25 = .ok (.if_icmp .ge 6, 3) := by decide +kernel
theorem dX6_writesOn_28 : decode cX6_writesOn 28 = .ok (.bipush (-3), 2) := by decide +kernel
theorem dX6_writesOn_30 : decode cX6_writesOn 30 = .ok (.ireturn, 1) := by decide +kernel
theorem dX6_writesOn_31 : decode cX6_writesOn 31 = .ok (.aload_n 0, 1) := by decide +kernel
theorem dX6_writesOn_32 : decode cX6_writesOn 32 = .ok (.iload_n 1, 1) := by decide +kernel
theorem dX6_writesOn_33 : decode cX6_writesOn 33 = .ok (.invokestatic 90, 3) := by decide +kernel
theorem dX6_writesOn_36 : decode cX6_writesOn 36 = .ok (.aload_n 0, 1) := by decide +kernel
theorem dX6_writesOn_37 : decode cX6_writesOn 37 = .ok (.iload_n 1, 1) := by decide +kernel
theorem dX6_writesOn_38 : decode cX6_writesOn 38 = .ok (.invokestatic 117, 3) := by decide +kernel
theorem dX6_writesOn_41 : decode cX6_writesOn 41 = .ok (.ireturn, 1) := by decide +kernel
theorem dX6_readsOn_0 : decode cX6_readsOn 0 = .ok (.iload_n 2, 1) := by decide +kernel
theorem dX6_readsOn_1 : decode cX6_readsOn 1 = .ok (.invokestatic 129, 3) := by decide +kernel
theorem dX6_readsOn_4 : decode cX6_readsOn 4 = .ok (.ifCond .eq 13, 3) := by decide +kernel
theorem dX6_readsOn_7 : decode cX6_readsOn 7 = .ok (.aload_n 1, 1) := by decide +kernel
theorem dX6_readsOn_8 : decode cX6_readsOn 8 = .ok (.iload_n 2, 1) := by decide +kernel
theorem dX6_readsOn_9 : decode cX6_readsOn 9 = .ok (.invokestatic 102, 3) := by decide +kernel
theorem dX6_readsOn_12 : decode cX6_readsOn 12 = .ok (.bipush (-5), 2) := by decide +kernel
theorem dX6_readsOn_14 : decode cX6_readsOn 14 = .ok (.if_icmp .ne 5, 3) := by decide +kernel
theorem dX6_readsOn_17 : decode cX6_readsOn 17 = .ok (.iconst (-1), 1) := by decide +kernel
theorem dX6_readsOn_18 : decode cX6_readsOn 18 = .ok (.ireturn, 1) := by decide +kernel
theorem dX6_readsOn_19 : decode cX6_readsOn 19 = .ok (.aload_n 1, 1) := by decide +kernel
theorem dX6_readsOn_20 : decode cX6_readsOn 20 = .ok (.iload_n 2, 1) := by decide +kernel
theorem dX6_readsOn_21 : decode cX6_readsOn 21 = .ok (.invokestatic 87, 3) := by decide +kernel
theorem dX6_readsOn_24 : decode cX6_readsOn 24 = .ok (.bipush (-5), 2) := by decide +kernel
theorem dX6_readsOn_26 : decode cX6_readsOn 26 = .ok (.if_icmp .ne 7, 3) := by decide +kernel
theorem dX6_readsOn_29 : decode cX6_readsOn 29 = .ok (.iconst 1, 1) := by decide +kernel
theorem dX6_readsOn_30 : decode cX6_readsOn 30 = .ok (.goto 4, 3) := by decide +kernel
theorem dX6_readsOn_33 : decode cX6_readsOn 33 = .ok (.iconst 0, 1) := by decide +kernel
theorem dX6_readsOn_34 : decode cX6_readsOn 34 = .ok (.istore_n 3, 1) := by decide +kernel
theorem dX6_readsOn_35 : decode cX6_readsOn 35 = .ok (.iload_n 3, 1) := by decide +kernel
theorem dX6_readsOn_36 : decode cX6_readsOn 36 = .ok (.iconst 1, 1) := by decide +kernel
theorem dX6_readsOn_37 : decode cX6_readsOn 37 = .ok (.if_icmp .ne 86, 3) := by decide +kernel
theorem dX6_readsOn_40 : decode cX6_readsOn 40 = .ok (.aload_n 1, 1) := by decide +kernel
theorem dX6_readsOn_41 : decode cX6_readsOn 41 = .ok (.aload_n 1, 1) := by decide +kernel
theorem dX6_readsOn_42 : decode cX6_readsOn 42 = .ok (.iload_n 2, 1) := by decide +kernel
theorem dX6_readsOn_43 : decode cX6_readsOn 43 = .ok (.invokestatic 102, 3) := by decide +kernel
theorem dX6_readsOn_46 : decode cX6_readsOn 46 = .ok (.invokestatic 111, 3) := by decide +kernel
theorem dX6_readsOn_49 : decode cX6_readsOn 49 = .ok (.ifCond .ne 74, 3) := by decide +kernel
theorem dX6_readsOn_52 : decode cX6_readsOn 52 = .ok (.iconst 2, 1) := by decide +kernel
theorem dX6_readsOn_53 : decode cX6_readsOn 53 = .ok (.istore_n 3, 1) := by decide +kernel
theorem dX6_readsOn_54 : decode cX6_readsOn 54 = .ok (.aload_n 1, 1) := by decide +kernel
theorem dX6_readsOn_55 : decode cX6_readsOn 55 = .ok (.iconst 0, 1) := by decide +kernel
theorem dX6_readsOn_56 : decode cX6_readsOn 56 = .ok (.aload_n 0, 1) := by decide +kernel
theorem dX6_readsOn_57 : decode cX6_readsOn 57 = .ok (.getfield 16, 3) := by decide +kernel
theorem dX6_readsOn_60 : decode cX6_readsOn 60 = .ok (.iconst 0, 1) := by decide +kernel
theorem dX6_readsOn_61 : decode cX6_readsOn 61 = .ok (.invokestatic 42, 3) := by decide +kernel
theorem dX6_readsOn_64 : decode cX6_readsOn 64 = .ok (.aload_n 1, 1) := by decide +kernel
theorem dX6_readsOn_65 : decode cX6_readsOn 65 = .ok (.iconst 5, 1) := by decide +kernel
theorem dX6_readsOn_66 : decode cX6_readsOn 66 = .ok (.iaload, 1) := by decide +kernel
theorem dX6_readsOn_67 : decode cX6_readsOn 67 = .ok (.iconst 1, 1) := by decide +kernel
theorem dX6_readsOn_68 : decode cX6_readsOn 68 = .ok (.if_icmp .ne 34, 3) := by decide +kernel
theorem dX6_readsOn_71 : decode cX6_readsOn 71 = .ok (.aload_n 1, 1) := by decide +kernel
theorem dX6_readsOn_72 : decode cX6_readsOn 72 = .ok (.aload_n 1, 1) := by decide +kernel
theorem dX6_readsOn_73 : decode cX6_readsOn 73 = .ok (.iload_n 2, 1) := by decide +kernel
theorem dX6_readsOn_74 : decode cX6_readsOn 74 = .ok (.invokestatic 102, 3) := by decide +kernel
theorem dX6_readsOn_77 : decode cX6_readsOn 77 = .ok (.bipush 8, 2) := by decide +kernel
theorem dX6_readsOn_79 : decode cX6_readsOn 79 = .ok (.idiv, 1) := by decide +kernel
theorem dX6_readsOn_80 : decode cX6_readsOn 80 = .ok (.invokestatic 136, 3) := by decide +kernel
theorem dX6_readsOn_83 : decode cX6_readsOn 83 = .ok (.ifCond .lt 19, 3) := by decide +kernel
theorem dX6_readsOn_86 : decode cX6_readsOn 86 = .ok (.aload_n 1, 1) := by decide +kernel
theorem dX6_readsOn_87 : decode cX6_readsOn 87 = .ok (.aload_n 1, 1) := by decide +kernel
theorem dX6_readsOn_88 : decode cX6_readsOn 88 = .ok (.iload_n 2, 1) := by decide +kernel
theorem dX6_readsOn_89 : decode cX6_readsOn 89 = .ok (.invokestatic 102, 3) := by decide +kernel
theorem dX6_readsOn_92 : decode cX6_readsOn 92 = .ok (.invokestatic 111, 3) := by decide +kernel
theorem dX6_readsOn_95 : decode cX6_readsOn 95 = .ok (.ifCond .le 7, 3) := by decide +kernel
theorem dX6_readsOn_98 : decode cX6_readsOn 98 = .ok (.iconst 1, 1) := by decide +kernel
theorem dX6_readsOn_99 : decode cX6_readsOn 99 = .ok (.goto 4, 3) := by decide +kernel
theorem dX6_readsOn_102 : decode cX6_readsOn 102 = .ok (.iconst 0, 1) := by decide +kernel
theorem dX6_readsOn_103 : decode cX6_readsOn 103 = .ok (.istore 4, 2) := by decide +kernel
theorem dX6_readsOn_105 : decode cX6_readsOn 105 = .ok (.iload 4, 2) := by decide +kernel
theorem dX6_readsOn_107 : decode cX6_readsOn 107 = .ok (.ifCond .ne 16, 3) := by decide +kernel
theorem dX6_readsOn_110 : decode cX6_readsOn 110 = .ok (.aload_n 0, 1) := by decide +kernel
theorem dX6_readsOn_111 : decode cX6_readsOn 111 = .ok (.getfield 16, 3) := by decide +kernel
theorem dX6_readsOn_114 : decode cX6_readsOn 114 = .ok (.iconst 0, 1) := by decide +kernel
theorem dX6_readsOn_115 : decode cX6_readsOn 115 = .ok (.aload_n 1, 1) := by decide +kernel
theorem dX6_readsOn_116 : decode cX6_readsOn 116 = .ok (.iconst 0, 1) := by decide +kernel
theorem dX6_readsOn_117 : decode cX6_readsOn 117 = .ok (.invokestatic 42, 3) := by decide +kernel
theorem dX6_readsOn_120 : decode cX6_readsOn 120 = .ok (.bipush (-4), 2) := by decide +kernel
theorem dX6_readsOn_122 : decode cX6_readsOn 122 = .ok (.ireturn, 1) := by decide +kernel
theorem dX6_readsOn_123 : decode cX6_readsOn 123 = .ok (.iload_n 3, 1) := by decide +kernel
theorem dX6_readsOn_124 : decode cX6_readsOn 124 = .ok (.ifCond .le 12, 3) := by decide +kernel
theorem dX6_readsOn_127 : decode cX6_readsOn 127 = .ok (.aload_n 1, 1) := by decide +kernel
theorem dX6_readsOn_128 : decode cX6_readsOn 128 = .ok (.aload_n 1, 1) := by decide +kernel
theorem dX6_readsOn_129 : decode cX6_readsOn 129 = .ok (.iload_n 2, 1) := by decide +kernel
theorem dX6_readsOn_130 : decode cX6_readsOn 130 = .ok (.invokestatic 102, 3) := by decide +kernel
theorem dX6_readsOn_133 : decode cX6_readsOn 133 = .ok (.invokestatic 114, 3) := by decide +kernel
theorem dX6_readsOn_136 : decode cX6_readsOn 136 = .ok (.aload_n 1, 1) := by decide +kernel
theorem dX6_readsOn_137 : decode cX6_readsOn 137 = .ok (.iload_n 2, 1) := by decide +kernel
theorem dX6_readsOn_138 : decode cX6_readsOn 138 = .ok (.invokestatic 139, 3) := by decide +kernel
theorem dX6_readsOn_141 : decode cX6_readsOn 141 = .ok (.aload_n 1, 1) := by decide +kernel
theorem dX6_readsOn_142 : decode cX6_readsOn 142 = .ok (.bipush 7, 2) := by decide +kernel
theorem dX6_readsOn_144 : decode cX6_readsOn 144 = .ok (.dup2, 1) := by decide +kernel
theorem dX6_readsOn_145 : decode cX6_readsOn 145 = .ok (.iaload, 1) := by decide +kernel
theorem dX6_readsOn_146 : decode cX6_readsOn 146 = .ok (.iconst 1, 1) := by decide +kernel
theorem dX6_readsOn_147 : decode cX6_readsOn 147 = .ok (.iadd, 1) := by decide +kernel
theorem dX6_readsOn_148 : decode cX6_readsOn 148 = .ok (.iastore, 1) := by decide +kernel
theorem dX6_readsOn_149 : decode cX6_readsOn 149 = .ok (.aload_n 1, 1) := by decide +kernel
theorem dX6_readsOn_150 : decode cX6_readsOn 150 = .ok (.bipush 8, 2) := by decide +kernel
theorem dX6_readsOn_152 : decode cX6_readsOn 152 = .ok (.dup2, 1) := by decide +kernel
theorem dX6_readsOn_153 : decode cX6_readsOn 153 = .ok (.iaload, 1) := by decide +kernel
theorem dX6_readsOn_154 : decode cX6_readsOn 154 = .ok (.iload_n 3, 1) := by decide +kernel
theorem dX6_readsOn_155 : decode cX6_readsOn 155 = .ok (.ifCond .ne 7, 3) := by decide +kernel
theorem dX6_readsOn_158 : decode cX6_readsOn 158 = .ok (.iconst 1, 1) := by decide +kernel
theorem dX6_readsOn_159 : decode cX6_readsOn 159 = .ok (.goto 4, 3) := by decide +kernel
theorem dX6_readsOn_162 : decode cX6_readsOn 162 = .ok (.iconst 0, 1) := by decide +kernel
theorem dX6_readsOn_163 : decode cX6_readsOn 163 = .ok (.iadd, 1) := by decide +kernel
theorem dX6_readsOn_164 : decode cX6_readsOn 164 = .ok (.iastore, 1) := by decide +kernel
theorem dX6_readsOn_165 : decode cX6_readsOn 165 = .ok (.aload_n 1, 1) := by decide +kernel
theorem dX6_readsOn_166 : decode cX6_readsOn 166 = .ok (.sipush 209, 3) := by decide +kernel
theorem dX6_readsOn_169 : decode cX6_readsOn 169 = .ok (.iload_n 2, 1) := by decide +kernel
theorem dX6_readsOn_170 : decode cX6_readsOn 170 = .ok (.iadd, 1) := by decide +kernel
theorem dX6_readsOn_171 : decode cX6_readsOn 171 = .ok (.dup2, 1) := by decide +kernel
theorem dX6_readsOn_172 : decode cX6_readsOn 172 = .ok (.iaload, 1) := by decide +kernel
theorem dX6_readsOn_173 : decode cX6_readsOn 173 = .ok (.iconst 1, 1) := by decide +kernel
theorem dX6_readsOn_174 : decode cX6_readsOn 174 = .ok (.iadd, 1) := by decide +kernel
theorem dX6_readsOn_175 : decode cX6_readsOn 175 = .ok (.iastore, 1) := by decide +kernel
theorem dX6_readsOn_176 : decode cX6_readsOn 176 = .ok (.iload_n 3, 1) := by decide +kernel
theorem dX6_readsOn_177 : decode cX6_readsOn 177 = .ok (.ireturn, 1) := by decide +kernel
theorem dX6_passesOn_0 : decode cX6_passesOn 0 = .ok (.iload_n 1, 1) := by decide +kernel
theorem dX6_passesOn_1 : decode cX6_passesOn 1 = .ok (.iconst 1, 1) := by decide +kernel
theorem dX6_passesOn_2 : decode cX6_passesOn 2 = .ok (.bipush 99, 2) := by decide +kernel
theorem dX6_passesOn_4 : decode cX6_passesOn 4 = .ok (.invokestatic 34, 3) := by decide +kernel
theorem dX6_passesOn_7 : decode cX6_passesOn 7 = .ok (.ifCond .ne 6, 3) := by decide +kernel
theorem dX6_passesOn_10 : decode cX6_passesOn 10 = .ok (.bipush (-2), 2) := by decide +kernel
theorem dX6_passesOn_12 : decode cX6_passesOn 12 = .ok (.ireturn, 1) := by decide +kernel
theorem dX6_passesOn_13 : decode cX6_passesOn 13 = .ok (.aload_n 0, 1) := by decide +kernel
theorem dX6_passesOn_14 : decode cX6_passesOn 14 = .ok (.iconst 0, 1) := by decide +kernel
theorem dX6_passesOn_15 : decode cX6_passesOn 15 = .ok (.iaload, 1) := by decide +kernel
theorem dX6_passesOn_16 : decode cX6_passesOn 16 = .ok (.iload_n 1, 1) := by decide +kernel
theorem dX6_passesOn_17 : decode cX6_passesOn 17 = .ok (.iadd, 1) := by decide +kernel
theorem dX6_passesOn_18 : decode cX6_passesOn 18 = .ok (.ldc 68, 2) := by decide +kernel
theorem dX6_passesOn_20 : decode cX6_passesOn 20 = .ok (.if_icmp .le 6, 3) := by decide +kernel
theorem dX6_passesOn_23 : decode cX6_passesOn 23 = .ok (.bipush (-4), 2) := by decide +kernel
theorem dX6_passesOn_25 : decode cX6_passesOn 25 = .ok (.ireturn, 1) := by decide +kernel
theorem dX6_passesOn_26 : decode cX6_passesOn 26 = .ok (.iconst 0, 1) := by decide +kernel
theorem dX6_passesOn_27 : decode cX6_passesOn 27 = .ok (.istore_n 2, 1) := by decide +kernel
theorem dX6_passesOn_28 : decode cX6_passesOn 28 = .ok (.iconst 0, 1) := by decide +kernel
theorem dX6_passesOn_29 : decode cX6_passesOn 29 = .ok (.istore_n 3, 1) := by decide +kernel
theorem dX6_passesOn_30 : decode cX6_passesOn 30 = .ok (.iload_n 3, 1) := by decide +kernel
theorem dX6_passesOn_31 : decode cX6_passesOn 31 = .ok (.iload_n 1, 1) := by decide +kernel
theorem dX6_passesOn_32 : decode cX6_passesOn 32 = .ok (.if_icmp .ge 16, 3) := by decide +kernel
theorem dX6_passesOn_35 : decode cX6_passesOn 35 = .ok (.iload_n 2, 1) := by decide +kernel
theorem dX6_passesOn_36 : decode cX6_passesOn 36 = .ok (.aload_n 0, 1) := by decide +kernel
theorem dX6_passesOn_37 : decode cX6_passesOn 37 = .ok (.invokestatic 142, 3) := by decide +kernel
theorem dX6_passesOn_40 : decode cX6_passesOn 40 = .ok (.iadd, 1) := by decide +kernel
theorem dX6_passesOn_41 : decode cX6_passesOn 41 = .ok (.istore_n 2, 1) := by decide +kernel
theorem dX6_passesOn_42 : decode cX6_passesOn 42 = .ok (.iinc 3 1, 3) := by decide +kernel
theorem dX6_passesOn_45 : decode cX6_passesOn 45 = .ok (.goto (-15), 3) := by decide +kernel
theorem dX6_passesOn_48 : decode cX6_passesOn 48 = .ok (.iload_n 2, 1) := by decide +kernel
theorem dX6_passesOn_49 : decode cX6_passesOn 49 = .ok (.ireturn, 1) := by decide +kernel
theorem dX6_isFor_0 : decode cX6_isFor 0 = .ok (.iload_n 0, 1) := by decide +kernel
theorem dX6_isFor_1 : decode cX6_isFor 1 = .ok (.ifCond .ne 14, 3) := by decide +kernel
theorem dX6_isFor_4 : decode cX6_isFor 4 = .ok (.iload_n 1, 1) := by decide +kernel
theorem dX6_isFor_5 : decode cX6_isFor 5 = .ok (.bipush 10, 2) := by decide +kernel
theorem dX6_isFor_7 : decode cX6_isFor 7 = .ok (.bipush 100, 2) := by decide +kernel
theorem dX6_isFor_9 : decode cX6_isFor 9 = .ok (.invokestatic 34, 3) := by decide +kernel
theorem dX6_isFor_12 : decode cX6_isFor 12 = .ok (.goto 54, 3) := by decide +kernel
theorem dX6_isFor_15 : decode cX6_isFor 15 = .ok (.iload_n 0, 1) := by decide +kernel
theorem dX6_isFor_16 : decode cX6_isFor 16 = .ok (.iconst 1, 1) := by decide +kernel
theorem dX6_isFor_17 : decode cX6_isFor 17 = .ok (.if_icmp .ne 14, 3) := by decide +kernel
theorem dX6_isFor_20 : decode cX6_isFor 20 = .ok (.iload_n 1, 1) := by decide +kernel
theorem dX6_isFor_21 : decode cX6_isFor 21 = .ok (.iconst 1, 1) := by decide +kernel
theorem dX6_isFor_22 : decode cX6_isFor 22 = .ok (.sipush 999, 3) := by decide +kernel
theorem dX6_isFor_25 : decode cX6_isFor 25 = .ok (.invokestatic 34, 3) := by decide +kernel
theorem dX6_isFor_28 : decode cX6_isFor 28 = .ok (.goto 38, 3) := by decide +kernel
theorem dX6_isFor_31 : decode cX6_isFor 31 = .ok (.iload_n 0, 1) := by decide +kernel
theorem dX6_isFor_32 : decode cX6_isFor 32 = .ok (.iconst 2, 1) := by decide +kernel
theorem dX6_isFor_33 : decode cX6_isFor 33 = .ok (.if_icmp .ne 13, 3) := by decide +kernel
theorem dX6_isFor_36 : decode cX6_isFor 36 = .ok (.iload_n 1, 1) := by decide +kernel
theorem dX6_isFor_37 : decode cX6_isFor 37 = .ok (.iconst 0, 1) := by decide +kernel
theorem dX6_isFor_38 : decode cX6_isFor 38 = .ok (.bipush 8, 2) := by decide +kernel
theorem dX6_isFor_40 : decode cX6_isFor 40 = .ok (.invokestatic 34, 3) := by decide +kernel
theorem dX6_isFor_43 : decode cX6_isFor 43 = .ok (.goto 23, 3) := by decide +kernel
theorem dX6_isFor_46 : decode cX6_isFor 46 = .ok (.iload_n 0, 1) := by decide +kernel
theorem dX6_isFor_47 : decode cX6_isFor 47 = .ok (.iconst 3, 1) := by decide +kernel
theorem dX6_isFor_48 : decode cX6_isFor 48 = .ok (.if_icmp .ne 12, 3) := by decide +kernel
theorem dX6_isFor_51 : decode cX6_isFor 51 = .ok (.iload_n 1, 1) := by decide +kernel
theorem dX6_isFor_52 : decode cX6_isFor 52 = .ok (.iconst 0, 1) := by decide +kernel
theorem dX6_isFor_53 : decode cX6_isFor 53 = .ok (.iconst 4, 1) := by decide +kernel
theorem dX6_isFor_54 : decode cX6_isFor 54 = .ok (.invokestatic 34, 3) := by decide +kernel
theorem dX6_isFor_57 : decode cX6_isFor 57 = .ok (.goto 9, 3) := by decide +kernel
theorem dX6_isFor_60 : decode cX6_isFor 60 = .ok (.iload_n 1, 1) := by decide +kernel
theorem dX6_isFor_61 : decode cX6_isFor 61 = .ok (.iconst 0, 1) := by decide +kernel
theorem dX6_isFor_62 : decode cX6_isFor 62 = .ok (.iconst 1, 1) := by decide +kernel
theorem dX6_isFor_63 : decode cX6_isFor 63 = .ok (.invokestatic 34, 3) := by decide +kernel
theorem dX6_isFor_66 : decode cX6_isFor 66 = .ok (.ireturn, 1) := by decide +kernel
theorem dX6_set_0 : decode cX6_set 0 = .ok (.iload_n 1, 1) := by decide +kernel
theorem dX6_set_1 : decode cX6_set 1 = .ok (.iconst 0, 1) := by decide +kernel
theorem dX6_set_2 : decode cX6_set 2 = .ok (.iconst 4, 1) := by decide +kernel
theorem dX6_set_3 : decode cX6_set 3 = .ok (.invokestatic 34, 3) := by decide +kernel
theorem dX6_set_6 : decode cX6_set 6 = .ok (.ifCond .ne 5, 3) := by decide +kernel
theorem dX6_set_9 : decode cX6_set 9 = .ok (.iconst (-1), 1) := by decide +kernel
theorem dX6_set_10 : decode cX6_set 10 = .ok (.ireturn, 1) := by decide +kernel
theorem dX6_set_11 : decode cX6_set 11 = .ok (.iload_n 1, 1) := by decide +kernel
theorem dX6_set_12 : decode cX6_set 12 = .ok (.iload_n 2, 1) := by decide +kernel
theorem dX6_set_13 : decode cX6_set 13 = .ok (.invokestatic 145, 3) := by decide +kernel
theorem dX6_set_16 : decode cX6_set 16 = .ok (.ifCond .ne 6, 3) := by decide +kernel
theorem dX6_set_19 : decode cX6_set 19 = .ok (.bipush (-2), 2) := by decide +kernel
theorem dX6_set_21 : decode cX6_set 21 = .ok (.ireturn, 1) := by decide +kernel
theorem dX6_set_22 : decode cX6_set 22 = .ok (.aload_n 0, 1) := by decide +kernel
theorem dX6_set_23 : decode cX6_set 23 = .ok (.getfield 7, 3) := by decide +kernel
theorem dX6_set_26 : decode cX6_set 26 = .ok (.iconst 1, 1) := by decide +kernel
theorem dX6_set_27 : decode cX6_set 27 = .ok (.iload_n 1, 1) := by decide +kernel
theorem dX6_set_28 : decode cX6_set 28 = .ok (.iadd, 1) := by decide +kernel
theorem dX6_set_29 : decode cX6_set 29 = .ok (.iaload, 1) := by decide +kernel
theorem dX6_set_30 : decode cX6_set 30 = .ok (.istore_n 3, 1) := by decide +kernel
theorem dX6_set_31 : decode cX6_set 31 = .ok (.iload_n 3, 1) := by decide +kernel
theorem dX6_set_32 : decode cX6_set 32 = .ok (.iload_n 2, 1) := by decide +kernel
theorem dX6_set_33 : decode cX6_set 33 = .ok (.if_icmp .ne 6, 3) := by decide +kernel
theorem dX6_set_36 : decode cX6_set 36 = .ok (.bipush (-5), 2) := by decide +kernel
theorem dX6_set_38 : decode cX6_set 38 = .ok (.ireturn, 1) := by decide +kernel
theorem dX6_set_39 : decode cX6_set 39 = .ok (.aload_n 0, 1) := by decide +kernel
theorem dX6_set_40 : decode cX6_set 40 = .ok (.invokevirtual 46, 3) := by decide +kernel
theorem dX6_set_43 : decode cX6_set 43 = .ok (.aload_n 0, 1) := by decide +kernel
theorem dX6_set_44 : decode cX6_set 44 = .ok (.getfield 7, 3) := by decide +kernel
theorem dX6_set_47 : decode cX6_set 47 = .ok (.iconst 1, 1) := by decide +kernel
theorem dX6_set_48 : decode cX6_set 48 = .ok (.iload_n 1, 1) := by decide +kernel
theorem dX6_set_49 : decode cX6_set 49 = .ok (.iadd, 1) := by decide +kernel
theorem dX6_set_50 : decode cX6_set 50 = .ok (.iload_n 2, 1) := by decide +kernel
theorem dX6_set_51 : decode cX6_set 51 = .ok (.iastore, 1) := by decide +kernel
theorem dX6_set_52 : decode cX6_set 52 = .ok (.aload_n 0, 1) := by decide +kernel
theorem dX6_set_53 : decode cX6_set 53 = .ok (.getfield 7, 3) := by decide +kernel
theorem dX6_set_56 : decode cX6_set 56 = .ok (.bipush 11, 2) := by decide +kernel
theorem dX6_set_58 : decode cX6_set 58 = .ok (.aload_n 0, 1) := by decide +kernel
theorem dX6_set_59 : decode cX6_set 59 = .ok (.getfield 7, 3) := by decide +kernel
theorem dX6_set_62 : decode cX6_set 62 = .ok (.bipush 11, 2) := by decide +kernel
theorem dX6_set_64 : decode cX6_set 64 = .ok (.iaload, 1) := by decide +kernel
theorem dX6_set_65 : decode cX6_set 65 = .ok (.aload_n 0, 1) := by decide +kernel
theorem dX6_set_66 : decode cX6_set 66 = .ok (.getfield 7, 3) := by decide +kernel
theorem dX6_set_69 : decode cX6_set 69 = .ok (.iconst 4, 1) := by decide +kernel
theorem dX6_set_70 : decode cX6_set 70 = .ok (.iaload, 1) := by decide +kernel
theorem dX6_set_71 : decode cX6_set 71 = .ok (.if_icmp .le 12, 3) := by decide +kernel
theorem dX6_set_74 : decode cX6_set 74 = .ok (.aload_n 0, 1) := by decide +kernel
theorem dX6_set_75 : decode cX6_set 75 = .ok (.getfield 7, 3) := by decide +kernel
theorem dX6_set_78 : decode cX6_set 78 = .ok (.iconst 4, 1) := by decide +kernel
theorem dX6_set_79 : decode cX6_set 79 = .ok (.iaload, 1) := by decide +kernel
theorem dX6_set_80 : decode cX6_set 80 = .ok (.goto 10, 3) := by decide +kernel
theorem dX6_set_83 : decode cX6_set 83 = .ok (.aload_n 0, 1) := by decide +kernel
theorem dX6_set_84 : decode cX6_set 84 = .ok (.getfield 7, 3) := by decide +kernel
theorem dX6_set_87 : decode cX6_set 87 = .ok (.bipush 11, 2) := by decide +kernel
theorem dX6_set_89 : decode cX6_set 89 = .ok (.iaload, 1) := by decide +kernel
theorem dX6_set_90 : decode cX6_set 90 = .ok (.iastore, 1) := by decide +kernel
theorem dX6_set_91 : decode cX6_set 91 = .ok (.iload_n 3, 1) := by decide +kernel
theorem dX6_set_92 : decode cX6_set 92 = .ok (.ireturn, 1) := by decide +kernel
theorem dX6_setKind_0 : decode cX6_setKind 0 = .ok (.iload_n 1, 1) := by decide +kernel
theorem dX6_setKind_1 : decode cX6_setKind 1 = .ok (.invokestatic 149, 3) := by decide +kernel
theorem dX6_setKind_4 : decode cX6_setKind 4 = .ok (.ifCond .ne 5, 3) := by decide +kernel
theorem dX6_setKind_7 : decode cX6_setKind 7 = .ok (.iconst (-1), 1) := by decide +kernel
theorem dX6_setKind_8 : decode cX6_setKind 8 = .ok (.ireturn, 1) := by decide +kernel
theorem dX6_setKind_9 : decode cX6_setKind 9 = .ok (.iload_n 2, 1) := by decide +kernel
theorem dX6_setKind_10 : decode cX6_setKind 10 = .ok (.iconst 0, 1) := by decide +kernel
theorem dX6_setKind_11 : decode cX6_setKind 11 = .ok (.iconst 2, 1) := by decide +kernel
theorem dX6_setKind_12 : decode cX6_setKind 12 = .ok (.invokestatic 34, 3) := by decide +kernel
theorem dX6_setKind_15 : decode cX6_setKind 15 = .ok (.ifCond .ne 6, 3) := by decide +kernel
theorem dX6_setKind_18 : decode cX6_setKind 18 = .ok (.bipush (-2), 2) := by decide +kernel
theorem dX6_setKind_20 : decode cX6_setKind 20 = .ok (.ireturn, 1) := by decide +kernel
theorem dX6_setKind_21 : decode cX6_setKind 21 = .ok (.aload_n 0, 1) := by decide +kernel
theorem dX6_setKind_22 : decode cX6_setKind 22 = .ok (.getfield 7, 3) := by decide +kernel
theorem dX6_setKind_25 : decode cX6_setKind 25 = .ok (.iload_n 1, 1) := by decide +kernel
theorem dX6_setKind_26 : decode cX6_setKind 26 = .ok (.invokestatic 64, 3) := by decide +kernel
theorem dX6_setKind_29 : decode cX6_setKind 29 = .ok (.ifCond .ne 6, 3) := by decide +kernel
theorem dX6_setKind_32 : decode cX6_setKind 32 = .ok (.bipush (-4), 2) := by decide +kernel
theorem dX6_setKind_34 : decode cX6_setKind 34 = .ok (.ireturn, 1) := by decide +kernel
theorem dX6_setKind_35 : decode cX6_setKind 35 = .ok (.aload_n 0, 1) := by decide +kernel
theorem dX6_setKind_36 : decode cX6_setKind 36 = .ok (.getfield 7, 3) := by decide +kernel
theorem dX6_setKind_39 : decode cX6_setKind 39 = .ok (.iload_n 1, 1) := by decide +kernel
theorem dX6_setKind_40 : decode cX6_setKind 40 = .ok (.invokestatic 57, 3) := by decide +kernel
theorem dX6_setKind_43 : decode cX6_setKind 43 = .ok (.istore_n 3, 1) := by decide +kernel
theorem dX6_setKind_44 : decode cX6_setKind 44 = .ok (.iload_n 3, 1) := by decide +kernel
theorem dX6_setKind_45 : decode cX6_setKind 45 = .ok (.iload_n 2, 1) := by decide +kernel
theorem dX6_setKind_46 : decode cX6_setKind 46 = .ok (.if_icmp .ne 6, 3) := by decide +kernel
theorem dX6_setKind_49 : decode cX6_setKind 49 = .ok (.bipush (-5), 2) := by decide +kernel
theorem dX6_setKind_51 : decode cX6_setKind 51 = .ok (.ireturn, 1) := by decide +kernel
theorem dX6_setKind_52 : decode cX6_setKind 52 = .ok (.aload_n 0, 1) := by decide +kernel
theorem dX6_setKind_53 : decode cX6_setKind 53 = .ok (.invokevirtual 46, 3) := by decide +kernel
theorem dX6_setKind_56 : decode cX6_setKind 56 = .ok (.aload_n 0, 1) := by decide +kernel
theorem dX6_setKind_57 : decode cX6_setKind 57 = .ok (.getfield 7, 3) := by decide +kernel
theorem dX6_setKind_60 : decode cX6_setKind 60 = .ok (.bipush 41, 2) := by decide +kernel
theorem dX6_setKind_62 : decode cX6_setKind 62 = .ok (.iconst 4, 1) := by decide +kernel
theorem dX6_setKind_63 : decode cX6_setKind 63 = .ok (.iload_n 1, 1) := by decide +kernel
theorem dX6_setKind_64 : decode cX6_setKind 64 = .ok (.imul, 1) := by decide +kernel
theorem dX6_setKind_65 : decode cX6_setKind 65 = .ok (.iadd, 1) := by decide +kernel
theorem dX6_setKind_66 : decode cX6_setKind 66 = .ok (.iload_n 2, 1) := by decide +kernel
theorem dX6_setKind_67 : decode cX6_setKind 67 = .ok (.iastore, 1) := by decide +kernel
theorem dX6_setKind_68 : decode cX6_setKind 68 = .ok (.iload_n 3, 1) := by decide +kernel
theorem dX6_setKind_69 : decode cX6_setKind 69 = .ok (.ireturn, 1) := by decide +kernel
theorem dX6_mark_0 : decode cX6_mark 0 = .ok (.iload_n 1, 1) := by decide +kernel
theorem dX6_mark_1 : decode cX6_mark 1 = .ok (.invokestatic 149, 3) := by decide +kernel
theorem dX6_mark_4 : decode cX6_mark 4 = .ok (.ifCond .ne 5, 3) := by decide +kernel
theorem dX6_mark_7 : decode cX6_mark 7 = .ok (.iconst (-1), 1) := by decide +kernel
theorem dX6_mark_8 : decode cX6_mark 8 = .ok (.ireturn, 1) := by decide +kernel
theorem dX6_mark_9 : decode cX6_mark 9 = .ok (.aload_n 0, 1) := by decide +kernel
theorem dX6_mark_10 : decode cX6_mark 10 = .ok (.getfield 7, 3) := by decide +kernel
theorem dX6_mark_13 : decode cX6_mark 13 = .ok (.iload_n 1, 1) := by decide +kernel
theorem dX6_mark_14 : decode cX6_mark 14 = .ok (.invokestatic 64, 3) := by decide +kernel
theorem dX6_mark_17 : decode cX6_mark 17 = .ok (.ifCond .eq 6, 3) := by decide +kernel
theorem dX6_mark_20 : decode cX6_mark 20 = .ok (.bipush (-4), 2) := by decide +kernel
theorem dX6_mark_22 : decode cX6_mark 22 = .ok (.ireturn, 1) := by decide +kernel
theorem dX6_mark_23 : decode cX6_mark 23 = .ok (.iload_n 2, 1) := by decide +kernel
theorem dX6_mark_24 : decode cX6_mark 24 = .ok (.ifCond .eq 7, 3) := by decide +kernel
theorem dX6_mark_27 : decode cX6_mark 27 = .ok (.iconst 1, 1) := by decide +kernel
theorem dX6_mark_28 : decode cX6_mark 28 = .ok (.goto 4, 3) := by decide +kernel
theorem dX6_mark_31 : decode cX6_mark 31 = .ok (.iconst 0, 1) := by decide +kernel
theorem dX6_mark_32 : decode cX6_mark 32 = .ok (.istore_n 3, 1) := by decide +kernel
theorem dX6_mark_33 : decode cX6_mark 33 = .ok (.aload_n 0, 1) := by decide +kernel
theorem dX6_mark_34 : decode cX6_mark 34 = .ok (.getfield 7, 3) := by decide +kernel
theorem dX6_mark_37 : decode cX6_mark 37 = .ok (.bipush 41, 2) := by decide +kernel
theorem dX6_mark_39 : decode cX6_mark 39 = .ok (.iconst 4, 1) := by decide +kernel
theorem dX6_mark_40 : decode cX6_mark 40 = .ok (.iload_n 1, 1) := by decide +kernel
theorem dX6_mark_41 : decode cX6_mark 41 = .ok (.imul, 1) := by decide +kernel
theorem dX6_mark_42 : decode cX6_mark 42 = .ok (.iadd, 1) := by decide +kernel
theorem dX6_mark_43 : decode cX6_mark 43 = .ok (.iconst 2, 1) := by decide +kernel
theorem dX6_mark_44 : decode cX6_mark 44 = .ok (.iadd, 1) := by decide +kernel
theorem dX6_mark_45 : decode cX6_mark 45 = .ok (.iaload, 1) := by decide +kernel
theorem dX6_mark_46 : decode cX6_mark 46 = .ok (.iload_n 3, 1) := by decide +kernel
theorem dX6_mark_47 : decode cX6_mark 47 = .ok (.if_icmp .ne 6, 3) := by decide +kernel
theorem dX6_mark_50 : decode cX6_mark 50 = .ok (.bipush (-5), 2) := by decide +kernel
theorem dX6_mark_52 : decode cX6_mark 52 = .ok (.ireturn, 1) := by decide +kernel
theorem dX6_mark_53 : decode cX6_mark 53 = .ok (.aload_n 0, 1) := by decide +kernel
theorem dX6_mark_54 : decode cX6_mark 54 = .ok (.invokevirtual 46, 3) := by decide +kernel
theorem dX6_mark_57 : decode cX6_mark 57 = .ok (.aload_n 0, 1) := by decide +kernel
theorem dX6_mark_58 : decode cX6_mark 58 = .ok (.getfield 7, 3) := by decide +kernel
theorem dX6_mark_61 : decode cX6_mark 61 = .ok (.bipush 41, 2) := by decide +kernel
theorem dX6_mark_63 : decode cX6_mark 63 = .ok (.iconst 4, 1) := by decide +kernel
theorem dX6_mark_64 : decode cX6_mark 64 = .ok (.iload_n 1, 1) := by decide +kernel
theorem dX6_mark_65 : decode cX6_mark 65 = .ok (.imul, 1) := by decide +kernel
theorem dX6_mark_66 : decode cX6_mark 66 = .ok (.iadd, 1) := by decide +kernel
theorem dX6_mark_67 : decode cX6_mark 67 = .ok (.iconst 2, 1) := by decide +kernel
theorem dX6_mark_68 : decode cX6_mark 68 = .ok (.iadd, 1) := by decide +kernel
theorem dX6_mark_69 : decode cX6_mark 69 = .ok (.iload_n 3, 1) := by decide +kernel
theorem dX6_mark_70 : decode cX6_mark 70 = .ok (.iastore, 1) := by decide +kernel
theorem dX6_mark_71 : decode cX6_mark 71 = .ok (.aload_n 0, 1) := by decide +kernel
theorem dX6_mark_72 : decode cX6_mark 72 = .ok (.getfield 7, 3) := by decide +kernel
theorem dX6_mark_75 : decode cX6_mark 75 = .ok (.invokestatic 152, 3) := by decide +kernel
theorem dX6_mark_78 : decode cX6_mark 78 = .ok (.ireturn, 1) := by decide +kernel
theorem dX6_write_0 : decode cX6_write 0 = .ok (.aload_n 0, 1) := by decide +kernel
theorem dX6_write_1 : decode cX6_write 1 = .ok (.invokevirtual 155, 3) := by decide +kernel
theorem dX6_write_4 : decode cX6_write 4 = .ok (.aload_n 0, 1) := by decide +kernel
theorem dX6_write_5 : decode cX6_write 5 = .ok (.getfield 13, 3) := by decide +kernel
theorem dX6_write_8 : decode cX6_write 8 = .ok (.iload_n 1, 1) := by decide +kernel
theorem dX6_write_9 : decode cX6_write 9 = .ok (.invokestatic 158, 3) := by decide +kernel
theorem dX6_write_12 : decode cX6_write 12 = .ok (.istore_n 2, 1) := by decide +kernel
theorem dX6_write_13 : decode cX6_write 13 = .ok (.iload_n 2, 1) := by decide +kernel
theorem dX6_write_14 : decode cX6_write 14 = .ok (.ifCond .ge 7, 3) := by decide +kernel
theorem dX6_write_17 : decode cX6_write 17 = .ok (.iload_n 2, 1) := by decide +kernel
theorem dX6_write_18 : decode cX6_write 18 = .ok (.goto 8, 3) := by decide +kernel
theorem dX6_write_21 : decode cX6_write 21 = .ok (.aload_n 0, 1) := by decide +kernel
theorem dX6_write_22 : decode cX6_write 22 = .ok (.iload_n 2, 1) := by decide +kernel
theorem dX6_write_23 : decode cX6_write 23 = .ok (.invokevirtual 161, 3) := by decide +kernel
theorem dX6_write_26 : decode cX6_write 26 = .ok (.ireturn, 1) := by decide +kernel
theorem dX6_read_0 : decode cX6_read 0 = .ok (.aload_n 0, 1) := by decide +kernel
theorem dX6_read_1 : decode cX6_read 1 = .ok (.invokevirtual 155, 3) := by decide +kernel
theorem dX6_read_4 : decode cX6_read 4 = .ok (.aload_n 0, 1) := by decide +kernel
theorem dX6_read_5 : decode cX6_read 5 = .ok (.aload_n 0, 1) := by decide +kernel
theorem dX6_read_6 : decode cX6_read 6 = .ok (.getfield 13, 3) := by decide +kernel
theorem dX6_read_9 : decode cX6_read 9 = .ok (.iload_n 1, 1) := by decide +kernel
theorem dX6_read_10 : decode cX6_read 10 = .ok (.invokevirtual 165, 3) := by decide +kernel
theorem dX6_read_13 : decode cX6_read 13 = .ok (.istore_n 2, 1) := by decide +kernel
theorem dX6_read_14 : decode cX6_read 14 = .ok (.iload_n 2, 1) := by decide +kernel
theorem dX6_read_15 : decode cX6_read 15 = .ok (.ifCond .ge 7, 3) := by decide +kernel
theorem dX6_read_18 : decode cX6_read 18 = .ok (.iload_n 2, 1) := by decide +kernel
theorem dX6_read_19 : decode cX6_read 19 = .ok (.goto 8, 3) := by decide +kernel
theorem dX6_read_22 : decode cX6_read 22 = .ok (.aload_n 0, 1) := by decide +kernel
theorem dX6_read_23 : decode cX6_read 23 = .ok (.iload_n 2, 1) := by decide +kernel
theorem dX6_read_24 : decode cX6_read 24 = .ok (.invokevirtual 161, 3) := by decide +kernel
theorem dX6_read_27 : decode cX6_read 27 = .ok (.ireturn, 1) := by decide +kernel
theorem dX6_placed_0 : decode cX6_placed 0 = .ok (.iconst 0, 1) := by decide +kernel
theorem dX6_placed_1 : decode cX6_placed 1 = .ok (.istore_n 1, 1) := by decide +kernel
theorem dX6_placed_2 : decode cX6_placed 2 = .ok (.iconst 0, 1) := by decide +kernel
theorem dX6_placed_3 : decode cX6_placed 3 = .ok (.istore_n 2, 1) := by decide +kernel
theorem dX6_placed_4 : decode cX6_placed 4 = .ok (.iload_n 2, 1) := by decide +kernel
theorem dX6_placed_5 : decode cX6_placed 5 = .ok (.bipush 6, 2) := by decide +kernel
theorem dX6_placed_7 : decode cX6_placed 7 = .ok (.if_icmp .ge 18, 3) := by decide +kernel
theorem dX6_placed_10 : decode cX6_placed 10 = .ok (.iload_n 1, 1) := by decide +kernel
theorem dX6_placed_11 : decode cX6_placed 11 = .ok (.aload_n 0, 1) := by decide +kernel
theorem dX6_placed_12 : decode cX6_placed 12 = .ok (.iload_n 2, 1) := by decide +kernel
theorem dX6_placed_13 : decode cX6_placed 13 = .ok (.iconst 0, 1) := by decide +kernel
theorem dX6_placed_14 : decode cX6_placed 14 = .ok (.invokestatic 60, 3) := by decide +kernel
theorem dX6_placed_17 : decode cX6_placed 17 = .ok (.iadd, 1) := by decide +kernel
theorem dX6_placed_18 : decode cX6_placed 18 = .ok (.istore_n 1, 1) := by decide +kernel
theorem dX6_placed_19 : decode cX6_placed 19 = .ok (.iinc 2 1, 3) := by decide +kernel
theorem dX6_placed_22 : decode cX6_placed 22 = .ok (.goto (-18), 3) := by decide +kernel
theorem dX6_placed_25 : decode cX6_placed 25 = .ok (.iload_n 1, 1) := by decide +kernel
theorem dX6_placed_26 : decode cX6_placed 26 = .ok (.ireturn, 1) := by decide +kernel
theorem dX6_forget_0 : decode cX6_forget 0 = .ok (.iload_n 1, 1) := by decide +kernel
theorem dX6_forget_1 : decode cX6_forget 1 = .ok (.invokestatic 129, 3) := by decide +kernel
theorem dX6_forget_4 : decode cX6_forget 4 = .ok (.ifCond .eq 16, 3) := by decide +kernel
theorem dX6_forget_7 : decode cX6_forget 7 = .ok (.aload_n 0, 1) := by decide +kernel
theorem dX6_forget_8 : decode cX6_forget 8 = .ok (.getfield 7, 3) := by decide +kernel
theorem dX6_forget_11 : decode cX6_forget 11 = .ok (.iload_n 1, 1) := by decide +kernel
theorem dX6_forget_12 : decode cX6_forget 12 = .ok (.invokestatic 102, 3) := by decide +kernel
theorem dX6_forget_15 : decode cX6_forget 15 = .ok (.bipush (-5), 2) := by decide +kernel
theorem dX6_forget_17 : decode cX6_forget 17 = .ok (.if_icmp .ne 5, 3) := by decide +kernel
theorem dX6_forget_20 : decode cX6_forget 20 = .ok (.iconst (-1), 1) := by decide +kernel
theorem dX6_forget_21 : decode cX6_forget 21 = .ok (.ireturn, 1) := by decide +kernel
theorem dX6_forget_22 : decode cX6_forget 22 = .ok (.aload_n 0, 1) := by decide +kernel
theorem dX6_forget_23 : decode cX6_forget 23 = .ok (.invokevirtual 46, 3) := by decide +kernel
theorem dX6_forget_26 : decode cX6_forget 26 = .ok (.aload_n 0, 1) := by decide +kernel
theorem dX6_forget_27 : decode cX6_forget 27 = .ok (.getfield 7, 3) := by decide +kernel
theorem dX6_forget_30 : decode cX6_forget 30 = .ok (.bipush 65, 2) := by decide +kernel
theorem dX6_forget_32 : decode cX6_forget 32 = .ok (.iconst 3, 1) := by decide +kernel
theorem dX6_forget_33 : decode cX6_forget 33 = .ok (.aload_n 0, 1) := by decide +kernel
theorem dX6_forget_34 : decode cX6_forget 34 = .ok (.getfield 7, 3) := by decide +kernel
theorem dX6_forget_37 : decode cX6_forget 37 = .ok (.iload_n 1, 1) := by decide +kernel
theorem dX6_forget_38 : decode cX6_forget 38 = .ok (.invokestatic 102, 3) := by decide +kernel
theorem dX6_forget_41 : decode cX6_forget 41 = .ok (.imul, 1) := by decide +kernel
theorem dX6_forget_42 : decode cX6_forget 42 = .ok (.iadd, 1) := by decide +kernel
theorem dX6_forget_43 : decode cX6_forget 43 = .ok (.bipush (-2), 2) := by decide +kernel
theorem dX6_forget_45 : decode cX6_forget 45 = .ok (.iastore, 1) := by decide +kernel
theorem dX6_forget_46 : decode cX6_forget 46 = .ok (.aload_n 0, 1) := by decide +kernel
theorem dX6_forget_47 : decode cX6_forget 47 = .ok (.getfield 7, 3) := by decide +kernel
theorem dX6_forget_50 : decode cX6_forget 50 = .ok (.iload_n 1, 1) := by decide +kernel
theorem dX6_forget_51 : decode cX6_forget 51 = .ok (.invokestatic 90, 3) := by decide +kernel
theorem dX6_forget_54 : decode cX6_forget 54 = .ok (.aload_n 0, 1) := by decide +kernel
theorem dX6_forget_55 : decode cX6_forget 55 = .ok (.getfield 7, 3) := by decide +kernel
theorem dX6_forget_58 : decode cX6_forget 58 = .ok (.invokestatic 168, 3) := by decide +kernel
theorem dX6_forget_61 : decode cX6_forget 61 = .ok (.ireturn, 1) := by decide +kernel
theorem dX6_moveBlock_0 : decode cX6_moveBlock 0 = .ok (.iload_n 1, 1) := by decide +kernel
theorem dX6_moveBlock_1 : decode cX6_moveBlock 1 = .ok (.invokestatic 149, 3) := by decide +kernel
theorem dX6_moveBlock_4 : decode cX6_moveBlock 4 = .ok (.ifCond .ne 5, 3) := by decide +kernel
theorem dX6_moveBlock_7 : decode cX6_moveBlock 7 = .ok (.iconst (-1), 1) := by decide +kernel
theorem dX6_moveBlock_8 : decode cX6_moveBlock 8 = .ok (.ireturn, 1) := by decide +kernel
theorem dX6_moveBlock_9 : decode cX6_moveBlock 9 = .ok (.aload_n 0, 1) := by decide +kernel
theorem dX6_moveBlock_10 : decode cX6_moveBlock 10 = .ok (.getfield 7, 3) := by decide +kernel
theorem dX6_moveBlock_13 : decode cX6_moveBlock 13 = .ok (.iload_n 1, 1) := by decide +kernel
theorem dX6_moveBlock_14 : decode cX6_moveBlock 14 = .ok (.invokestatic 64, 3) := by decide +kernel
theorem dX6_moveBlock_17 : decode cX6_moveBlock 17 = .ok (.ifCond .eq 6, 3) := by decide +kernel
theorem dX6_moveBlock_20 : decode cX6_moveBlock 20 = .ok (.bipush (-4), 2) := by decide +kernel
theorem dX6_moveBlock_22 : decode cX6_moveBlock 22 = .ok (.ireturn, 1) := by decide +kernel
theorem dX6_moveBlock_23 : decode cX6_moveBlock 23 = .ok (.aload_n 0, 1) := by decide +kernel
theorem dX6_moveBlock_24 : decode cX6_moveBlock 24 = .ok (.invokevirtual 155, 3) := by decide +kernel
theorem dX6_moveBlock_27 : decode cX6_moveBlock 27 = .ok (.aload_n 0, 1) := by decide +kernel
theorem dX6_moveBlock_28 : decode cX6_moveBlock 28 = .ok (.getfield 13, 3) := by decide +kernel
theorem dX6_moveBlock_31 : decode cX6_moveBlock 31 = .ok (.iload_n 1, 1) := by decide +kernel
theorem dX6_moveBlock_32 : decode cX6_moveBlock 32 = .ok (.invokestatic 136, 3) := by decide +kernel
theorem dX6_moveBlock_35 : decode cX6_moveBlock 35 = .ok (.istore_n 2, 1) := by decide +kernel
theorem dX6_moveBlock_36 : decode cX6_moveBlock 36 = .ok (.iload_n 2, 1) := by decide +kernel
theorem dX6_moveBlock_37 : decode cX6_moveBlock 37 = .ok (.ifCond .ge 7, 3) := by decide +kernel
theorem dX6_moveBlock_40 : decode cX6_moveBlock 40 = .ok (.iload_n 2, 1) := by decide +kernel
theorem dX6_moveBlock_41 : decode cX6_moveBlock 41 = .ok (.goto 8, 3) := by decide +kernel
theorem dX6_moveBlock_44 : decode cX6_moveBlock 44 = .ok (.aload_n 0, 1) := by decide +kernel
theorem dX6_moveBlock_45 : decode cX6_moveBlock 45 = .ok (.iload_n 2, 1) := by decide +kernel
theorem dX6_moveBlock_46 : decode cX6_moveBlock 46 = .ok (.invokevirtual 161, 3) := by decide +kernel
theorem dX6_moveBlock_49 : decode cX6_moveBlock 49 = .ok (.ireturn, 1) := by decide +kernel
theorem dX6_pass_0 : decode cX6_pass 0 = .ok (.aload_n 0, 1) := by decide +kernel
theorem dX6_pass_1 : decode cX6_pass 1 = .ok (.invokevirtual 155, 3) := by decide +kernel
theorem dX6_pass_4 : decode cX6_pass 4 = .ok (.aload_n 0, 1) := by decide +kernel
theorem dX6_pass_5 : decode cX6_pass 5 = .ok (.getfield 13, 3) := by decide +kernel
theorem dX6_pass_8 : decode cX6_pass 8 = .ok (.iload_n 1, 1) := by decide +kernel
theorem dX6_pass_9 : decode cX6_pass 9 = .ok (.invokestatic 171, 3) := by decide +kernel
theorem dX6_pass_12 : decode cX6_pass 12 = .ok (.istore_n 2, 1) := by decide +kernel
theorem dX6_pass_13 : decode cX6_pass 13 = .ok (.iload_n 2, 1) := by decide +kernel
theorem dX6_pass_14 : decode cX6_pass 14 = .ok (.ifCond .ge 7, 3) := by decide +kernel
theorem dX6_pass_17 : decode cX6_pass 17 = .ok (.iload_n 2, 1) := by decide +kernel
theorem dX6_pass_18 : decode cX6_pass 18 = .ok (.goto 8, 3) := by decide +kernel
theorem dX6_pass_21 : decode cX6_pass 21 = .ok (.aload_n 0, 1) := by decide +kernel
theorem dX6_pass_22 : decode cX6_pass 22 = .ok (.iload_n 2, 1) := by decide +kernel
theorem dX6_pass_23 : decode cX6_pass 23 = .ok (.invokevirtual 161, 3) := by decide +kernel
theorem dX6_pass_26 : decode cX6_pass 26 = .ok (.ireturn, 1) := by decide +kernel
theorem dX6_type_0 : decode cX6_type 0 = .ok (.aload_n 0, 1) := by decide +kernel
theorem dX6_type_1 : decode cX6_type 1 = .ok (.getfield 174, 3) := by decide +kernel
theorem dX6_type_4 : decode cX6_type 4 = .ok (.bipush 60, 2) := by decide +kernel
theorem dX6_type_6 : decode cX6_type 6 = .ok (.if_icmp .ne 6, 3) := by decide +kernel
theorem dX6_type_9 : decode cX6_type 9 = .ok (.bipush (-3), 2) := by decide +kernel
theorem dX6_type_11 : decode cX6_type 11 = .ok (.ireturn, 1) := by decide +kernel
theorem dX6_type_12 : decode cX6_type 12 = .ok (.aload_n 0, 1) := by decide +kernel
theorem dX6_type_13 : decode cX6_type 13 = .ok (.getfield 25, 3) := by decide +kernel
theorem dX6_type_16 : decode cX6_type 16 = .ok (.aload_n 0, 1) := by decide +kernel
theorem dX6_type_17 : decode cX6_type 17 = .ok (.getfield 174, 3) := by decide +kernel
theorem dX6_type_20 : decode cX6_type 20 = .ok (.iload_n 1, 1) := by decide +kernel
theorem dX6_type_21 : decode cX6_type 21 = .ok (.iastore, 1) := by decide +kernel
theorem dX6_type_22 : decode cX6_type 22 = .ok (.aload_n 0, 1) := by decide +kernel
theorem dX6_type_23 : decode cX6_type 23 = .ok (.dup, 1) := by decide +kernel
theorem dX6_type_24 : decode cX6_type 24 = .ok (.getfield 174, 3) := by decide +kernel
theorem dX6_type_27 : decode cX6_type 27 = .ok (.iconst 1, 1) := by decide +kernel
theorem dX6_type_28 : decode cX6_type 28 = .ok (.iadd, 1) := by decide +kernel
theorem dX6_type_29 : decode cX6_type 29 = .ok (.putfield 174, 3) := by decide +kernel
theorem dX6_type_32 : decode cX6_type 32 = .ok (.aload_n 0, 1) := by decide +kernel
theorem dX6_type_33 : decode cX6_type 33 = .ok (.getfield 174, 3) := by decide +kernel
theorem dX6_type_36 : decode cX6_type 36 = .ok (.ireturn, 1) := by decide +kernel
theorem dX6_clearText_0 : decode cX6_clearText 0 = .ok (.aload_n 0, 1) := by decide +kernel
theorem dX6_clearText_1 : decode cX6_clearText 1 = .ok (.getfield 174, 3) := by decide +kernel
theorem dX6_clearText_4 : decode cX6_clearText 4 = .ok (.istore_n 1, 1) := by decide +kernel
theorem dX6_clearText_5 : decode cX6_clearText 5 = .ok (.aload_n 0, 1) := by decide +kernel
theorem dX6_clearText_6 : decode cX6_clearText 6 = .ok (.iconst 0, 1) := by decide +kernel
theorem dX6_clearText_7 : decode cX6_clearText 7 = .ok (.putfield 174, 3) := by decide +kernel
theorem dX6_clearText_10 : decode cX6_clearText 10 = .ok (.iload_n 1, 1) := by decide +kernel
theorem dX6_clearText_11 : decode cX6_clearText 11 = .ok (.ireturn, 1) := by decide +kernel
theorem dX6_isAt_0 : decode cX6_isAt 0 = .ok (.aload_n 0, 1) := by decide +kernel
theorem dX6_isAt_1 : decode cX6_isAt 1 = .ok (.getfield 177, 3) := by decide +kernel
theorem dX6_isAt_4 : decode cX6_isAt 4 = .ok (.aload_n 0, 1) := by decide +kernel
theorem dX6_isAt_5 : decode cX6_isAt 5 = .ok (.getfield 174, 3) := by decide +kernel
theorem dX6_isAt_8 : decode cX6_isAt 8 = .ok (.if_icmp .ge 24, 3) := by decide +kernel
theorem dX6_isAt_11 : decode cX6_isAt 11 = .ok (.aload_n 0, 1) := by decide +kernel
theorem dX6_isAt_12 : decode cX6_isAt 12 = .ok (.getfield 25, 3) := by decide +kernel
theorem dX6_isAt_15 : decode cX6_isAt 15 = .ok (.aload_n 0, 1) := by decide +kernel
theorem dX6_isAt_16 : decode cX6_isAt 16 = .ok (.getfield 177, 3) := by decide +kernel
theorem dX6_isAt_19 : decode cX6_isAt 19 = .ok (.iaload, 1) := by decide +kernel
theorem dX6_isAt_20 : decode cX6_isAt 20 = .ok (.iload_n 1, 1) := by decide +kernel
theorem dX6_isAt_21 : decode cX6_isAt 21 = .ok (.iload_n 2, 1) := by decide +kernel
theorem dX6_isAt_22 : decode cX6_isAt 22 = .ok (.invokestatic 34, 3) := by decide +kernel
theorem dX6_isAt_25 : decode cX6_isAt 25 = .ok (.ifCond .eq 7, 3) := by decide +kernel
theorem dX6_isAt_28 : decode cX6_isAt 28 = .ok (.iconst 1, 1) := by decide +kernel
theorem dX6_isAt_29 : decode cX6_isAt 29 = .ok (.goto 4, 3) := by decide +kernel
theorem dX6_isAt_32 : decode cX6_isAt 32 = .ok (.iconst 0, 1) := by decide +kernel
theorem dX6_isAt_33 : decode cX6_isAt 33 = .ok (.ireturn, 1) := by decide +kernel
theorem dX6_isSign_0 : decode cX6_isSign 0 = .ok (.aload_n 0, 1) := by decide +kernel
theorem dX6_isSign_1 : decode cX6_isSign 1 = .ok (.iload_n 1, 1) := by decide +kernel
theorem dX6_isSign_2 : decode cX6_isSign 2 = .ok (.iload_n 1, 1) := by decide +kernel
theorem dX6_isSign_3 : decode cX6_isSign 3 = .ok (.invokevirtual 180, 3) := by decide +kernel
theorem dX6_isSign_6 : decode cX6_isSign 6 = .ok (.istore_n 2, 1) := by decide +kernel
theorem dX6_isSign_7 : decode cX6_isSign 7 = .ok (.aload_n 0, 1) := by decide +kernel
theorem dX6_isSign_8 : decode cX6_isSign 8 = .ok (.dup, 1) := by decide +kernel
theorem dX6_isSign_9 : decode cX6_isSign 9 = .ok (.getfield 177, 3) := by decide +kernel
theorem dX6_isSign_12 : decode cX6_isSign 12 = .ok (.iload_n 2, 1) := by decide +kernel
theorem dX6_isSign_13 : decode cX6_isSign 13 = .ok (.ifCond .eq 7, 3) := by decide +kernel
theorem dX6_isSign_16 : decode cX6_isSign 16 = .ok (.iconst 1, 1) := by decide +kernel
theorem dX6_isSign_17 : decode cX6_isSign 17 = .ok (.goto 4, 3) := by decide +kernel
theorem dX6_isSign_20 : decode cX6_isSign 20 = .ok (.iconst 0, 1) := by decide +kernel
theorem dX6_isSign_21 : decode cX6_isSign 21 = .ok (.iadd, 1) := by decide +kernel
theorem dX6_isSign_22 : decode cX6_isSign 22 = .ok (.putfield 177, 3) := by decide +kernel
theorem dX6_isSign_25 : decode cX6_isSign 25 = .ok (.iload_n 2, 1) := by decide +kernel
theorem dX6_isSign_26 : decode cX6_isSign 26 = .ok (.ireturn, 1) := by decide +kernel
theorem dX6_isNumber_0 : decode cX6_isNumber 0 = .ok (.aload_n 0, 1) := by decide +kernel
theorem dX6_isNumber_1 : decode cX6_isNumber 1 = .ok (.bipush 48, 2) := by decide +kernel
theorem dX6_isNumber_3 : decode cX6_isNumber 3 = .ok (.iload_n 1, 1) := by decide +kernel
theorem dX6_isNumber_4 : decode cX6_isNumber 4 = .ok (.iadd, 1) := by decide +kernel
theorem dX6_isNumber_5 : decode cX6_isNumber 5 = .ok (.bipush 57, 2) := by decide +kernel
theorem dX6_isNumber_7 : decode cX6_isNumber 7 = .ok (.invokevirtual 180, 3) := by decide +kernel
theorem dX6_isNumber_10 : decode cX6_isNumber 10 = .ok (.ifCond .ne 5, 3) := by decide +kernel
theorem dX6_isNumber_13 : decode cX6_isNumber 13 = .ok (.iconst 0, 1) := by decide +kernel
theorem dX6_isNumber_14 : decode cX6_isNumber 14 = .ok (.ireturn, 1) := by decide +kernel
theorem dX6_isNumber_15 : decode cX6_isNumber 15 = .ok (.aload_n 0, 1) := by decide +kernel
theorem dX6_isNumber_16 : decode cX6_isNumber 16 = .ok (.aload_n 0, 1) := by decide +kernel
theorem dX6_isNumber_17 : decode cX6_isNumber 17 = .ok (.getfield 25, 3) := by decide +kernel
theorem dX6_isNumber_20 : decode cX6_isNumber 20 = .ok (.aload_n 0, 1) := by decide +kernel
theorem dX6_isNumber_21 : decode cX6_isNumber 21 = .ok (.getfield 177, 3) := by decide +kernel
theorem dX6_isNumber_24 : decode cX6_isNumber 24 = .ok (.iaload, 1) := by decide +kernel
theorem dX6_isNumber_25 : decode cX6_isNumber 25 = .ok (.bipush 48, 2) := by decide +kernel
theorem dX6_isNumber_27 : decode cX6_isNumber 27 = .ok (.isub, 1) := by decide +kernel
theorem dX6_isNumber_28 : decode cX6_isNumber 28 = .ok (.putfield 183, 3) := by decide +kernel
theorem dX6_isNumber_31 : decode cX6_isNumber 31 = .ok (.aload_n 0, 1) := by decide +kernel
theorem dX6_isNumber_32 : decode cX6_isNumber 32 = .ok (.dup, 1) := by decide +kernel
theorem dX6_isNumber_33 : decode cX6_isNumber 33 = .ok (.getfield 177, 3) := by decide +kernel
theorem dX6_isNumber_36 : decode cX6_isNumber 36 = .ok (.iconst 1, 1) := by decide +kernel
theorem dX6_isNumber_37 : decode cX6_isNumber 37 = .ok (.iadd, 1) := by decide +kernel
theorem dX6_isNumber_38 : decode cX6_isNumber 38 = .ok (.putfield 177, 3) := by decide +kernel
theorem dX6_isNumber_41 : decode cX6_isNumber 41 = .ok (.aload_n 0, 1) := by decide +kernel
theorem dX6_isNumber_42 : decode cX6_isNumber 42 = .ok (.getfield 183, 3) := by decide +kernel
theorem dX6_isNumber_45 : decode cX6_isNumber 45 = .ok (.ifCond .le 72, 3) := by decide +kernel
theorem dX6_isNumber_48 : decode cX6_isNumber 48 = .ok (.aload_n 0, 1) := by decide +kernel
theorem dX6_isNumber_49 : decode cX6_isNumber 49 = .ok (.bipush 48, 2) := by decide +kernel
theorem dX6_isNumber_51 : decode cX6_isNumber 51 = .ok (.bipush 57, 2) := by decide +kernel
theorem dX6_isNumber_53 : decode cX6_isNumber 53 = .ok (.invokevirtual 180, 3) := by decide +kernel
theorem dX6_isNumber_56 : decode cX6_isNumber 56 = .ok (.ifCond .eq 61, 3) := by decide +kernel
theorem dX6_isNumber_59 : decode cX6_isNumber 59 = .ok (.bipush 10, 2) := by decide +kernel
theorem dX6_isNumber_61 : decode cX6_isNumber 61 = .ok (.aload_n 0, 1) := by decide +kernel
theorem dX6_isNumber_62 : decode cX6_isNumber 62 = .ok (.getfield 183, 3) := by decide +kernel
theorem dX6_isNumber_65 : decode cX6_isNumber 65 = .ok (.imul, 1) := by decide +kernel
theorem dX6_isNumber_66 : decode cX6_isNumber 66 = .ok (.aload_n 0, 1) := by decide +kernel
theorem dX6_isNumber_67 : decode cX6_isNumber 67 = .ok (.getfield 25, 3) := by decide +kernel
theorem dX6_isNumber_70 : decode cX6_isNumber 70 = .ok (.aload_n 0, 1) := by decide +kernel
theorem dX6_isNumber_71 : decode cX6_isNumber 71 = .ok (.getfield 177, 3) := by decide +kernel
theorem dX6_isNumber_74 : decode cX6_isNumber 74 = .ok (.iaload, 1) := by decide +kernel
theorem dX6_isNumber_75 : decode cX6_isNumber 75 = .ok (.iadd, 1) := by decide +kernel
theorem dX6_isNumber_76 : decode cX6_isNumber 76 = .ok (.bipush 48, 2) := by decide +kernel
theorem dX6_isNumber_78 : decode cX6_isNumber 78 = .ok (.isub, 1) := by decide +kernel
theorem dX6_isNumber_79 : decode cX6_isNumber 79 = .ok (.iload_n 2, 1) := by decide +kernel
theorem dX6_isNumber_80 : decode cX6_isNumber 80 = .ok (.if_icmp .gt 37, 3) := by decide +kernel
theorem dX6_isNumber_83 : decode cX6_isNumber 83 = .ok (.aload_n 0, 1) := by decide +kernel
theorem dX6_isNumber_84 : decode cX6_isNumber 84 = .ok (.bipush 10, 2) := by decide +kernel
theorem dX6_isNumber_86 : decode cX6_isNumber 86 = .ok (.aload_n 0, 1) := by decide +kernel
theorem dX6_isNumber_87 : decode cX6_isNumber 87 = .ok (.getfield 183, 3) := by decide +kernel
theorem dX6_isNumber_90 : decode cX6_isNumber 90 = .ok (.imul, 1) := by decide +kernel
theorem dX6_isNumber_91 : decode cX6_isNumber 91 = .ok (.aload_n 0, 1) := by decide +kernel
theorem dX6_isNumber_92 : decode cX6_isNumber 92 = .ok (.getfield 25, 3) := by decide +kernel
theorem dX6_isNumber_95 : decode cX6_isNumber 95 = .ok (.aload_n 0, 1) := by decide +kernel
theorem dX6_isNumber_96 : decode cX6_isNumber 96 = .ok (.getfield 177, 3) := by decide +kernel
theorem dX6_isNumber_99 : decode cX6_isNumber 99 = .ok (.iaload, 1) := by decide +kernel
theorem dX6_isNumber_100 : decode cX6_isNumber 100 = .ok (.iadd, 1) := by decide +kernel
theorem dX6_isNumber_101 : decode cX6_isNumber 101 = .ok (.bipush 48, 2) := by decide +kernel
theorem dX6_isNumber_103 : decode cX6_isNumber 103 = .ok (.isub, 1) := by decide +kernel
theorem dX6_isNumber_104 : decode cX6_isNumber 104 = .ok (.putfield 183, 3) := by decide +kernel
theorem dX6_isNumber_107 : decode cX6_isNumber 107 = .ok (.aload_n 0, 1) := by decide +kernel
theorem dX6_isNumber_108 : decode cX6_isNumber 108 = .ok (.dup, 1) := by decide +kernel
theorem dX6_isNumber_109 : decode cX6_isNumber 109 = .ok (.getfield 177, 3) := by decide +kernel
theorem dX6_isNumber_112 : decode cX6_isNumber 112 = .ok (.iconst 1, 1) := by decide +kernel
theorem dX6_isNumber_113 : decode cX6_isNumber 113 = .ok (.iadd, 1) := by decide +kernel
theorem dX6_isNumber_114 : decode cX6_isNumber 114 = .ok (.putfield 177, 3) := by decide +kernel
theorem dX6_isNumber_117 : decode cX6_isNumber 117 = .ok (.iconst 1, 1) := by decide +kernel
theorem dX6_isNumber_118 : decode cX6_isNumber 118 = .ok (.ireturn, 1) := by decide +kernel
theorem dX6_isOrder_0 : decode cX6_isOrder 0 = .ok (.aload_n 0, 1) := by decide +kernel
theorem dX6_isOrder_1 : decode cX6_isOrder 1 = .ok (.getfield 177, 3) := by decide +kernel
theorem dX6_isOrder_4 : decode cX6_isOrder 4 = .ok (.aload_n 0, 1) := by decide +kernel
theorem dX6_isOrder_5 : decode cX6_isOrder 5 = .ok (.getfield 174, 3) := by decide +kernel
theorem dX6_isOrder_8 : decode cX6_isOrder 8 = .ok (.if_icmp .ge 15, 3) := by decide +kernel
theorem dX6_isOrder_11 : decode cX6_isOrder 11 = .ok (.aload_n 0, 1) := by decide +kernel
theorem dX6_isOrder_12 : decode cX6_isOrder 12 = .ok (.getfield 25, 3) := by decide +kernel
theorem dX6_isOrder_15 : decode cX6_isOrder 15 = .ok (.aload_n 0, 1) := by decide +kernel
theorem dX6_isOrder_16 : decode cX6_isOrder 16 = .ok (.getfield 177, 3) := by decide +kernel
theorem dX6_isOrder_19 : decode cX6_isOrder 19 = .ok (.iaload, 1) := by decide +kernel
theorem dX6_isOrder_20 : decode cX6_isOrder 20 = .ok (.goto 4, 3) := by decide +kernel
theorem dX6_isOrder_23 : decode cX6_isOrder 23 = .ok (.iconst 0, 1) := by decide +kernel
theorem dX6_isOrder_24 : decode cX6_isOrder 24 = .ok (.istore_n 1, 1) := by decide +kernel
theorem dX6_isOrder_25 : decode cX6_isOrder 25 = .ok (.iload_n 1, 1) := by decide +kernel
theorem dX6_isOrder_26 : decode cX6_isOrder 26 = .ok (.bipush 114, 2) := by decide +kernel
theorem dX6_isOrder_28 : decode cX6_isOrder 28 = .ok (.if_icmp .eq 17, 3) := by decide +kernel
theorem dX6_isOrder_31 : decode cX6_isOrder 31 = .ok (.iload_n 1, 1) := by decide +kernel
theorem dX6_isOrder_32 : decode cX6_isOrder 32 = .ok (.bipush 119, 2) := by decide +kernel
theorem dX6_isOrder_34 : decode cX6_isOrder 34 = .ok (.if_icmp .eq 11, 3) := by decide +kernel
theorem dX6_isOrder_37 : decode cX6_isOrder 37 = .ok (.iload_n 1, 1) := by decide +kernel
theorem dX6_isOrder_38 : decode cX6_isOrder 38 = .ok (.bipush 116, 2) := by decide +kernel
theorem dX6_isOrder_40 : decode cX6_isOrder 40 = .ok (.if_icmp .eq 5, 3) := by decide +kernel
theorem dX6_isOrder_43 : decode cX6_isOrder 43 = .ok (.iconst 0, 1) := by decide +kernel
theorem dX6_isOrder_44 : decode cX6_isOrder 44 = .ok (.ireturn, 1) := by decide +kernel
theorem dX6_isOrder_45 : decode cX6_isOrder 45 = .ok (.aload_n 0, 1) := by decide +kernel
theorem dX6_isOrder_46 : decode cX6_isOrder 46 = .ok (.dup, 1) := by decide +kernel
theorem dX6_isOrder_47 : decode cX6_isOrder 47 = .ok (.getfield 177, 3) := by decide +kernel
theorem dX6_isOrder_50 : decode cX6_isOrder 50 = .ok (.iconst 1, 1) := by decide +kernel
theorem dX6_isOrder_51 : decode cX6_isOrder 51 = .ok (.iadd, 1) := by decide +kernel
theorem dX6_isOrder_52 : decode cX6_isOrder 52 = .ok (.putfield 177, 3) := by decide +kernel
theorem dX6_isOrder_55 : decode cX6_isOrder 55 = .ok (.iload_n 1, 1) := by decide +kernel
theorem dX6_isOrder_56 : decode cX6_isOrder 56 = .ok (.bipush 116, 2) := by decide +kernel
theorem dX6_isOrder_58 : decode cX6_isOrder 58 = .ok (.if_icmp .ne 7, 3) := by decide +kernel
theorem dX6_isOrder_61 : decode cX6_isOrder 61 = .ok (.iconst 1, 1) := by decide +kernel
theorem dX6_isOrder_62 : decode cX6_isOrder 62 = .ok (.goto 4, 3) := by decide +kernel
theorem dX6_isOrder_65 : decode cX6_isOrder 65 = .ok (.iconst 0, 1) := by decide +kernel
theorem dX6_isOrder_66 : decode cX6_isOrder 66 = .ok (.istore_n 2, 1) := by decide +kernel
theorem dX6_isOrder_67 : decode cX6_isOrder 67 = .ok (.aload_n 0, 1) := by decide +kernel
theorem dX6_isOrder_68 : decode cX6_isOrder 68 = .ok (.iload_n 2, 1) := by decide +kernel
theorem dX6_isOrder_69 : decode cX6_isOrder 69 = .ok (.ifCond .eq 7, 3) := by decide +kernel
theorem dX6_isOrder_72 : decode cX6_isOrder 72 = .ok (.iconst 1, 1) := by decide +kernel
theorem dX6_isOrder_73 : decode cX6_isOrder 73 = .ok (.goto 4, 3) := by decide +kernel
theorem dX6_isOrder_76 : decode cX6_isOrder 76 = .ok (.iconst 0, 1) := by decide +kernel
theorem dX6_isOrder_77 : decode cX6_isOrder 77 = .ok (.iload_n 2, 1) := by decide +kernel
theorem dX6_isOrder_78 : decode cX6_isOrder 78 = .ok (.ifCond .eq 8, 3) := by decide +kernel
theorem dX6_isOrder_81 : decode cX6_isOrder 81 = .ok (.bipush 99, 2) := by decide +kernel
theorem dX6_isOrder_83 : decode cX6_isOrder 83 = .ok (.goto 5, 3) := by decide +kernel
theorem dX6_isOrder_86 : decode cX6_isOrder 86 = .ok (.bipush 23, 2) := by decide +kernel
theorem dX6_isOrder_88 : decode cX6_isOrder 88 = .ok (.invokevirtual 186, 3) := by decide +kernel
theorem dX6_isOrder_91 : decode cX6_isOrder 91 = .ok (.ifCond .ne 5, 3) := by decide +kernel
theorem dX6_isOrder_94 : decode cX6_isOrder 94 = .ok (.iconst 0, 1) := by decide +kernel
theorem dX6_isOrder_95 : decode cX6_isOrder 95 = .ok (.ireturn, 1) := by decide +kernel
theorem dX6_isOrder_96 : decode cX6_isOrder 96 = .ok (.aload_n 0, 1) := by decide +kernel
theorem dX6_isOrder_97 : decode cX6_isOrder 97 = .ok (.getfield 28, 3) := by decide +kernel
theorem dX6_isOrder_100 : decode cX6_isOrder 100 = .ok (.iconst 3, 1) := by decide +kernel
theorem dX6_isOrder_101 : decode cX6_isOrder 101 = .ok (.aload_n 0, 1) := by decide +kernel
theorem dX6_isOrder_102 : decode cX6_isOrder 102 = .ok (.getfield 189, 3) := by decide +kernel
theorem dX6_isOrder_105 : decode cX6_isOrder 105 = .ok (.imul, 1) := by decide +kernel
theorem dX6_isOrder_106 : decode cX6_isOrder 106 = .ok (.iload_n 1, 1) := by decide +kernel
theorem dX6_isOrder_107 : decode cX6_isOrder 107 = .ok (.iastore, 1) := by decide +kernel
theorem dX6_isOrder_108 : decode cX6_isOrder 108 = .ok (.aload_n 0, 1) := by decide +kernel
theorem dX6_isOrder_109 : decode cX6_isOrder 109 = .ok (.getfield 28, 3) := by decide +kernel
theorem dX6_isOrder_112 : decode cX6_isOrder 112 = .ok (.iconst 3, 1) := by decide +kernel
theorem dX6_isOrder_113 : decode cX6_isOrder 113 = .ok (.aload_n 0, 1) := by decide +kernel
theorem dX6_isOrder_114 : decode cX6_isOrder 114 = .ok (.getfield 189, 3) := by decide +kernel
theorem dX6_isOrder_117 : decode cX6_isOrder 117 = .ok (.imul, 1) := by decide +kernel
theorem dX6_isOrder_118 : decode cX6_isOrder 118 = .ok (.iconst 1, 1) := by decide +kernel
theorem dX6_isOrder_119 : decode cX6_isOrder 119 = .ok (.iadd, 1) := by decide +kernel
theorem dX6_isOrder_120 : decode cX6_isOrder 120 = .ok (.aload_n 0, 1) := by decide +kernel
theorem dX6_isOrder_121 : decode cX6_isOrder 121 = .ok (.getfield 183, 3) := by decide +kernel
theorem dX6_isOrder_124 : decode cX6_isOrder 124 = .ok (.iastore, 1) := by decide +kernel
theorem dX6_isOrder_125 : decode cX6_isOrder 125 = .ok (.aload_n 0, 1) := by decide +kernel
theorem dX6_isOrder_126 : decode cX6_isOrder 126 = .ok (.getfield 28, 3) := by decide +kernel
theorem dX6_isOrder_129 : decode cX6_isOrder 129 = .ok (.iconst 3, 1) := by decide +kernel
theorem dX6_isOrder_130 : decode cX6_isOrder 130 = .ok (.aload_n 0, 1) := by decide +kernel
theorem dX6_isOrder_131 : decode cX6_isOrder 131 = .ok (.getfield 189, 3) := by decide +kernel
theorem dX6_isOrder_134 : decode cX6_isOrder 134 = .ok (.imul, 1) := by decide +kernel
theorem dX6_isOrder_135 : decode cX6_isOrder 135 = .ok (.iconst 2, 1) := by decide +kernel
theorem dX6_isOrder_136 : decode cX6_isOrder 136 = .ok (.iadd, 1) := by decide +kernel
theorem dX6_isOrder_137 : decode cX6_isOrder 137 = .ok (.iconst 1, 1) := by decide +kernel
theorem dX6_isOrder_138 : decode cX6_isOrder 138 = .ok (.iastore, 1) := by decide +kernel
theorem dX6_isOrder_139 : decode cX6_isOrder 139 = .ok (.iload_n 1, 1) := by decide +kernel
theorem dX6_isOrder_140 : decode cX6_isOrder 140 = .ok (.bipush 114, 2) := by decide +kernel
theorem dX6_isOrder_142 : decode cX6_isOrder 142 = .ok (.if_icmp .ne 41, 3) := by decide +kernel
theorem dX6_isOrder_145 : decode cX6_isOrder 145 = .ok (.aload_n 0, 1) := by decide +kernel
theorem dX6_isOrder_146 : decode cX6_isOrder 146 = .ok (.bipush 42, 2) := by decide +kernel
theorem dX6_isOrder_148 : decode cX6_isOrder 148 = .ok (.invokevirtual 192, 3) := by decide +kernel
theorem dX6_isOrder_151 : decode cX6_isOrder 151 = .ok (.ifCond .eq 32, 3) := by decide +kernel
theorem dX6_isOrder_154 : decode cX6_isOrder 154 = .ok (.aload_n 0, 1) := by decide +kernel
theorem dX6_isOrder_155 : decode cX6_isOrder 155 = .ok (.iconst 1, 1) := by decide +kernel
theorem dX6_isOrder_156 : decode cX6_isOrder 156 = .ok (.bipush 99, 2) := by decide +kernel
theorem dX6_isOrder_158 : decode cX6_isOrder 158 = .ok (.invokevirtual 186, 3) := by decide +kernel
theorem dX6_isOrder_161 : decode cX6_isOrder 161 = .ok (.ifCond .ne 5, 3) := by decide +kernel
theorem dX6_isOrder_164 : decode cX6_isOrder 164 = .ok (.iconst 0, 1) := by decide +kernel
theorem dX6_isOrder_165 : decode cX6_isOrder 165 = .ok (.ireturn, 1) := by decide +kernel
theorem dX6_isOrder_166 : decode cX6_isOrder 166 = .ok (.aload_n 0, 1) := by decide +kernel
theorem dX6_isOrder_167 : decode cX6_isOrder 167 = .ok (.getfield 28, 3) := by decide +kernel
theorem dX6_isOrder_170 : decode cX6_isOrder 170 = .ok (.iconst 3, 1) := by decide +kernel
theorem dX6_isOrder_171 : decode cX6_isOrder 171 = .ok (.aload_n 0, 1) := by decide +kernel
theorem dX6_isOrder_172 : decode cX6_isOrder 172 = .ok (.getfield 189, 3) := by decide +kernel
theorem dX6_isOrder_175 : decode cX6_isOrder 175 = .ok (.imul, 1) := by decide +kernel
theorem dX6_isOrder_176 : decode cX6_isOrder 176 = .ok (.iconst 2, 1) := by decide +kernel
theorem dX6_isOrder_177 : decode cX6_isOrder 177 = .ok (.iadd, 1) := by decide +kernel
theorem dX6_isOrder_178 : decode cX6_isOrder 178 = .ok (.aload_n 0, 1) := by decide +kernel
theorem dX6_isOrder_179 : decode cX6_isOrder 179 = .ok (.getfield 183, 3) := by decide +kernel
theorem dX6_isOrder_182 : decode cX6_isOrder 182 = .ok (.iastore, 1) := by decide +kernel
theorem dX6_isOrder_183 : decode cX6_isOrder 183 = .ok (.iconst 1, 1) := by decide +kernel
theorem dX6_isOrder_184 : decode cX6_isOrder 184 = .ok (.ireturn, 1) := by decide +kernel
theorem dX6_isText_0 : decode cX6_isText 0 = .ok (.aload_n 0, 1) := by decide +kernel
theorem dX6_isText_1 : decode cX6_isText 1 = .ok (.iconst 0, 1) := by decide +kernel
theorem dX6_isText_2 : decode cX6_isText 2 = .ok (.putfield 177, 3) := by decide +kernel
theorem dX6_isText_5 : decode cX6_isText 5 = .ok (.aload_n 0, 1) := by decide +kernel
theorem dX6_isText_6 : decode cX6_isText 6 = .ok (.iconst 0, 1) := by decide +kernel
theorem dX6_isText_7 : decode cX6_isText 7 = .ok (.putfield 189, 3) := by decide +kernel
theorem dX6_isText_10 : decode cX6_isText 10 = .ok (.iconst 1, 1) := by decide +kernel
theorem dX6_isText_11 : decode cX6_isText 11 = .ok (.istore_n 1, 1) := by decide +kernel
theorem dX6_isText_12 : decode cX6_isText 12 = .ok (.iload_n 1, 1) := by decide +kernel
theorem dX6_isText_13 : decode cX6_isText 13 = .ok (.ifCond .eq 32, 3) := by decide +kernel
theorem dX6_isText_16 : decode cX6_isText 16 = .ok (.aload_n 0, 1) := by decide +kernel
theorem dX6_isText_17 : decode cX6_isText 17 = .ok (.invokevirtual 195, 3) := by decide +kernel
theorem dX6_isText_20 : decode cX6_isText 20 = .ok (.ifCond .ne 5, 3) := by decide +kernel
theorem dX6_isText_23 : decode cX6_isText 23 = .ok (.iconst 0, 1) := by decide +kernel
theorem dX6_isText_24 : decode cX6_isText 24 = .ok (.ireturn, 1) := by decide +kernel
theorem dX6_isText_25 : decode cX6_isText 25 = .ok (.aload_n 0, 1) := by decide +kernel
theorem dX6_isText_26 : decode cX6_isText 26 = .ok (.dup, 1) := by decide +kernel
theorem dX6_isText_27 : decode cX6_isText 27 = .ok (.getfield 189, 3) := by decide +kernel
theorem dX6_isText_30 : decode cX6_isText 30 = .ok (.iconst 1, 1) := by decide +kernel
theorem dX6_isText_31 : decode cX6_isText 31 = .ok (.iadd, 1) := by decide +kernel
theorem dX6_isText_32 : decode cX6_isText 32 = .ok (.putfield 189, 3) := by decide +kernel
theorem dX6_isText_35 : decode cX6_isText 35 = .ok (.aload_n 0, 1) := by decide +kernel
theorem dX6_isText_36 : decode cX6_isText 36 = .ok (.bipush 44, 2) := by decide +kernel
theorem dX6_isText_38 : decode cX6_isText 38 = .ok (.invokevirtual 192, 3) := by decide +kernel
theorem dX6_isText_41 : decode cX6_isText 41 = .ok (.istore_n 1, 1) := by decide +kernel
theorem dX6_isText_42 : decode cX6_isText 42 = .ok (.goto (-30), 3) := by decide +kernel
theorem dX6_isText_45 : decode cX6_isText 45 = .ok (.aload_n 0, 1) := by decide +kernel
theorem dX6_isText_46 : decode cX6_isText 46 = .ok (.getfield 177, 3) := by decide +kernel
theorem dX6_isText_49 : decode cX6_isText 49 = .ok (.aload_n 0, 1) := by decide +kernel
theorem dX6_isText_50 : decode cX6_isText 50 = .ok (.getfield 174, 3) := by decide +kernel
theorem dX6_isText_53 : decode cX6_isText 53 = .ok (.if_icmp .ne 7, 3) := by decide +kernel
theorem dX6_isText_56 : decode cX6_isText 56 = .ok (.iconst 1, 1) := by decide +kernel
theorem dX6_isText_57 : decode cX6_isText 57 = .ok (.goto 4, 3) := by decide +kernel
theorem dX6_isText_60 : decode cX6_isText 60 = .ok (.iconst 0, 1) := by decide +kernel
theorem dX6_isText_61 : decode cX6_isText 61 = .ok (.ireturn, 1) := by decide +kernel
theorem dX6_doesOnce_0 : decode cX6_doesOnce 0 = .ok (.aload_n 0, 1) := by decide +kernel
theorem dX6_doesOnce_1 : decode cX6_doesOnce 1 = .ok (.getfield 28, 3) := by decide +kernel
theorem dX6_doesOnce_4 : decode cX6_doesOnce 4 = .ok (.iconst 3, 1) := by decide +kernel
theorem dX6_doesOnce_5 : decode cX6_doesOnce 5 = .ok (.iload_n 1, 1) := by decide +kernel
theorem dX6_doesOnce_6 : decode cX6_doesOnce 6 = .ok (.imul, 1) := by decide +kernel
theorem dX6_doesOnce_7 : decode cX6_doesOnce 7 = .ok (.iconst 1, 1) := by decide +kernel
theorem dX6_doesOnce_8 : decode cX6_doesOnce 8 = .ok (.iadd, 1) := by decide +kernel
theorem dX6_doesOnce_9 : decode cX6_doesOnce 9 = .ok (.iaload, 1) := by decide +kernel
theorem dX6_doesOnce_10 : decode cX6_doesOnce 10 = .ok (.istore_n 2, 1) := by decide +kernel
theorem dX6_doesOnce_11 : decode cX6_doesOnce 11 = .ok (.aload_n 0, 1) := by decide +kernel
theorem dX6_doesOnce_12 : decode cX6_doesOnce 12 = .ok (.getfield 28, 3) := by decide +kernel
theorem dX6_doesOnce_15 : decode cX6_doesOnce 15 = .ok (.iconst 3, 1) := by decide +kernel
theorem dX6_doesOnce_16 : decode cX6_doesOnce 16 = .ok (.iload_n 1, 1) := by decide +kernel
theorem dX6_doesOnce_17 : decode cX6_doesOnce 17 = .ok (.imul, 1) := by decide +kernel
theorem dX6_doesOnce_18 : decode cX6_doesOnce 18 = .ok (.iaload, 1) := by decide +kernel
theorem dX6_doesOnce_19 : decode cX6_doesOnce 19 = .ok (.bipush 114, 2) := by decide +kernel
theorem dX6_doesOnce_21 : decode cX6_doesOnce 21 = .ok (.if_icmp .ne 15, 3) := by decide +kernel
theorem dX6_doesOnce_24 : decode cX6_doesOnce 24 = .ok (.aload_n 0, 1) := by decide +kernel
theorem dX6_doesOnce_25 : decode cX6_doesOnce 25 = .ok (.aload_n 0, 1) := by decide +kernel
theorem dX6_doesOnce_26 : decode cX6_doesOnce 26 = .ok (.getfield 13, 3) := by decide +kernel
theorem dX6_doesOnce_29 : decode cX6_doesOnce 29 = .ok (.iload_n 2, 1) := by decide +kernel
theorem dX6_doesOnce_30 : decode cX6_doesOnce 30 = .ok (.invokevirtual 165, 3) := by decide +kernel
theorem dX6_doesOnce_33 : decode cX6_doesOnce 33 = .ok (.goto 35, 3) := by decide +kernel
theorem dX6_doesOnce_36 : decode cX6_doesOnce 36 = .ok (.aload_n 0, 1) := by decide +kernel
theorem dX6_doesOnce_37 : decode cX6_doesOnce 37 = .ok (.getfield 28, 3) := by decide +kernel
theorem dX6_doesOnce_40 : decode cX6_doesOnce 40 = .ok (.iconst 3, 1) := by decide +kernel
theorem dX6_doesOnce_41 : decode cX6_doesOnce 41 = .ok (.iload_n 1, 1) := by decide +kernel
theorem dX6_doesOnce_42 : decode cX6_doesOnce 42 = .ok (.imul, 1) := by decide +kernel
theorem dX6_doesOnce_43 : decode cX6_doesOnce 43 = .ok (.iaload, 1) := by decide +kernel
theorem dX6_doesOnce_44 : decode cX6_doesOnce 44 = .ok (.bipush 119, 2) := by decide +kernel
theorem dX6_doesOnce_46 : decode cX6_doesOnce 46 = .ok (.if_icmp .ne 14, 3) := by decide +kernel
theorem dX6_doesOnce_49 : decode cX6_doesOnce 49 = .ok (.aload_n 0, 1) := by decide +kernel
theorem dX6_doesOnce_50 : decode cX6_doesOnce 50 = .ok (.getfield 13, 3) := by decide +kernel
theorem dX6_doesOnce_53 : decode cX6_doesOnce 53 = .ok (.iload_n 2, 1) := by decide +kernel
theorem dX6_doesOnce_54 : decode cX6_doesOnce 54 = .ok (.invokestatic 158, 3) := by decide +kernel
theorem dX6_doesOnce_57 : decode cX6_doesOnce 57 = .ok (.goto 11, 3) := by decide +kernel
theorem dX6_doesOnce_60 : decode cX6_doesOnce 60 = .ok (.aload_n 0, 1) := by decide +kernel
theorem dX6_doesOnce_61 : decode cX6_doesOnce 61 = .ok (.getfield 13, 3) := by decide +kernel
theorem dX6_doesOnce_64 : decode cX6_doesOnce 64 = .ok (.iload_n 2, 1) := by decide +kernel
theorem dX6_doesOnce_65 : decode cX6_doesOnce 65 = .ok (.invokestatic 171, 3) := by decide +kernel
theorem dX6_doesOnce_68 : decode cX6_doesOnce 68 = .ok (.ireturn, 1) := by decide +kernel
theorem dX6_perform_0 : decode cX6_perform 0 = .ok (.aload_n 0, 1) := by decide +kernel
theorem dX6_perform_1 : decode cX6_perform 1 = .ok (.invokevirtual 199, 3) := by decide +kernel
theorem dX6_perform_4 : decode cX6_perform 4 = .ok (.ifCond .ne 11, 3) := by decide +kernel
theorem dX6_perform_7 : decode cX6_perform 7 = .ok (.bipush (-100), 2) := by decide +kernel
theorem dX6_perform_9 : decode cX6_perform 9 = .ok (.aload_n 0, 1) := by decide +kernel
theorem dX6_perform_10 : decode cX6_perform 10 = .ok (.getfield 177, 3) := by decide +kernel
theorem dX6_perform_13 : decode cX6_perform 13 = .ok (.isub, 1) := by decide +kernel
theorem dX6_perform_14 : decode cX6_perform 14 = .ok (.ireturn, 1) := by decide +kernel
theorem dX6_perform_15 : decode cX6_perform 15 = .ok (.aload_n 0, 1) := by decide +kernel
theorem dX6_perform_16 : decode cX6_perform 16 = .ok (.invokevirtual 155, 3) := by decide +kernel
theorem dX6_perform_19 : decode cX6_perform 19 = .ok (.iconst 0, 1) := by decide +kernel
theorem dX6_perform_20 : decode cX6_perform 20 = .ok (.istore_n 1, 1) := by decide +kernel
theorem dX6_perform_21 : decode cX6_perform 21 = .ok (.iload_n 1, 1) := by decide +kernel
theorem dX6_perform_22 : decode cX6_perform 22 = .ok (.aload_n 0, 1) := by decide +kernel
theorem dX6_perform_23 : decode cX6_perform 23 = .ok (.getfield 189, 3) := by decide +kernel
theorem dX6_perform_26 : decode cX6_perform 26 = .ok (.if_icmp .ge 70, 3) := by decide +kernel
theorem dX6_perform_29 : decode cX6_perform 29 = .ok (.iconst 0, 1) := by decide +kernel
theorem dX6_perform_30 : decode cX6_perform 30 = .ok (.istore_n 2, 1) := by decide +kernel
theorem dX6_perform_31 : decode cX6_perform 31 = .ok (.iload_n 2, 1) := by decide +kernel
theorem dX6_perform_32 : decode cX6_perform 32 = .ok (.aload_n 0, 1) := by decide +kernel
theorem dX6_perform_33 : decode cX6_perform 33 = .ok (.getfield 28, 3) := by decide +kernel
theorem dX6_perform_36 : decode cX6_perform 36 = .ok (.iconst 3, 1) := by decide +kernel
theorem dX6_perform_37 : decode cX6_perform 37 = .ok (.iload_n 1, 1) := by decide +kernel
theorem dX6_perform_38 : decode cX6_perform 38 = .ok (.imul, 1) := by decide +kernel
theorem dX6_perform_39 : decode cX6_perform 39 = .ok (.iconst 2, 1) := by decide +kernel
theorem dX6_perform_40 : decode cX6_perform 40 = .ok (.iadd, 1) := by decide +kernel
theorem dX6_perform_41 : decode cX6_perform 41 = .ok (.iaload, 1) := by decide +kernel
theorem dX6_perform_42 : decode cX6_perform 42 = .ok (.if_icmp .ge 48, 3) := by decide +kernel
theorem dX6_perform_45 : decode cX6_perform 45 = .ok (.aload_n 0, 1) := by decide +kernel
theorem dX6_perform_46 : decode cX6_perform 46 = .ok (.iload_n 1, 1) := by decide +kernel
theorem dX6_perform_47 : decode cX6_perform 47 = .ok (.invokevirtual 202, 3) := by decide +kernel
theorem dX6_perform_50 : decode cX6_perform 50 = .ok (.istore_n 3, 1) := by decide +kernel
theorem dX6_perform_51 : decode cX6_perform 51 = .ok (.iload_n 3, 1) := by decide +kernel
theorem dX6_perform_52 : decode cX6_perform 52 = .ok (.ifCond .ge 32, 3) := by decide +kernel
theorem dX6_perform_55 : decode cX6_perform 55 = .ok (.aload_n 0, 1) := by decide +kernel
theorem dX6_perform_56 : decode cX6_perform 56 = .ok (.getfield 31, 3) := by decide +kernel
theorem dX6_perform_59 : decode cX6_perform 59 = .ok (.iconst 0, 1) := by decide +kernel
theorem dX6_perform_60 : decode cX6_perform 60 = .ok (.iload_n 1, 1) := by decide +kernel
theorem dX6_perform_61 : decode cX6_perform 61 = .ok (.iastore, 1) := by decide +kernel
theorem dX6_perform_62 : decode cX6_perform 62 = .ok (.aload_n 0, 1) := by decide +kernel
theorem dX6_perform_63 : decode cX6_perform 63 = .ok (.getfield 31, 3) := by decide +kernel
theorem dX6_perform_66 : decode cX6_perform 66 = .ok (.iconst 1, 1) := by decide +kernel
theorem dX6_perform_67 : decode cX6_perform 67 = .ok (.iload_n 3, 1) := by decide +kernel
theorem dX6_perform_68 : decode cX6_perform 68 = .ok (.iastore, 1) := by decide +kernel
theorem dX6_perform_69 : decode cX6_perform 69 = .ok (.aload_n 0, 1) := by decide +kernel
theorem dX6_perform_70 : decode cX6_perform 70 = .ok (.getfield 31, 3) := by decide +kernel
theorem dX6_perform_73 : decode cX6_perform 73 = .ok (.iconst 2, 1) := by decide +kernel
theorem dX6_perform_74 : decode cX6_perform 74 = .ok (.iload_n 2, 1) := by decide +kernel
theorem dX6_perform_75 : decode cX6_perform 75 = .ok (.iastore, 1) := by decide +kernel
theorem dX6_perform_76 : decode cX6_perform 76 = .ok (.aload_n 0, 1) := by decide +kernel
theorem dX6_perform_77 : decode cX6_perform 77 = .ok (.iconst 1, 1) := by decide +kernel
theorem dX6_perform_78 : decode cX6_perform 78 = .ok (.putfield 205, 3) := by decide +kernel
theorem dX6_perform_81 : decode cX6_perform 81 = .ok (.bipush (-4), 2) := by decide +kernel
theorem dX6_perform_83 : decode cX6_perform 83 = .ok (.ireturn, 1) := by decide +kernel
theorem dX6_perform_84 : decode cX6_perform 84 = .ok (.iinc 2 1, 3) := by decide +kernel
theorem dX6_perform_87 : decode cX6_perform 87 = .ok (.goto (-56), 3) := by decide +kernel
theorem dX6_perform_90 : decode cX6_perform 90 = .ok (.iinc 1 1, 3) := by decide +kernel
theorem dX6_perform_93 : decode cX6_perform 93 = .ok (.goto (-72), 3) := by decide +kernel
theorem dX6_perform_96 : decode cX6_perform 96 = .ok (.aload_n 0, 1) := by decide +kernel
theorem dX6_perform_97 : decode cX6_perform 97 = .ok (.aload_n 0, 1) := by decide +kernel
theorem dX6_perform_98 : decode cX6_perform 98 = .ok (.getfield 189, 3) := by decide +kernel
theorem dX6_perform_101 : decode cX6_perform 101 = .ok (.invokevirtual 161, 3) := by decide +kernel
theorem dX6_perform_104 : decode cX6_perform 104 = .ok (.ireturn, 1) := by decide +kernel
theorem dX6_refusal_0 : decode cX6_refusal 0 = .ok (.iload_n 1, 1) := by decide +kernel
theorem dX6_refusal_1 : decode cX6_refusal 1 = .ok (.iconst 0, 1) := by decide +kernel
theorem dX6_refusal_2 : decode cX6_refusal 2 = .ok (.iconst 2, 1) := by decide +kernel
theorem dX6_refusal_3 : decode cX6_refusal 3 = .ok (.invokestatic 34, 3) := by decide +kernel
theorem dX6_refusal_6 : decode cX6_refusal 6 = .ok (.ifCond .ne 6, 3) := by decide +kernel
theorem dX6_refusal_9 : decode cX6_refusal 9 = .ok (.bipush (-2), 2) := by decide +kernel
theorem dX6_refusal_11 : decode cX6_refusal 11 = .ok (.ireturn, 1) := by decide +kernel
theorem dX6_refusal_12 : decode cX6_refusal 12 = .ok (.aload_n 0, 1) := by decide +kernel
theorem dX6_refusal_13 : decode cX6_refusal 13 = .ok (.getfield 205, 3) := by decide +kernel
theorem dX6_refusal_16 : decode cX6_refusal 16 = .ok (.ifCond .eq 12, 3) := by decide +kernel
theorem dX6_refusal_19 : decode cX6_refusal 19 = .ok (.aload_n 0, 1) := by decide +kernel
theorem dX6_refusal_20 : decode cX6_refusal 20 = .ok (.getfield 31, 3) := by decide +kernel
theorem dX6_refusal_23 : decode cX6_refusal 23 = .ok (.iload_n 1, 1) := by decide +kernel
theorem dX6_refusal_24 : decode cX6_refusal 24 = .ok (.iaload, 1) := by decide +kernel
theorem dX6_refusal_25 : decode cX6_refusal 25 = .ok (.goto 5, 3) := by decide +kernel
theorem dX6_refusal_28 : decode cX6_refusal 28 = .ok (.bipush (-5), 2) := by decide +kernel
theorem dX6_refusal_30 : decode cX6_refusal 30 = .ok (.ireturn, 1) := by decide +kernel
theorem dX6_page_0 : decode cX6_page 0 = .ok (.iload_n 1, 1) := by decide +kernel
theorem dX6_page_1 : decode cX6_page 1 = .ok (.invokestatic 129, 3) := by decide +kernel
theorem dX6_page_4 : decode cX6_page 4 = .ok (.ifCond .ne 5, 3) := by decide +kernel
theorem dX6_page_7 : decode cX6_page 7 = .ok (.iconst (-1), 1) := by decide +kernel
theorem dX6_page_8 : decode cX6_page 8 = .ok (.ireturn, 1) := by decide +kernel
theorem dX6_page_9 : decode cX6_page 9 = .ok (.iload_n 2, 1) := by decide +kernel
theorem dX6_page_10 : decode cX6_page 10 = .ok (.iconst 0, 1) := by decide +kernel
theorem dX6_page_11 : decode cX6_page 11 = .ok (.iconst 5, 1) := by decide +kernel
theorem dX6_page_12 : decode cX6_page 12 = .ok (.invokestatic 34, 3) := by decide +kernel
theorem dX6_page_15 : decode cX6_page 15 = .ok (.ifCond .ne 6, 3) := by decide +kernel
theorem dX6_page_18 : decode cX6_page 18 = .ok (.bipush (-2), 2) := by decide +kernel
theorem dX6_page_20 : decode cX6_page 20 = .ok (.ireturn, 1) := by decide +kernel
theorem dX6_page_21 : decode cX6_page 21 = .ok (.iload_n 2, 1) := by decide +kernel
theorem dX6_page_22 : decode cX6_page 22 = .ok (.iconst 3, 1) := by decide +kernel
theorem dX6_page_23 : decode cX6_page 23 = .ok (.if_icmp .le 30, 3) := by decide +kernel
theorem dX6_page_26 : decode cX6_page 26 = .ok (.iload_n 2, 1) := by decide +kernel
theorem dX6_page_27 : decode cX6_page 27 = .ok (.iconst 4, 1) := by decide +kernel
theorem dX6_page_28 : decode cX6_page 28 = .ok (.if_icmp .ne 14, 3) := by decide +kernel
theorem dX6_page_31 : decode cX6_page 31 = .ok (.aload_n 0, 1) := by decide +kernel
theorem dX6_page_32 : decode cX6_page 32 = .ok (.getfield 7, 3) := by decide +kernel
theorem dX6_page_35 : decode cX6_page 35 = .ok (.iload_n 1, 1) := by decide +kernel
theorem dX6_page_36 : decode cX6_page 36 = .ok (.invokestatic 87, 3) := by decide +kernel
theorem dX6_page_39 : decode cX6_page 39 = .ok (.goto 13, 3) := by decide +kernel
theorem dX6_page_42 : decode cX6_page 42 = .ok (.aload_n 0, 1) := by decide +kernel
theorem dX6_page_43 : decode cX6_page 43 = .ok (.getfield 7, 3) := by decide +kernel
theorem dX6_page_46 : decode cX6_page 46 = .ok (.sipush 209, 3) := by decide +kernel
theorem dX6_page_49 : decode cX6_page 49 = .ok (.iload_n 1, 1) := by decide +kernel
theorem dX6_page_50 : decode cX6_page 50 = .ok (.iadd, 1) := by decide +kernel
theorem dX6_page_51 : decode cX6_page 51 = .ok (.iaload, 1) := by decide +kernel
theorem dX6_page_52 : decode cX6_page 52 = .ok (.ireturn, 1) := by decide +kernel
theorem dX6_page_53 : decode cX6_page 53 = .ok (.aload_n 0, 1) := by decide +kernel
theorem dX6_page_54 : decode cX6_page 54 = .ok (.getfield 7, 3) := by decide +kernel
theorem dX6_page_57 : decode cX6_page 57 = .ok (.iload_n 1, 1) := by decide +kernel
theorem dX6_page_58 : decode cX6_page 58 = .ok (.invokestatic 102, 3) := by decide +kernel
theorem dX6_page_61 : decode cX6_page 61 = .ok (.istore_n 3, 1) := by decide +kernel
theorem dX6_page_62 : decode cX6_page 62 = .ok (.iload_n 3, 1) := by decide +kernel
theorem dX6_page_63 : decode cX6_page 63 = .ok (.bipush (-5), 2) := by decide +kernel
theorem dX6_page_65 : decode cX6_page 65 = .ok (.if_icmp .ne 6, 3) := by decide +kernel
theorem dX6_page_68 : decode cX6_page 68 = .ok (.bipush (-5), 2) := by decide +kernel
theorem dX6_page_70 : decode cX6_page 70 = .ok (.ireturn, 1) := by decide +kernel
theorem dX6_page_71 : decode cX6_page 71 = .ok (.iload_n 2, 1) := by decide +kernel
theorem dX6_page_72 : decode cX6_page 72 = .ok (.ifCond .ne 7, 3) := by decide +kernel
theorem dX6_page_75 : decode cX6_page 75 = .ok (.iload_n 3, 1) := by decide +kernel
theorem dX6_page_76 : decode cX6_page 76 = .ok (.goto 55, 3) := by decide +kernel
theorem dX6_page_79 : decode cX6_page 79 = .ok (.iload_n 2, 1) := by decide +kernel
theorem dX6_page_80 : decode cX6_page 80 = .ok (.iconst 1, 1) := by decide +kernel
theorem dX6_page_81 : decode cX6_page 81 = .ok (.if_icmp .ne 14, 3) := by decide +kernel
theorem dX6_page_84 : decode cX6_page 84 = .ok (.aload_n 0, 1) := by decide +kernel
theorem dX6_page_85 : decode cX6_page 85 = .ok (.getfield 7, 3) := by decide +kernel
theorem dX6_page_88 : decode cX6_page 88 = .ok (.iload_n 3, 1) := by decide +kernel
theorem dX6_page_89 : decode cX6_page 89 = .ok (.invokestatic 72, 3) := by decide +kernel
theorem dX6_page_92 : decode cX6_page 92 = .ok (.goto 39, 3) := by decide +kernel
theorem dX6_page_95 : decode cX6_page 95 = .ok (.iload_n 2, 1) := by decide +kernel
theorem dX6_page_96 : decode cX6_page 96 = .ok (.iconst 2, 1) := by decide +kernel
theorem dX6_page_97 : decode cX6_page 97 = .ok (.if_icmp .ne 26, 3) := by decide +kernel
theorem dX6_page_100 : decode cX6_page 100 = .ok (.aload_n 0, 1) := by decide +kernel
theorem dX6_page_101 : decode cX6_page 101 = .ok (.getfield 7, 3) := by decide +kernel
theorem dX6_page_104 : decode cX6_page 104 = .ok (.iconst 0, 1) := by decide +kernel
theorem dX6_page_105 : decode cX6_page 105 = .ok (.iaload, 1) := by decide +kernel
theorem dX6_page_106 : decode cX6_page 106 = .ok (.aload_n 0, 1) := by decide +kernel
theorem dX6_page_107 : decode cX6_page 107 = .ok (.getfield 7, 3) := by decide +kernel
theorem dX6_page_110 : decode cX6_page 110 = .ok (.bipush 65, 2) := by decide +kernel
theorem dX6_page_112 : decode cX6_page 112 = .ok (.iconst 3, 1) := by decide +kernel
theorem dX6_page_113 : decode cX6_page 113 = .ok (.iload_n 3, 1) := by decide +kernel
theorem dX6_page_114 : decode cX6_page 114 = .ok (.imul, 1) := by decide +kernel
theorem dX6_page_115 : decode cX6_page 115 = .ok (.iadd, 1) := by decide +kernel
theorem dX6_page_116 : decode cX6_page 116 = .ok (.iconst 2, 1) := by decide +kernel
theorem dX6_page_117 : decode cX6_page 117 = .ok (.iadd, 1) := by decide +kernel
theorem dX6_page_118 : decode cX6_page 118 = .ok (.iaload, 1) := by decide +kernel
theorem dX6_page_119 : decode cX6_page 119 = .ok (.isub, 1) := by decide +kernel
theorem dX6_page_120 : decode cX6_page 120 = .ok (.goto 11, 3) := by decide +kernel
theorem dX6_page_123 : decode cX6_page 123 = .ok (.aload_n 0, 1) := by decide +kernel
theorem dX6_page_124 : decode cX6_page 124 = .ok (.getfield 7, 3) := by decide +kernel
theorem dX6_page_127 : decode cX6_page 127 = .ok (.iload_n 3, 1) := by decide +kernel
theorem dX6_page_128 : decode cX6_page 128 = .ok (.invokestatic 111, 3) := by decide +kernel
theorem dX6_page_131 : decode cX6_page 131 = .ok (.ireturn, 1) := by decide +kernel
theorem dX6_block_0 : decode cX6_block 0 = .ok (.iload_n 1, 1) := by decide +kernel
theorem dX6_block_1 : decode cX6_block 1 = .ok (.invokestatic 149, 3) := by decide +kernel
theorem dX6_block_4 : decode cX6_block 4 = .ok (.ifCond .ne 5, 3) := by decide +kernel
theorem dX6_block_7 : decode cX6_block 7 = .ok (.iconst (-1), 1) := by decide +kernel
theorem dX6_block_8 : decode cX6_block 8 = .ok (.ireturn, 1) := by decide +kernel
theorem dX6_block_9 : decode cX6_block 9 = .ok (.iload_n 2, 1) := by decide +kernel
theorem dX6_block_10 : decode cX6_block 10 = .ok (.iconst 0, 1) := by decide +kernel
theorem dX6_block_11 : decode cX6_block 11 = .ok (.bipush 9, 2) := by decide +kernel
theorem dX6_block_13 : decode cX6_block 13 = .ok (.invokestatic 34, 3) := by decide +kernel
theorem dX6_block_16 : decode cX6_block 16 = .ok (.ifCond .ne 6, 3) := by decide +kernel
theorem dX6_block_19 : decode cX6_block 19 = .ok (.bipush (-2), 2) := by decide +kernel
theorem dX6_block_21 : decode cX6_block 21 = .ok (.ireturn, 1) := by decide +kernel
theorem dX6_block_22 : decode cX6_block 22 = .ok (.bipush 41, 2) := by decide +kernel
theorem dX6_block_24 : decode cX6_block 24 = .ok (.iconst 4, 1) := by decide +kernel
theorem dX6_block_25 : decode cX6_block 25 = .ok (.iload_n 1, 1) := by decide +kernel
theorem dX6_block_26 : decode cX6_block 26 = .ok (.imul, 1) := by decide +kernel
theorem dX6_block_27 : decode cX6_block 27 = .ok (.iadd, 1) := by decide +kernel
theorem dX6_block_28 : decode cX6_block 28 = .ok (.istore_n 3, 1) := by decide +kernel
theorem dX6_block_29 : decode cX6_block 29 = .ok (.iload_n 2, 1) := by decide +kernel
theorem dX6_block_30 : decode cX6_block 30 = .ok (.iconst 5, 1) := by decide +kernel
theorem dX6_block_31 : decode cX6_block 31 = .ok (.if_icmp .ge 55, 3) := by decide +kernel
theorem dX6_block_34 : decode cX6_block 34 = .ok (.iload_n 2, 1) := by decide +kernel
theorem dX6_block_35 : decode cX6_block 35 = .ok (.iconst 2, 1) := by decide +kernel
theorem dX6_block_36 : decode cX6_block 36 = .ok (.if_icmp .ge 14, 3) := by decide +kernel
theorem dX6_block_39 : decode cX6_block 39 = .ok (.aload_n 0, 1) := by decide +kernel
theorem dX6_block_40 : decode cX6_block 40 = .ok (.getfield 7, 3) := by decide +kernel
theorem dX6_block_43 : decode cX6_block 43 = .ok (.iload_n 3, 1) := by decide +kernel
theorem dX6_block_44 : decode cX6_block 44 = .ok (.iload_n 2, 1) := by decide +kernel
theorem dX6_block_45 : decode cX6_block 45 = .ok (.iadd, 1) := by decide +kernel
theorem dX6_block_46 : decode cX6_block 46 = .ok (.iaload, 1) := by decide +kernel
theorem dX6_block_47 : decode cX6_block 47 = .ok (.goto 38, 3) := by decide +kernel
theorem dX6_block_50 : decode cX6_block 50 = .ok (.iload_n 2, 1) := by decide +kernel
theorem dX6_block_51 : decode cX6_block 51 = .ok (.iconst 2, 1) := by decide +kernel
theorem dX6_block_52 : decode cX6_block 52 = .ok (.if_icmp .ne 14, 3) := by decide +kernel
theorem dX6_block_55 : decode cX6_block 55 = .ok (.aload_n 0, 1) := by decide +kernel
theorem dX6_block_56 : decode cX6_block 56 = .ok (.getfield 7, 3) := by decide +kernel
theorem dX6_block_59 : decode cX6_block 59 = .ok (.iload_n 1, 1) := by decide +kernel
theorem dX6_block_60 : decode cX6_block 60 = .ok (.invokestatic 69, 3) := by decide +kernel
theorem dX6_block_63 : decode cX6_block 63 = .ok (.goto 22, 3) := by decide +kernel
theorem dX6_block_66 : decode cX6_block 66 = .ok (.aload_n 0, 1) := by decide +kernel
theorem dX6_block_67 : decode cX6_block 67 = .ok (.getfield 7, 3) := by decide +kernel
theorem dX6_block_70 : decode cX6_block 70 = .ok (.iload_n 1, 1) := by decide +kernel
theorem dX6_block_71 : decode cX6_block 71 = .ok (.iload_n 2, 1) := by decide +kernel
theorem dX6_block_72 : decode cX6_block 72 = .ok (.iconst 3, 1) := by decide +kernel
theorem dX6_block_73 : decode cX6_block 73 = .ok (.if_icmp .ne 7, 3) := by decide +kernel
theorem dX6_block_76 : decode cX6_block 76 = .ok (.iconst 0, 1) := by decide +kernel
theorem dX6_block_77 : decode cX6_block 77 = .ok (.goto 5, 3) := by decide +kernel
theorem dX6_block_80 : decode cX6_block 80 = .ok (.bipush (-2), 2) := by decide +kernel
theorem dX6_block_82 : decode cX6_block 82 = .ok (.invokestatic 60, 3) := by decide +kernel
theorem dX6_block_85 : decode cX6_block 85 = .ok (.ireturn, 1) := by decide +kernel
theorem dX6_block_86 : decode cX6_block 86 = .ok (.iload_n 2, 1) := by decide +kernel
theorem dX6_block_87 : decode cX6_block 87 = .ok (.bipush 8, 2) := by decide +kernel
theorem dX6_block_89 : decode cX6_block 89 = .ok (.if_icmp .ge 56, 3) := by decide +kernel
theorem dX6_block_92 : decode cX6_block 92 = .ok (.iload_n 2, 1) := by decide +kernel
theorem dX6_block_93 : decode cX6_block 93 = .ok (.iconst 5, 1) := by decide +kernel
theorem dX6_block_94 : decode cX6_block 94 = .ok (.if_icmp .ne 14, 3) := by decide +kernel
theorem dX6_block_97 : decode cX6_block 97 = .ok (.aload_n 0, 1) := by decide +kernel
theorem dX6_block_98 : decode cX6_block 98 = .ok (.getfield 7, 3) := by decide +kernel
theorem dX6_block_101 : decode cX6_block 101 = .ok (.iload_n 1, 1) := by decide +kernel
theorem dX6_block_102 : decode cX6_block 102 = .ok (.invokestatic 78, 3) := by decide +kernel
theorem dX6_block_105 : decode cX6_block 105 = .ok (.goto 39, 3) := by decide +kernel
theorem dX6_block_108 : decode cX6_block 108 = .ok (.iload_n 2, 1) := by decide +kernel
theorem dX6_block_109 : decode cX6_block 109 = .ok (.bipush 6, 2) := by decide +kernel
theorem dX6_block_111 : decode cX6_block 111 = .ok (.if_icmp .ne 17, 3) := by decide +kernel
theorem dX6_block_114 : decode cX6_block 114 = .ok (.aload_n 0, 1) := by decide +kernel
theorem dX6_block_115 : decode cX6_block 115 = .ok (.getfield 7, 3) := by decide +kernel
theorem dX6_block_118 : decode cX6_block 118 = .ok (.iload_n 1, 1) := by decide +kernel
theorem dX6_block_119 : decode cX6_block 119 = .ok (.invokestatic 81, 3) := by decide +kernel
theorem dX6_block_122 : decode cX6_block 122 = .ok (.ifCond .eq 21, 3) := by decide +kernel
theorem dX6_block_125 : decode cX6_block 125 = .ok (.goto 14, 3) := by decide +kernel
theorem dX6_block_128 : decode cX6_block 128 = .ok (.aload_n 0, 1) := by decide +kernel
theorem dX6_block_129 : decode cX6_block 129 = .ok (.getfield 7, 3) := by decide +kernel
theorem dX6_block_132 : decode cX6_block 132 = .ok (.iload_n 1, 1) := by decide +kernel
theorem dX6_block_133 : decode cX6_block 133 = .ok (.invokestatic 64, 3) := by decide +kernel
theorem dX6_block_136 : decode cX6_block 136 = .ok (.ifCond .eq 7, 3) := by decide +kernel
theorem dX6_block_139 : decode cX6_block 139 = .ok (.iconst 1, 1) := by decide +kernel
theorem dX6_block_140 : decode cX6_block 140 = .ok (.goto 4, 3) := by decide +kernel
theorem dX6_block_143 : decode cX6_block 143 = .ok (.iconst 0, 1) := by decide +kernel
theorem dX6_block_144 : decode cX6_block 144 = .ok (.ireturn, 1) := by decide +kernel
theorem dX6_block_145 : decode cX6_block 145 = .ok (.iload_n 2, 1) := by decide +kernel
theorem dX6_block_146 : decode cX6_block 146 = .ok (.bipush 8, 2) := by decide +kernel
theorem dX6_block_148 : decode cX6_block 148 = .ok (.if_icmp .ne 14, 3) := by decide +kernel
theorem dX6_block_151 : decode cX6_block 151 = .ok (.aload_n 0, 1) := by decide +kernel
theorem dX6_block_152 : decode cX6_block 152 = .ok (.getfield 7, 3) := by decide +kernel
theorem dX6_block_155 : decode cX6_block 155 = .ok (.iload_n 3, 1) := by decide +kernel
theorem dX6_block_156 : decode cX6_block 156 = .ok (.iconst 3, 1) := by decide +kernel
theorem dX6_block_157 : decode cX6_block 157 = .ok (.iadd, 1) := by decide +kernel
theorem dX6_block_158 : decode cX6_block 158 = .ok (.iaload, 1) := by decide +kernel
theorem dX6_block_159 : decode cX6_block 159 = .ok (.goto 11, 3) := by decide +kernel
theorem dX6_block_162 : decode cX6_block 162 = .ok (.aload_n 0, 1) := by decide +kernel
theorem dX6_block_163 : decode cX6_block 163 = .ok (.getfield 7, 3) := by decide +kernel
theorem dX6_block_166 : decode cX6_block 166 = .ok (.iload_n 3, 1) := by decide +kernel
theorem dX6_block_167 : decode cX6_block 167 = .ok (.iconst 2, 1) := by decide +kernel
theorem dX6_block_168 : decode cX6_block 168 = .ok (.iadd, 1) := by decide +kernel
theorem dX6_block_169 : decode cX6_block 169 = .ok (.iaload, 1) := by decide +kernel
theorem dX6_block_170 : decode cX6_block 170 = .ok (.ireturn, 1) := by decide +kernel
theorem dX6_place_0 : decode cX6_place 0 = .ok (.iload_n 1, 1) := by decide +kernel
theorem dX6_place_1 : decode cX6_place 1 = .ok (.invokestatic 149, 3) := by decide +kernel
theorem dX6_place_4 : decode cX6_place 4 = .ok (.ifCond .eq 13, 3) := by decide +kernel
theorem dX6_place_7 : decode cX6_place 7 = .ok (.iload_n 2, 1) := by decide +kernel
theorem dX6_place_8 : decode cX6_place 8 = .ok (.iconst 0, 1) := by decide +kernel
theorem dX6_place_9 : decode cX6_place 9 = .ok (.bipush 7, 2) := by decide +kernel
theorem dX6_place_11 : decode cX6_place 11 = .ok (.invokestatic 34, 3) := by decide +kernel
theorem dX6_place_14 : decode cX6_place 14 = .ok (.ifCond .ne 5, 3) := by decide +kernel
theorem dX6_place_17 : decode cX6_place 17 = .ok (.iconst (-1), 1) := by decide +kernel
theorem dX6_place_18 : decode cX6_place 18 = .ok (.ireturn, 1) := by decide +kernel
theorem dX6_place_19 : decode cX6_place 19 = .ok (.iload_n 3, 1) := by decide +kernel
theorem dX6_place_20 : decode cX6_place 20 = .ok (.iconst 0, 1) := by decide +kernel
theorem dX6_place_21 : decode cX6_place 21 = .ok (.iconst 2, 1) := by decide +kernel
theorem dX6_place_22 : decode cX6_place 22 = .ok (.invokestatic 34, 3) := by decide +kernel
theorem dX6_place_25 : decode cX6_place 25 = .ok (.ifCond .ne 6, 3) := by decide +kernel
theorem dX6_place_28 : decode cX6_place 28 = .ok (.bipush (-2), 2) := by decide +kernel
theorem dX6_place_30 : decode cX6_place 30 = .ok (.ireturn, 1) := by decide +kernel
theorem dX6_place_31 : decode cX6_place 31 = .ok (.bipush 8, 2) := by decide +kernel
theorem dX6_place_33 : decode cX6_place 33 = .ok (.iload_n 1, 1) := by decide +kernel
theorem dX6_place_34 : decode cX6_place 34 = .ok (.imul, 1) := by decide +kernel
theorem dX6_place_35 : decode cX6_place 35 = .ok (.iload_n 2, 1) := by decide +kernel
theorem dX6_place_36 : decode cX6_place 36 = .ok (.iadd, 1) := by decide +kernel
theorem dX6_place_37 : decode cX6_place 37 = .ok (.istore 4, 2) := by decide +kernel
theorem dX6_place_39 : decode cX6_place 39 = .ok (.aload_n 0, 1) := by decide +kernel
theorem dX6_place_40 : decode cX6_place 40 = .ok (.getfield 7, 3) := by decide +kernel
theorem dX6_place_43 : decode cX6_place 43 = .ok (.iload 4, 2) := by decide +kernel
theorem dX6_place_45 : decode cX6_place 45 = .ok (.invokestatic 53, 3) := by decide +kernel
theorem dX6_place_48 : decode cX6_place 48 = .ok (.istore 5, 2) := by decide +kernel
theorem dX6_place_50 : decode cX6_place 50 = .ok (.iload_n 3, 1) := by decide +kernel
theorem dX6_place_51 : decode cX6_place 51 = .ok (.iconst 2, 1) := by decide +kernel
theorem dX6_place_52 : decode cX6_place 52 = .ok (.if_icmp .ne 13, 3) := by decide +kernel
theorem dX6_place_55 : decode cX6_place 55 = .ok (.aload_n 0, 1) := by decide +kernel
theorem dX6_place_56 : decode cX6_place 56 = .ok (.getfield 7, 3) := by decide +kernel
theorem dX6_place_59 : decode cX6_place 59 = .ok (.iload 4, 2) := by decide +kernel
theorem dX6_place_61 : decode cX6_place 61 = .ok (.invokestatic 72, 3) := by decide +kernel
theorem dX6_place_64 : decode cX6_place 64 = .ok (.ireturn, 1) := by decide +kernel
theorem dX6_place_65 : decode cX6_place 65 = .ok (.iload_n 3, 1) := by decide +kernel
theorem dX6_place_66 : decode cX6_place 66 = .ok (.ifCond .ne 18, 3) := by decide +kernel
theorem dX6_place_69 : decode cX6_place 69 = .ok (.iload 5, 2) := by decide +kernel
theorem dX6_place_71 : decode cX6_place 71 = .ok (.ifCond .ge 8, 3) := by decide +kernel
theorem dX6_place_74 : decode cX6_place 74 = .ok (.bipush (-5), 2) := by decide +kernel
theorem dX6_place_76 : decode cX6_place 76 = .ok (.goto 30, 3) := by decide +kernel
theorem dX6_place_79 : decode cX6_place 79 = .ok (.iload 5, 2) := by decide +kernel
theorem dX6_place_81 : decode cX6_place 81 = .ok (.goto 25, 3) := by decide +kernel
theorem dX6_place_84 : decode cX6_place 84 = .ok (.iload 5, 2) := by decide +kernel
theorem dX6_place_86 : decode cX6_place 86 = .ok (.iconst (-1), 1) := by decide +kernel
theorem dX6_place_87 : decode cX6_place 87 = .ok (.if_icmp .ne 7, 3) := by decide +kernel
theorem dX6_place_90 : decode cX6_place 90 = .ok (.iconst 0, 1) := by decide +kernel
theorem dX6_place_91 : decode cX6_place 91 = .ok (.goto 15, 3) := by decide +kernel
theorem dX6_place_94 : decode cX6_place 94 = .ok (.iload 5, 2) := by decide +kernel
theorem dX6_place_96 : decode cX6_place 96 = .ok (.bipush (-2), 2) := by decide +kernel
theorem dX6_place_98 : decode cX6_place 98 = .ok (.if_icmp .ne 7, 3) := by decide +kernel
theorem dX6_place_101 : decode cX6_place 101 = .ok (.iconst 2, 1) := by decide +kernel
theorem dX6_place_102 : decode cX6_place 102 = .ok (.goto 4, 3) := by decide +kernel
theorem dX6_place_105 : decode cX6_place 105 = .ok (.iconst 1, 1) := by decide +kernel
theorem dX6_place_106 : decode cX6_place 106 = .ok (.ireturn, 1) := by decide +kernel
theorem dX6_marked_0 : decode cX6_marked 0 = .ok (.iload_n 1, 1) := by decide +kernel
theorem dX6_marked_1 : decode cX6_marked 1 = .ok (.ifCond .ge 8, 3) := by decide +kernel
theorem dX6_marked_4 : decode cX6_marked 4 = .ok (.bipush (-2), 2) := by decide +kernel
theorem dX6_marked_6 : decode cX6_marked 6 = .ok (.goto 11, 3) := by decide +kernel
theorem dX6_marked_9 : decode cX6_marked 9 = .ok (.aload_n 0, 1) := by decide +kernel
theorem dX6_marked_10 : decode cX6_marked 10 = .ok (.getfield 7, 3) := by decide +kernel
theorem dX6_marked_13 : decode cX6_marked 13 = .ok (.iload_n 1, 1) := by decide +kernel
theorem dX6_marked_14 : decode cX6_marked 14 = .ok (.invokestatic 126, 3) := by decide +kernel
theorem dX6_marked_17 : decode cX6_marked 17 = .ok (.ireturn, 1) := by decide +kernel
theorem dX6_quietIn_0 : decode cX6_quietIn 0 = .ok (.aload_n 0, 1) := by decide +kernel
theorem dX6_quietIn_1 : decode cX6_quietIn 1 = .ok (.invokevirtual 155, 3) := by decide +kernel
theorem dX6_quietIn_4 : decode cX6_quietIn 4 = .ok (.iconst 0, 1) := by decide +kernel
theorem dX6_quietIn_5 : decode cX6_quietIn 5 = .ok (.istore_n 1, 1) := by decide +kernel
theorem dX6_quietIn_6 : decode cX6_quietIn 6 = .ok (.iload_n 1, 1) := by decide +kernel
theorem dX6_quietIn_7 : decode cX6_quietIn 7 = .ok (.sipush 300, 3) := by decide +kernel
theorem dX6_quietIn_10 : decode cX6_quietIn 10 = .ok (.if_icmp .gt 29, 3) := by decide +kernel
theorem dX6_quietIn_13 : decode cX6_quietIn 13 = .ok (.aload_n 0, 1) := by decide +kernel
theorem dX6_quietIn_14 : decode cX6_quietIn 14 = .ok (.getfield 13, 3) := by decide +kernel
theorem dX6_quietIn_17 : decode cX6_quietIn 17 = .ok (.invokestatic 152, 3) := by decide +kernel
theorem dX6_quietIn_20 : decode cX6_quietIn 20 = .ok (.ifCond .ne 5, 3) := by decide +kernel
theorem dX6_quietIn_23 : decode cX6_quietIn 23 = .ok (.iload_n 1, 1) := by decide +kernel
theorem dX6_quietIn_24 : decode cX6_quietIn 24 = .ok (.ireturn, 1) := by decide +kernel
theorem dX6_quietIn_25 : decode cX6_quietIn 25 = .ok (.aload_n 0, 1) := by decide +kernel
theorem dX6_quietIn_26 : decode cX6_quietIn 26 = .ok (.getfield 13, 3) := by decide +kernel
theorem dX6_quietIn_29 : decode cX6_quietIn 29 = .ok (.invokestatic 142, 3) := by decide +kernel
theorem dX6_quietIn_32 : decode cX6_quietIn 32 = .ok (.pop, 1) := by decide +kernel
theorem dX6_quietIn_33 : decode cX6_quietIn 33 = .ok (.iinc 1 1, 3) := by decide +kernel
theorem dX6_quietIn_36 : decode cX6_quietIn 36 = .ok (.goto (-30), 3) := by decide +kernel
theorem dX6_quietIn_39 : decode cX6_quietIn 39 = .ok (.bipush (-5), 2) := by decide +kernel
theorem dX6_quietIn_41 : decode cX6_quietIn 41 = .ok (.ireturn, 1) := by decide +kernel
theorem dX6_erasure_0 : decode cX6_erasure 0 = .ok (.iload_n 1, 1) := by decide +kernel
theorem dX6_erasure_1 : decode cX6_erasure 1 = .ok (.ifCond .lt 12, 3) := by decide +kernel
theorem dX6_erasure_4 : decode cX6_erasure 4 = .ok (.iload_n 2, 1) := by decide +kernel
theorem dX6_erasure_5 : decode cX6_erasure 5 = .ok (.iconst 0, 1) := by decide +kernel
theorem dX6_erasure_6 : decode cX6_erasure 6 = .ok (.iconst 2, 1) := by decide +kernel
theorem dX6_erasure_7 : decode cX6_erasure 7 = .ok (.invokestatic 34, 3) := by decide +kernel
theorem dX6_erasure_10 : decode cX6_erasure 10 = .ok (.ifCond .ne 6, 3) := by decide +kernel
theorem dX6_erasure_13 : decode cX6_erasure 13 = .ok (.bipush (-2), 2) := by decide +kernel
theorem dX6_erasure_15 : decode cX6_erasure 15 = .ok (.ireturn, 1) := by decide +kernel
theorem dX6_erasure_16 : decode cX6_erasure 16 = .ok (.iload_n 1, 1) := by decide +kernel
theorem dX6_erasure_17 : decode cX6_erasure 17 = .ok (.aload_n 0, 1) := by decide +kernel
theorem dX6_erasure_18 : decode cX6_erasure 18 = .ok (.getfield 7, 3) := by decide +kernel
theorem dX6_erasure_21 : decode cX6_erasure 21 = .ok (.bipush 16, 2) := by decide +kernel
theorem dX6_erasure_23 : decode cX6_erasure 23 = .ok (.iaload, 1) := by decide +kernel
theorem dX6_erasure_24 : decode cX6_erasure 24 = .ok (.if_icmp .ge 19, 3) := by decide +kernel
theorem dX6_erasure_27 : decode cX6_erasure 27 = .ok (.aload_n 0, 1) := by decide +kernel
theorem dX6_erasure_28 : decode cX6_erasure 28 = .ok (.getfield 7, 3) := by decide +kernel
theorem dX6_erasure_31 : decode cX6_erasure 31 = .ok (.bipush 17, 2) := by decide +kernel
theorem dX6_erasure_33 : decode cX6_erasure 33 = .ok (.iconst 3, 1) := by decide +kernel
theorem dX6_erasure_34 : decode cX6_erasure 34 = .ok (.iload_n 1, 1) := by decide +kernel
theorem dX6_erasure_35 : decode cX6_erasure 35 = .ok (.imul, 1) := by decide +kernel
theorem dX6_erasure_36 : decode cX6_erasure 36 = .ok (.iadd, 1) := by decide +kernel
theorem dX6_erasure_37 : decode cX6_erasure 37 = .ok (.iload_n 2, 1) := by decide +kernel
theorem dX6_erasure_38 : decode cX6_erasure 38 = .ok (.iadd, 1) := by decide +kernel
theorem dX6_erasure_39 : decode cX6_erasure 39 = .ok (.iaload, 1) := by decide +kernel
theorem dX6_erasure_40 : decode cX6_erasure 40 = .ok (.goto 5, 3) := by decide +kernel
theorem dX6_erasure_43 : decode cX6_erasure 43 = .ok (.bipush (-5), 2) := by decide +kernel
theorem dX6_erasure_45 : decode cX6_erasure 45 = .ok (.ireturn, 1) := by decide +kernel
theorem dX6_weakest_0 : decode cX6_weakest 0 = .ok (.iconst 0, 1) := by decide +kernel
theorem dX6_weakest_1 : decode cX6_weakest 1 = .ok (.istore_n 1, 1) := by decide +kernel
theorem dX6_weakest_2 : decode cX6_weakest 2 = .ok (.iconst 0, 1) := by decide +kernel
theorem dX6_weakest_3 : decode cX6_weakest 3 = .ok (.istore_n 2, 1) := by decide +kernel
theorem dX6_weakest_4 : decode cX6_weakest 4 = .ok (.iload_n 2, 1) := by decide +kernel
theorem dX6_weakest_5 : decode cX6_weakest 5 = .ok (.bipush 6, 2) := by decide +kernel
theorem dX6_weakest_7 : decode cX6_weakest 7 = .ok (.if_icmp .ge 34, 3) := by decide +kernel
theorem dX6_weakest_10 : decode cX6_weakest 10 = .ok (.aload_n 0, 1) := by decide +kernel
theorem dX6_weakest_11 : decode cX6_weakest 11 = .ok (.getfield 7, 3) := by decide +kernel
theorem dX6_weakest_14 : decode cX6_weakest 14 = .ok (.iload_n 2, 1) := by decide +kernel
theorem dX6_weakest_15 : decode cX6_weakest 15 = .ok (.invokestatic 84, 3) := by decide +kernel
theorem dX6_weakest_18 : decode cX6_weakest 18 = .ok (.iload_n 1, 1) := by decide +kernel
theorem dX6_weakest_19 : decode cX6_weakest 19 = .ok (.if_icmp .le 14, 3) := by decide +kernel
theorem dX6_weakest_22 : decode cX6_weakest 22 = .ok (.aload_n 0, 1) := by decide +kernel
theorem dX6_weakest_23 : decode cX6_weakest 23 = .ok (.getfield 7, 3) := by decide +kernel
theorem dX6_weakest_26 : decode cX6_weakest 26 = .ok (.iload_n 2, 1) := by decide +kernel
theorem dX6_weakest_27 : decode cX6_weakest 27 = .ok (.invokestatic 84, 3) := by decide +kernel
theorem dX6_weakest_30 : decode cX6_weakest 30 = .ok (.goto 4, 3) := by decide +kernel
theorem dX6_weakest_33 : decode cX6_weakest 33 = .ok (.iload_n 1, 1) := by decide +kernel
theorem dX6_weakest_34 : decode cX6_weakest 34 = .ok (.istore_n 1, 1) := by decide +kernel
theorem dX6_weakest_35 : decode cX6_weakest 35 = .ok (.iinc 2 1, 3) := by decide +kernel
theorem dX6_weakest_38 : decode cX6_weakest 38 = .ok (.goto (-34), 3) := by decide +kernel
theorem dX6_weakest_41 : decode cX6_weakest 41 = .ok (.iload_n 1, 1) := by decide +kernel
theorem dX6_weakest_42 : decode cX6_weakest 42 = .ok (.ireturn, 1) := by decide +kernel
theorem dX6_count_0 : decode cX6_count 0 = .ok (.iload_n 1, 1) := by decide +kernel
theorem dX6_count_1 : decode cX6_count 1 = .ok (.iconst 0, 1) := by decide +kernel
theorem dX6_count_2 : decode cX6_count 2 = .ok (.bipush 12, 2) := by decide +kernel
theorem dX6_count_4 : decode cX6_count 4 = .ok (.invokestatic 34, 3) := by decide +kernel
theorem dX6_count_7 : decode cX6_count 7 = .ok (.ifCond .ne 6, 3) := by decide +kernel
theorem dX6_count_10 : decode cX6_count 10 = .ok (.bipush (-2), 2) := by decide +kernel
theorem dX6_count_12 : decode cX6_count 12 = .ok (.ireturn, 1) := by decide +kernel
theorem dX6_count_13 : decode cX6_count 13 = .ok (.iload_n 1, 1) := by decide +kernel
theorem dX6_count_14 : decode cX6_count 14 = .ok (.iconst 5, 1) := by decide +kernel
theorem dX6_count_15 : decode cX6_count 15 = .ok (.if_icmp .ge 69, 3) := by decide +kernel
theorem dX6_count_18 : decode cX6_count 18 = .ok (.iload_n 1, 1) := by decide +kernel
theorem dX6_count_19 : decode cX6_count 19 = .ok (.ifCond .ne 12, 3) := by decide +kernel
theorem dX6_count_22 : decode cX6_count 22 = .ok (.aload_n 0, 1) := by decide +kernel
theorem dX6_count_23 : decode cX6_count 23 = .ok (.getfield 7, 3) := by decide +kernel
theorem dX6_count_26 : decode cX6_count 26 = .ok (.iconst 0, 1) := by decide +kernel
theorem dX6_count_27 : decode cX6_count 27 = .ok (.iaload, 1) := by decide +kernel
theorem dX6_count_28 : decode cX6_count 28 = .ok (.goto 55, 3) := by decide +kernel
theorem dX6_count_31 : decode cX6_count 31 = .ok (.iload_n 1, 1) := by decide +kernel
theorem dX6_count_32 : decode cX6_count 32 = .ok (.iconst 1, 1) := by decide +kernel
theorem dX6_count_33 : decode cX6_count 33 = .ok (.if_icmp .ne 13, 3) := by decide +kernel
theorem dX6_count_36 : decode cX6_count 36 = .ok (.aload_n 0, 1) := by decide +kernel
theorem dX6_count_37 : decode cX6_count 37 = .ok (.getfield 7, 3) := by decide +kernel
theorem dX6_count_40 : decode cX6_count 40 = .ok (.invokestatic 168, 3) := by decide +kernel
theorem dX6_count_43 : decode cX6_count 43 = .ok (.goto 40, 3) := by decide +kernel
theorem dX6_count_46 : decode cX6_count 46 = .ok (.iload_n 1, 1) := by decide +kernel
theorem dX6_count_47 : decode cX6_count 47 = .ok (.iconst 2, 1) := by decide +kernel
theorem dX6_count_48 : decode cX6_count 48 = .ok (.if_icmp .ne 13, 3) := by decide +kernel
theorem dX6_count_51 : decode cX6_count 51 = .ok (.aload_n 0, 1) := by decide +kernel
theorem dX6_count_52 : decode cX6_count 52 = .ok (.getfield 7, 3) := by decide +kernel
theorem dX6_count_55 : decode cX6_count 55 = .ok (.invokestatic 133, 3) := by decide +kernel
theorem dX6_count_58 : decode cX6_count 58 = .ok (.goto 25, 3) := by decide +kernel
theorem dX6_count_61 : decode cX6_count 61 = .ok (.iload_n 1, 1) := by decide +kernel
theorem dX6_count_62 : decode cX6_count 62 = .ok (.iconst 3, 1) := by decide +kernel
theorem dX6_count_63 : decode cX6_count 63 = .ok (.if_icmp .ne 13, 3) := by decide +kernel
theorem dX6_count_66 : decode cX6_count 66 = .ok (.aload_n 0, 1) := by decide +kernel
theorem dX6_count_67 : decode cX6_count 67 = .ok (.getfield 7, 3) := by decide +kernel
theorem dX6_count_70 : decode cX6_count 70 = .ok (.bipush 6, 2) := by decide +kernel
theorem dX6_count_72 : decode cX6_count 72 = .ok (.iaload, 1) := by decide +kernel
theorem dX6_count_73 : decode cX6_count 73 = .ok (.goto 10, 3) := by decide +kernel
theorem dX6_count_76 : decode cX6_count 76 = .ok (.aload_n 0, 1) := by decide +kernel
theorem dX6_count_77 : decode cX6_count 77 = .ok (.getfield 7, 3) := by decide +kernel
theorem dX6_count_80 : decode cX6_count 80 = .ok (.invokestatic 152, 3) := by decide +kernel
theorem dX6_count_83 : decode cX6_count 83 = .ok (.ireturn, 1) := by decide +kernel
theorem dX6_count_84 : decode cX6_count 84 = .ok (.iload_n 1, 1) := by decide +kernel
theorem dX6_count_85 : decode cX6_count 85 = .ok (.bipush 10, 2) := by decide +kernel
theorem dX6_count_87 : decode cX6_count 87 = .ok (.if_icmp .ge 17, 3) := by decide +kernel
theorem dX6_count_90 : decode cX6_count 90 = .ok (.aload_n 0, 1) := by decide +kernel
theorem dX6_count_91 : decode cX6_count 91 = .ok (.getfield 7, 3) := by decide +kernel
theorem dX6_count_94 : decode cX6_count 94 = .ok (.bipush 7, 2) := by decide +kernel
theorem dX6_count_96 : decode cX6_count 96 = .ok (.iload_n 1, 1) := by decide +kernel
theorem dX6_count_97 : decode cX6_count 97 = .ok (.iadd, 1) := by decide +kernel
theorem dX6_count_98 : decode cX6_count 98 = .ok (.iconst 5, 1) := by decide +kernel
theorem dX6_count_99 : decode cX6_count 99 = .ok (.isub, 1) := by decide +kernel
theorem dX6_count_100 : decode cX6_count 100 = .ok (.iaload, 1) := by decide +kernel
theorem dX6_count_101 : decode cX6_count 101 = .ok (.goto 33, 3) := by decide +kernel
theorem dX6_count_104 : decode cX6_count 104 = .ok (.iload_n 1, 1) := by decide +kernel
theorem dX6_count_105 : decode cX6_count 105 = .ok (.bipush 10, 2) := by decide +kernel
theorem dX6_count_107 : decode cX6_count 107 = .ok (.if_icmp .ne 10, 3) := by decide +kernel
theorem dX6_count_110 : decode cX6_count 110 = .ok (.aload_n 0, 1) := by decide +kernel
theorem dX6_count_111 : decode cX6_count 111 = .ok (.invokevirtual 208, 3) := by decide +kernel
theorem dX6_count_114 : decode cX6_count 114 = .ok (.goto 20, 3) := by decide +kernel
theorem dX6_count_117 : decode cX6_count 117 = .ok (.iload_n 1, 1) := by decide +kernel
theorem dX6_count_118 : decode cX6_count 118 = .ok (.bipush 11, 2) := by decide +kernel
theorem dX6_count_120 : decode cX6_count 120 = .ok (.if_icmp .ne 10, 3) := by decide +kernel
theorem dX6_count_123 : decode cX6_count 123 = .ok (.aload_n 0, 1) := by decide +kernel
theorem dX6_count_124 : decode cX6_count 124 = .ok (.getfield 38, 3) := by decide +kernel
theorem dX6_count_127 : decode cX6_count 127 = .ok (.goto 7, 3) := by decide +kernel
theorem dX6_count_130 : decode cX6_count 130 = .ok (.aload_n 0, 1) := by decide +kernel
theorem dX6_count_131 : decode cX6_count 131 = .ok (.getfield 174, 3) := by decide +kernel
theorem dX6_count_134 : decode cX6_count 134 = .ok (.ireturn, 1) := by decide +kernel
theorem dX6_setting_0 : decode cX6_setting 0 = .ok (.iload_n 1, 1) := by decide +kernel
theorem dX6_setting_1 : decode cX6_setting 1 = .ok (.iconst 0, 1) := by decide +kernel
theorem dX6_setting_2 : decode cX6_setting 2 = .ok (.iconst 4, 1) := by decide +kernel
theorem dX6_setting_3 : decode cX6_setting 3 = .ok (.invokestatic 34, 3) := by decide +kernel
theorem dX6_setting_6 : decode cX6_setting 6 = .ok (.ifCond .eq 14, 3) := by decide +kernel
theorem dX6_setting_9 : decode cX6_setting 9 = .ok (.aload_n 0, 1) := by decide +kernel
theorem dX6_setting_10 : decode cX6_setting 10 = .ok (.getfield 7, 3) := by decide +kernel
theorem dX6_setting_13 : decode cX6_setting 13 = .ok (.iconst 1, 1) := by decide +kernel
theorem dX6_setting_14 : decode cX6_setting 14 = .ok (.iload_n 1, 1) := by decide +kernel
theorem dX6_setting_15 : decode cX6_setting 15 = .ok (.iadd, 1) := by decide +kernel
theorem dX6_setting_16 : decode cX6_setting 16 = .ok (.iaload, 1) := by decide +kernel
theorem dX6_setting_17 : decode cX6_setting 17 = .ok (.goto 4, 3) := by decide +kernel
theorem dX6_setting_20 : decode cX6_setting 20 = .ok (.iconst (-1), 1) := by decide +kernel
theorem dX6_setting_21 : decode cX6_setting 21 = .ok (.ireturn, 1) := by decide +kernel
theorem dL_law_0 : decode cL_law 0 = .ok (.new 7, 3) := by decide +kernel
theorem dL_law_3 : decode cL_law 3 = .ok (.dup, 1) := by decide +kernel
theorem dL_law_4 : decode cL_law 4 = .ok (.invokespecial 9, 3) := by decide +kernel
theorem dL_law_7 : decode cL_law 7 = .ok (.astore_n 1, 1) := by decide +kernel
theorem dL_law_8 : decode cL_law 8 = .ok (.new 10, 3) := by decide +kernel
theorem dL_law_11 : decode cL_law 11 = .ok (.dup, 1) := by decide +kernel
theorem dL_law_12 : decode cL_law 12 = .ok (.invokespecial 12, 3) := by decide +kernel
theorem dL_law_15 : decode cL_law 15 = .ok (.astore_n 2, 1) := by decide +kernel
theorem dL_law_16 : decode cL_law 16 = .ok (.iconst 0, 1) := by decide +kernel
theorem dL_law_17 : decode cL_law 17 = .ok (.istore_n 3, 1) := by decide +kernel
theorem dL_law_18 : decode cL_law 18 = .ok (.iload_n 3, 1) := by decide +kernel
theorem dL_law_19 : decode cL_law 19 = .ok (.aload_n 0, 1) := by decide +kernel
theorem dL_law_20 : decode cL_law 20 = .ok (.arraylength, 1) := by decide +kernel
theorem dL_law_21 : decode cL_law 21 = .ok (.iconst 4, 1) := by decide +kernel
theorem dL_law_22 : decode cL_law 22 = .ok (.isub, 1) := by decide +kernel
theorem dL_law_23 : decode cL_law 23 = .ok (.if_icmp .gt 690, 3) := by decide +kernel
theorem dL_law_26 : decode cL_law 26 = .ok (.aload_n 0, 1) := by decide +kernel
theorem dL_law_27 : decode cL_law 27 = .ok (.iload_n 3, 1) := by decide +kernel
theorem dL_law_28 : decode cL_law 28 = .ok (.iaload, 1) := by decide +kernel
theorem dL_law_29 : decode cL_law 29 = .ok (.bipush 31, 2) := by decide +kernel
theorem dL_law_31 : decode cL_law 31 = .ok (.iand, 1) := by decide +kernel
theorem dL_law_32 : decode cL_law 32 = .ok (.tableswitch 675 0 22 #[108, 141, 174, 223, 246, 269, 292, 315, 338, 363, 376, 389, 412, 425, 438, 451, 484, 517, 560, 583, 596, 629, 652], 108) := by decide +kernel
theorem dL_law_140 : decode cL_law 140 = .ok (.aload_n 1, 1) := by decide +kernel
theorem dL_law_141 : decode cL_law 141 = .ok (.aload_n 0, 1) := by decide +kernel
theorem dL_law_142 : decode cL_law 142 = .ok (.iload_n 3, 1) := by decide +kernel
theorem dL_law_143 : decode cL_law 143 = .ok (.iconst 1, 1) := by decide +kernel
theorem dL_law_144 : decode cL_law 144 = .ok (.iadd, 1) := by decide +kernel
theorem dL_law_145 : decode cL_law 145 = .ok (.iaload, 1) := by decide +kernel
theorem dL_law_146 : decode cL_law 146 = .ok (.aload_n 0, 1) := by decide +kernel
theorem dL_law_147 : decode cL_law 147 = .ok (.iload_n 3, 1) := by decide +kernel
theorem dL_law_148 : decode cL_law 148 = .ok (.iconst 2, 1) := by decide +kernel
theorem dL_law_149 : decode cL_law 149 = .ok (.iadd, 1) := by decide +kernel
theorem dL_law_150 : decode cL_law 150 = .ok (.iaload, 1) := by decide +kernel
theorem dL_law_151 : decode cL_law 151 = .ok (.invokevirtual 13, 3) := by decide +kernel
theorem dL_law_154 : decode cL_law 154 = .ok (.aload_n 2, 1) := by decide +kernel
theorem dL_law_155 : decode cL_law 155 = .ok (.aload_n 0, 1) := by decide +kernel
theorem dL_law_156 : decode cL_law 156 = .ok (.iload_n 3, 1) := by decide +kernel
theorem dL_law_157 : decode cL_law 157 = .ok (.iconst 1, 1) := by decide +kernel
theorem dL_law_158 : decode cL_law 158 = .ok (.iadd, 1) := by decide +kernel
theorem dL_law_159 : decode cL_law 159 = .ok (.iaload, 1) := by decide +kernel
theorem dL_law_160 : decode cL_law 160 = .ok (.aload_n 0, 1) := by decide +kernel
theorem dL_law_161 : decode cL_law 161 = .ok (.iload_n 3, 1) := by decide +kernel
theorem dL_law_162 : decode cL_law 162 = .ok (.iconst 2, 1) := by decide +kernel
theorem dL_law_163 : decode cL_law 163 = .ok (.iadd, 1) := by decide +kernel
theorem dL_law_164 : decode cL_law 164 = .ok (.iaload, 1) := by decide +kernel
theorem dL_law_165 : decode cL_law 165 = .ok (.invokevirtual 17, 3) := by decide +kernel
theorem dL_law_168 : decode cL_law 168 = .ok (.if_icmp .eq 539, 3) := by decide +kernel
theorem dL_law_171 : decode cL_law 171 = .ok (.iconst 0, 1) := by decide +kernel
theorem dL_law_172 : decode cL_law 172 = .ok (.ireturn, 1) := by decide +kernel
theorem dL_law_173 : decode cL_law 173 = .ok (.aload_n 1, 1) := by decide +kernel
theorem dL_law_174 : decode cL_law 174 = .ok (.aload_n 0, 1) := by decide +kernel
theorem dL_law_175 : decode cL_law 175 = .ok (.iload_n 3, 1) := by decide +kernel
theorem dL_law_176 : decode cL_law 176 = .ok (.iconst 1, 1) := by decide +kernel
theorem dL_law_177 : decode cL_law 177 = .ok (.iadd, 1) := by decide +kernel
theorem dL_law_178 : decode cL_law 178 = .ok (.iaload, 1) := by decide +kernel
theorem dL_law_179 : decode cL_law 179 = .ok (.aload_n 0, 1) := by decide +kernel
theorem dL_law_180 : decode cL_law 180 = .ok (.iload_n 3, 1) := by decide +kernel
theorem dL_law_181 : decode cL_law 181 = .ok (.iconst 2, 1) := by decide +kernel
theorem dL_law_182 : decode cL_law 182 = .ok (.iadd, 1) := by decide +kernel
theorem dL_law_183 : decode cL_law 183 = .ok (.iaload, 1) := by decide +kernel
theorem dL_law_184 : decode cL_law 184 = .ok (.invokevirtual 18, 3) := by decide +kernel
theorem dL_law_187 : decode cL_law 187 = .ok (.aload_n 2, 1) := by decide +kernel
theorem dL_law_188 : decode cL_law 188 = .ok (.aload_n 0, 1) := by decide +kernel
theorem dL_law_189 : decode cL_law 189 = .ok (.iload_n 3, 1) := by decide +kernel
theorem dL_law_190 : decode cL_law 190 = .ok (.iconst 1, 1) := by decide +kernel
theorem dL_law_191 : decode cL_law 191 = .ok (.iadd, 1) := by decide +kernel
theorem dL_law_192 : decode cL_law 192 = .ok (.iaload, 1) := by decide +kernel
theorem dL_law_193 : decode cL_law 193 = .ok (.aload_n 0, 1) := by decide +kernel
theorem dL_law_194 : decode cL_law 194 = .ok (.iload_n 3, 1) := by decide +kernel
theorem dL_law_195 : decode cL_law 195 = .ok (.iconst 2, 1) := by decide +kernel
theorem dL_law_196 : decode cL_law 196 = .ok (.iadd, 1) := by decide +kernel
theorem dL_law_197 : decode cL_law 197 = .ok (.iaload, 1) := by decide +kernel
theorem dL_law_198 : decode cL_law 198 = .ok (.invokevirtual 21, 3) := by decide +kernel
theorem dL_law_201 : decode cL_law 201 = .ok (.if_icmp .eq 506, 3) := by decide +kernel
theorem dL_law_204 : decode cL_law 204 = .ok (.iconst 0, 1) := by decide +kernel
theorem dL_law_205 : decode cL_law 205 = .ok (.ireturn, 1) := by decide +kernel
theorem dL_law_206 : decode cL_law 206 = .ok (.aload_n 1, 1) := by decide +kernel
theorem dL_law_207 : decode cL_law 207 = .ok (.aload_n 0, 1) := by decide +kernel
theorem dL_law_208 : decode cL_law 208 = .ok (.iload_n 3, 1) := by decide +kernel
theorem dL_law_209 : decode cL_law 209 = .ok (.iconst 1, 1) := by decide +kernel
theorem dL_law_210 : decode cL_law 210 = .ok (.iadd, 1) := by decide +kernel
theorem dL_law_211 : decode cL_law 211 = .ok (.iaload, 1) := by decide +kernel
theorem dL_law_212 : decode cL_law 212 = .ok (.aload_n 0, 1) := by decide +kernel
theorem dL_law_213 : decode cL_law 213 = .ok (.iload_n 3, 1) := by decide +kernel
theorem dL_law_214 : decode cL_law 214 = .ok (.iconst 2, 1) := by decide +kernel
theorem dL_law_215 : decode cL_law 215 = .ok (.iadd, 1) := by decide +kernel
theorem dL_law_216 : decode cL_law 216 = .ok (.iaload, 1) := by decide +kernel
theorem dL_law_217 : decode cL_law 217 = .ok (.ifCond .eq 7, 3) := by decide +kernel
theorem dL_law_220 : decode cL_law 220 = .ok (.iconst 1, 1) := by decide +kernel
theorem dL_law_221 : decode cL_law 221 = .ok (.goto 4, 3) := by decide +kernel
theorem dL_law_224 : decode cL_law 224 = .ok (.iconst 0, 1) := by decide +kernel
theorem dL_law_225 : decode cL_law 225 = .ok (.invokevirtual 22, 3) := by decide +kernel
theorem dL_law_228 : decode cL_law 228 = .ok (.aload_n 2, 1) := by decide +kernel
theorem dL_law_229 : decode cL_law 229 = .ok (.aload_n 0, 1) := by decide +kernel
theorem dL_law_230 : decode cL_law 230 = .ok (.iload_n 3, 1) := by decide +kernel
theorem dL_law_231 : decode cL_law 231 = .ok (.iconst 1, 1) := by decide +kernel
theorem dL_law_232 : decode cL_law 232 = .ok (.iadd, 1) := by decide +kernel
theorem dL_law_233 : decode cL_law 233 = .ok (.iaload, 1) := by decide +kernel
theorem dL_law_234 : decode cL_law 234 = .ok (.aload_n 0, 1) := by decide +kernel
theorem dL_law_235 : decode cL_law 235 = .ok (.iload_n 3, 1) := by decide +kernel
theorem dL_law_236 : decode cL_law 236 = .ok (.iconst 2, 1) := by decide +kernel
theorem dL_law_237 : decode cL_law 237 = .ok (.iadd, 1) := by decide +kernel
theorem dL_law_238 : decode cL_law 238 = .ok (.iaload, 1) := by decide +kernel
theorem dL_law_239 : decode cL_law 239 = .ok (.ifCond .eq 7, 3) := by decide +kernel
theorem dL_law_242 : decode cL_law 242 = .ok (.iconst 1, 1) := by decide +kernel
theorem dL_law_243 : decode cL_law 243 = .ok (.goto 4, 3) := by decide +kernel
theorem dL_law_246 : decode cL_law 246 = .ok (.iconst 0, 1) := by decide +kernel
theorem dL_law_247 : decode cL_law 247 = .ok (.invokevirtual 26, 3) := by decide +kernel
theorem dL_law_250 : decode cL_law 250 = .ok (.if_icmp .eq 457, 3) := by decide +kernel
theorem dL_law_253 : decode cL_law 253 = .ok (.iconst 0, 1) := by decide +kernel
theorem dL_law_254 : decode cL_law 254 = .ok (.ireturn, 1) := by decide +kernel
theorem dL_law_255 : decode cL_law 255 = .ok (.aload_n 1, 1) := by decide +kernel
theorem dL_law_256 : decode cL_law 256 = .ok (.aload_n 0, 1) := by decide +kernel
theorem dL_law_257 : decode cL_law 257 = .ok (.iload_n 3, 1) := by decide +kernel
theorem dL_law_258 : decode cL_law 258 = .ok (.iconst 1, 1) := by decide +kernel
theorem dL_law_259 : decode cL_law 259 = .ok (.iadd, 1) := by decide +kernel
theorem dL_law_260 : decode cL_law 260 = .ok (.iaload, 1) := by decide +kernel
theorem dL_law_261 : decode cL_law 261 = .ok (.invokevirtual 27, 3) := by decide +kernel
theorem dL_law_264 : decode cL_law 264 = .ok (.aload_n 2, 1) := by decide +kernel
theorem dL_law_265 : decode cL_law 265 = .ok (.aload_n 0, 1) := by decide +kernel
theorem dL_law_266 : decode cL_law 266 = .ok (.iload_n 3, 1) := by decide +kernel
theorem dL_law_267 : decode cL_law 267 = .ok (.iconst 1, 1) := by decide +kernel
theorem dL_law_268 : decode cL_law 268 = .ok (.iadd, 1) := by decide +kernel
theorem dL_law_269 : decode cL_law 269 = .ok (.iaload, 1) := by decide +kernel
theorem dL_law_270 : decode cL_law 270 = .ok (.invokevirtual 31, 3) := by decide +kernel
theorem dL_law_273 : decode cL_law 273 = .ok (.if_icmp .eq 434, 3) := by decide +kernel
theorem dL_law_276 : decode cL_law 276 = .ok (.iconst 0, 1) := by decide +kernel
theorem dL_law_277 : decode cL_law 277 = .ok (.ireturn, 1) := by decide +kernel
theorem dL_law_278 : decode cL_law 278 = .ok (.aload_n 1, 1) := by decide +kernel
theorem dL_law_279 : decode cL_law 279 = .ok (.aload_n 0, 1) := by decide +kernel
theorem dL_law_280 : decode cL_law 280 = .ok (.iload_n 3, 1) := by decide +kernel
theorem dL_law_281 : decode cL_law 281 = .ok (.iconst 1, 1) := by decide +kernel
theorem dL_law_282 : decode cL_law 282 = .ok (.iadd, 1) := by decide +kernel
theorem dL_law_283 : decode cL_law 283 = .ok (.iaload, 1) := by decide +kernel
theorem dL_law_284 : decode cL_law 284 = .ok (.invokevirtual 32, 3) := by decide +kernel
theorem dL_law_287 : decode cL_law 287 = .ok (.aload_n 2, 1) := by decide +kernel
theorem dL_law_288 : decode cL_law 288 = .ok (.aload_n 0, 1) := by decide +kernel
theorem dL_law_289 : decode cL_law 289 = .ok (.iload_n 3, 1) := by decide +kernel
theorem dL_law_290 : decode cL_law 290 = .ok (.iconst 1, 1) := by decide +kernel
theorem dL_law_291 : decode cL_law 291 = .ok (.iadd, 1) := by decide +kernel
theorem dL_law_292 : decode cL_law 292 = .ok (.iaload, 1) := by decide +kernel
theorem dL_law_293 : decode cL_law 293 = .ok (.invokevirtual 35, 3) := by decide +kernel
theorem dL_law_296 : decode cL_law 296 = .ok (.if_icmp .eq 411, 3) := by decide +kernel
theorem dL_law_299 : decode cL_law 299 = .ok (.iconst 0, 1) := by decide +kernel
theorem dL_law_300 : decode cL_law 300 = .ok (.ireturn, 1) := by decide +kernel
theorem dL_law_301 : decode cL_law 301 = .ok (.aload_n 1, 1) := by decide +kernel
theorem dL_law_302 : decode cL_law 302 = .ok (.aload_n 0, 1) := by decide +kernel
theorem dL_law_303 : decode cL_law 303 = .ok (.iload_n 3, 1) := by decide +kernel
theorem dL_law_304 : decode cL_law 304 = .ok (.iconst 1, 1) := by decide +kernel
theorem dL_law_305 : decode cL_law 305 = .ok (.iadd, 1) := by decide +kernel
theorem dL_law_306 : decode cL_law 306 = .ok (.iaload, 1) := by decide +kernel
theorem dL_law_307 : decode cL_law 307 = .ok (.invokevirtual 36, 3) := by decide +kernel
theorem dL_law_310 : decode cL_law 310 = .ok (.aload_n 2, 1) := by decide +kernel
theorem dL_law_311 : decode cL_law 311 = .ok (.aload_n 0, 1) := by decide +kernel
theorem dL_law_312 : decode cL_law 312 = .ok (.iload_n 3, 1) := by decide +kernel
theorem dL_law_313 : decode cL_law 313 = .ok (.iconst 1, 1) := by decide +kernel
theorem dL_law_314 : decode cL_law 314 = .ok (.iadd, 1) := by decide +kernel
theorem dL_law_315 : decode cL_law 315 = .ok (.iaload, 1) := by decide +kernel
theorem dL_law_316 : decode cL_law 316 = .ok (.invokevirtual 39, 3) := by decide +kernel
theorem dL_law_319 : decode cL_law 319 = .ok (.if_icmp .eq 388, 3) := by decide +kernel
theorem dL_law_322 : decode cL_law 322 = .ok (.iconst 0, 1) := by decide +kernel
theorem dL_law_323 : decode cL_law 323 = .ok (.ireturn, 1) := by decide +kernel
theorem dL_law_324 : decode cL_law 324 = .ok (.aload_n 1, 1) := by decide +kernel
theorem dL_law_325 : decode cL_law 325 = .ok (.aload_n 0, 1) := by decide +kernel
theorem dL_law_326 : decode cL_law 326 = .ok (.iload_n 3, 1) := by decide +kernel
theorem dL_law_327 : decode cL_law 327 = .ok (.iconst 1, 1) := by decide +kernel
theorem dL_law_328 : decode cL_law 328 = .ok (.iadd, 1) := by decide +kernel
theorem dL_law_329 : decode cL_law 329 = .ok (.iaload, 1) := by decide +kernel
theorem dL_law_330 : decode cL_law 330 = .ok (.invokevirtual 40, 3) := by decide +kernel
theorem dL_law_333 : decode cL_law 333 = .ok (.aload_n 2, 1) := by decide +kernel
theorem dL_law_334 : decode cL_law 334 = .ok (.aload_n 0, 1) := by decide +kernel
theorem dL_law_335 : decode cL_law 335 = .ok (.iload_n 3, 1) := by decide +kernel
theorem dL_law_336 : decode cL_law 336 = .ok (.iconst 1, 1) := by decide +kernel
theorem dL_law_337 : decode cL_law 337 = .ok (.iadd, 1) := by decide +kernel
theorem dL_law_338 : decode cL_law 338 = .ok (.iaload, 1) := by decide +kernel
theorem dL_law_339 : decode cL_law 339 = .ok (.invokevirtual 43, 3) := by decide +kernel
theorem dL_law_342 : decode cL_law 342 = .ok (.if_icmp .eq 365, 3) := by decide +kernel
theorem dL_law_345 : decode cL_law 345 = .ok (.iconst 0, 1) := by decide +kernel
theorem dL_law_346 : decode cL_law 346 = .ok (.ireturn, 1) := by decide +kernel
theorem dL_law_347 : decode cL_law 347 = .ok (.aload_n 1, 1) := by decide +kernel
theorem dL_law_348 : decode cL_law 348 = .ok (.aload_n 0, 1) := by decide +kernel
theorem dL_law_349 : decode cL_law 349 = .ok (.iload_n 3, 1) := by decide +kernel
theorem dL_law_350 : decode cL_law 350 = .ok (.iconst 1, 1) := by decide +kernel
theorem dL_law_351 : decode cL_law 351 = .ok (.iadd, 1) := by decide +kernel
theorem dL_law_352 : decode cL_law 352 = .ok (.iaload, 1) := by decide +kernel
theorem dL_law_353 : decode cL_law 353 = .ok (.invokevirtual 44, 3) := by decide +kernel
theorem dL_law_356 : decode cL_law 356 = .ok (.aload_n 2, 1) := by decide +kernel
theorem dL_law_357 : decode cL_law 357 = .ok (.aload_n 0, 1) := by decide +kernel
theorem dL_law_358 : decode cL_law 358 = .ok (.iload_n 3, 1) := by decide +kernel
theorem dL_law_359 : decode cL_law 359 = .ok (.iconst 1, 1) := by decide +kernel
theorem dL_law_360 : decode cL_law 360 = .ok (.iadd, 1) := by decide +kernel
theorem dL_law_361 : decode cL_law 361 = .ok (.iaload, 1) := by decide +kernel
theorem dL_law_362 : decode cL_law 362 = .ok (.invokevirtual 47, 3) := by decide +kernel
theorem dL_law_365 : decode cL_law 365 = .ok (.if_icmp .eq 342, 3) := by decide +kernel
theorem dL_law_368 : decode cL_law 368 = .ok (.iconst 0, 1) := by decide +kernel
theorem dL_law_369 : decode cL_law 369 = .ok (.ireturn, 1) := by decide +kernel
theorem dL_law_370 : decode cL_law 370 = .ok (.aload_n 1, 1) := by decide +kernel
theorem dL_law_371 : decode cL_law 371 = .ok (.aload_n 0, 1) := by decide +kernel
theorem dL_law_372 : decode cL_law 372 = .ok (.iload_n 3, 1) := by decide +kernel
theorem dL_law_373 : decode cL_law 373 = .ok (.iconst 1, 1) := by decide +kernel
theorem dL_law_374 : decode cL_law 374 = .ok (.iadd, 1) := by decide +kernel
theorem dL_law_375 : decode cL_law 375 = .ok (.iaload, 1) := by decide +kernel
theorem dL_law_376 : decode cL_law 376 = .ok (.i2c, 1) := by decide +kernel
theorem dL_law_377 : decode cL_law 377 = .ok (.invokevirtual 48, 3) := by decide +kernel
theorem dL_law_380 : decode cL_law 380 = .ok (.aload_n 2, 1) := by decide +kernel
theorem dL_law_381 : decode cL_law 381 = .ok (.aload_n 0, 1) := by decide +kernel
theorem dL_law_382 : decode cL_law 382 = .ok (.iload_n 3, 1) := by decide +kernel
theorem dL_law_383 : decode cL_law 383 = .ok (.iconst 1, 1) := by decide +kernel
theorem dL_law_384 : decode cL_law 384 = .ok (.iadd, 1) := by decide +kernel
theorem dL_law_385 : decode cL_law 385 = .ok (.iaload, 1) := by decide +kernel
theorem dL_law_386 : decode cL_law 386 = .ok (.i2c, 1) := by decide +kernel
theorem dL_law_387 : decode cL_law 387 = .ok (.invokevirtual 52, 3) := by decide +kernel
theorem dL_law_390 : decode cL_law 390 = .ok (.if_icmp .eq 317, 3) := by decide +kernel
theorem dL_law_393 : decode cL_law 393 = .ok (.iconst 0, 1) := by decide +kernel
theorem dL_law_394 : decode cL_law 394 = .ok (.ireturn, 1) := by decide +kernel
theorem dL_law_395 : decode cL_law 395 = .ok (.aload_n 1, 1) := by decide +kernel
theorem dL_law_396 : decode cL_law 396 = .ok (.invokevirtual 53, 3) := by decide +kernel
theorem dL_law_399 : decode cL_law 399 = .ok (.aload_n 2, 1) := by decide +kernel
theorem dL_law_400 : decode cL_law 400 = .ok (.invokevirtual 57, 3) := by decide +kernel
theorem dL_law_403 : decode cL_law 403 = .ok (.if_icmp .eq 304, 3) := by decide +kernel
theorem dL_law_406 : decode cL_law 406 = .ok (.iconst 0, 1) := by decide +kernel
theorem dL_law_407 : decode cL_law 407 = .ok (.ireturn, 1) := by decide +kernel
theorem dL_law_408 : decode cL_law 408 = .ok (.aload_n 1, 1) := by decide +kernel
theorem dL_law_409 : decode cL_law 409 = .ok (.invokevirtual 58, 3) := by decide +kernel
theorem dL_law_412 : decode cL_law 412 = .ok (.aload_n 2, 1) := by decide +kernel
theorem dL_law_413 : decode cL_law 413 = .ok (.invokevirtual 61, 3) := by decide +kernel
theorem dL_law_416 : decode cL_law 416 = .ok (.if_icmp .eq 291, 3) := by decide +kernel
theorem dL_law_419 : decode cL_law 419 = .ok (.iconst 0, 1) := by decide +kernel
theorem dL_law_420 : decode cL_law 420 = .ok (.ireturn, 1) := by decide +kernel
theorem dL_law_421 : decode cL_law 421 = .ok (.aload_n 1, 1) := by decide +kernel
theorem dL_law_422 : decode cL_law 422 = .ok (.aload_n 0, 1) := by decide +kernel
theorem dL_law_423 : decode cL_law 423 = .ok (.iload_n 3, 1) := by decide +kernel
theorem dL_law_424 : decode cL_law 424 = .ok (.iconst 1, 1) := by decide +kernel
theorem dL_law_425 : decode cL_law 425 = .ok (.iadd, 1) := by decide +kernel
theorem dL_law_426 : decode cL_law 426 = .ok (.iaload, 1) := by decide +kernel
theorem dL_law_427 : decode cL_law 427 = .ok (.invokevirtual 62, 3) := by decide +kernel
theorem dL_law_430 : decode cL_law 430 = .ok (.aload_n 2, 1) := by decide +kernel
theorem dL_law_431 : decode cL_law 431 = .ok (.aload_n 0, 1) := by decide +kernel
theorem dL_law_432 : decode cL_law 432 = .ok (.iload_n 3, 1) := by decide +kernel
theorem dL_law_433 : decode cL_law 433 = .ok (.iconst 1, 1) := by decide +kernel
theorem dL_law_434 : decode cL_law 434 = .ok (.iadd, 1) := by decide +kernel
theorem dL_law_435 : decode cL_law 435 = .ok (.iaload, 1) := by decide +kernel
theorem dL_law_436 : decode cL_law 436 = .ok (.invokevirtual 65, 3) := by decide +kernel
theorem dL_law_439 : decode cL_law 439 = .ok (.if_icmp .eq 268, 3) := by decide +kernel
theorem dL_law_442 : decode cL_law 442 = .ok (.iconst 0, 1) := by decide +kernel
theorem dL_law_443 : decode cL_law 443 = .ok (.ireturn, 1) := by decide +kernel
theorem dL_law_444 : decode cL_law 444 = .ok (.aload_n 1, 1) := by decide +kernel
theorem dL_law_445 : decode cL_law 445 = .ok (.invokevirtual 66, 3) := by decide +kernel
theorem dL_law_448 : decode cL_law 448 = .ok (.aload_n 2, 1) := by decide +kernel
theorem dL_law_449 : decode cL_law 449 = .ok (.invokevirtual 69, 3) := by decide +kernel
theorem dL_law_452 : decode cL_law 452 = .ok (.if_icmp .eq 255, 3) := by decide +kernel
theorem dL_law_455 : decode cL_law 455 = .ok (.iconst 0, 1) := by decide +kernel
theorem dL_law_456 : decode cL_law 456 = .ok (.ireturn, 1) := by decide +kernel
theorem dL_law_457 : decode cL_law 457 = .ok (.aload_n 1, 1) := by decide +kernel
theorem dL_law_458 : decode cL_law 458 = .ok (.invokevirtual 70, 3) := by decide +kernel
theorem dL_law_461 : decode cL_law 461 = .ok (.aload_n 2, 1) := by decide +kernel
theorem dL_law_462 : decode cL_law 462 = .ok (.invokevirtual 73, 3) := by decide +kernel
theorem dL_law_465 : decode cL_law 465 = .ok (.if_icmp .eq 242, 3) := by decide +kernel
theorem dL_law_468 : decode cL_law 468 = .ok (.iconst 0, 1) := by decide +kernel
theorem dL_law_469 : decode cL_law 469 = .ok (.ireturn, 1) := by decide +kernel
theorem dL_law_470 : decode cL_law 470 = .ok (.aload_n 1, 1) := by decide +kernel
theorem dL_law_471 : decode cL_law 471 = .ok (.invokevirtual 74, 3) := by decide +kernel
theorem dL_law_474 : decode cL_law 474 = .ok (.aload_n 2, 1) := by decide +kernel
theorem dL_law_475 : decode cL_law 475 = .ok (.invokevirtual 77, 3) := by decide +kernel
theorem dL_law_478 : decode cL_law 478 = .ok (.if_icmp .eq 229, 3) := by decide +kernel
theorem dL_law_481 : decode cL_law 481 = .ok (.iconst 0, 1) := by decide +kernel
theorem dL_law_482 : decode cL_law 482 = .ok (.ireturn, 1) := by decide +kernel
theorem dL_law_483 : decode cL_law 483 = .ok (.aload_n 1, 1) := by decide +kernel
theorem dL_law_484 : decode cL_law 484 = .ok (.aload_n 0, 1) := by decide +kernel
theorem dL_law_485 : decode cL_law 485 = .ok (.iload_n 3, 1) := by decide +kernel
theorem dL_law_486 : decode cL_law 486 = .ok (.iconst 1, 1) := by decide +kernel
theorem dL_law_487 : decode cL_law 487 = .ok (.iadd, 1) := by decide +kernel
theorem dL_law_488 : decode cL_law 488 = .ok (.iaload, 1) := by decide +kernel
theorem dL_law_489 : decode cL_law 489 = .ok (.aload_n 0, 1) := by decide +kernel
theorem dL_law_490 : decode cL_law 490 = .ok (.iload_n 3, 1) := by decide +kernel
theorem dL_law_491 : decode cL_law 491 = .ok (.iconst 2, 1) := by decide +kernel
theorem dL_law_492 : decode cL_law 492 = .ok (.iadd, 1) := by decide +kernel
theorem dL_law_493 : decode cL_law 493 = .ok (.iaload, 1) := by decide +kernel
theorem dL_law_494 : decode cL_law 494 = .ok (.invokevirtual 78, 3) := by decide +kernel
theorem dL_law_497 : decode cL_law 497 = .ok (.aload_n 2, 1) := by decide +kernel
theorem dL_law_498 : decode cL_law 498 = .ok (.aload_n 0, 1) := by decide +kernel
theorem dL_law_499 : decode cL_law 499 = .ok (.iload_n 3, 1) := by decide +kernel
theorem dL_law_500 : decode cL_law 500 = .ok (.iconst 1, 1) := by decide +kernel
theorem dL_law_501 : decode cL_law 501 = .ok (.iadd, 1) := by decide +kernel
theorem dL_law_502 : decode cL_law 502 = .ok (.iaload, 1) := by decide +kernel
theorem dL_law_503 : decode cL_law 503 = .ok (.aload_n 0, 1) := by decide +kernel
theorem dL_law_504 : decode cL_law 504 = .ok (.iload_n 3, 1) := by decide +kernel
theorem dL_law_505 : decode cL_law 505 = .ok (.iconst 2, 1) := by decide +kernel
theorem dL_law_506 : decode cL_law 506 = .ok (.iadd, 1) := by decide +kernel
theorem dL_law_507 : decode cL_law 507 = .ok (.iaload, 1) := by decide +kernel
theorem dL_law_508 : decode cL_law 508 = .ok (.invokevirtual 81, 3) := by decide +kernel
theorem dL_law_511 : decode cL_law 511 = .ok (.if_icmp .eq 196, 3) := by decide +kernel
theorem dL_law_514 : decode cL_law 514 = .ok (.iconst 0, 1) := by decide +kernel
theorem dL_law_515 : decode cL_law 515 = .ok (.ireturn, 1) := by decide +kernel
theorem dL_law_516 : decode cL_law 516 = .ok (.aload_n 1, 1) := by decide +kernel
theorem dL_law_517 : decode cL_law 517 = .ok (.aload_n 0, 1) := by decide +kernel
theorem dL_law_518 : decode cL_law 518 = .ok (.iload_n 3, 1) := by decide +kernel
theorem dL_law_519 : decode cL_law 519 = .ok (.iconst 1, 1) := by decide +kernel
theorem dL_law_520 : decode cL_law 520 = .ok (.iadd, 1) := by decide +kernel
theorem dL_law_521 : decode cL_law 521 = .ok (.iaload, 1) := by decide +kernel
theorem dL_law_522 : decode cL_law 522 = .ok (.aload_n 0, 1) := by decide +kernel
theorem dL_law_523 : decode cL_law 523 = .ok (.iload_n 3, 1) := by decide +kernel
theorem dL_law_524 : decode cL_law 524 = .ok (.iconst 2, 1) := by decide +kernel
theorem dL_law_525 : decode cL_law 525 = .ok (.iadd, 1) := by decide +kernel
theorem dL_law_526 : decode cL_law 526 = .ok (.iaload, 1) := by decide +kernel
theorem dL_law_527 : decode cL_law 527 = .ok (.invokevirtual 82, 3) := by decide +kernel
theorem dL_law_530 : decode cL_law 530 = .ok (.aload_n 2, 1) := by decide +kernel
theorem dL_law_531 : decode cL_law 531 = .ok (.aload_n 0, 1) := by decide +kernel
theorem dL_law_532 : decode cL_law 532 = .ok (.iload_n 3, 1) := by decide +kernel
theorem dL_law_533 : decode cL_law 533 = .ok (.iconst 1, 1) := by decide +kernel
theorem dL_law_534 : decode cL_law 534 = .ok (.iadd, 1) := by decide +kernel
theorem dL_law_535 : decode cL_law 535 = .ok (.iaload, 1) := by decide +kernel
theorem dL_law_536 : decode cL_law 536 = .ok (.aload_n 0, 1) := by decide +kernel
theorem dL_law_537 : decode cL_law 537 = .ok (.iload_n 3, 1) := by decide +kernel
theorem dL_law_538 : decode cL_law 538 = .ok (.iconst 2, 1) := by decide +kernel
theorem dL_law_539 : decode cL_law 539 = .ok (.iadd, 1) := by decide +kernel
theorem dL_law_540 : decode cL_law 540 = .ok (.iaload, 1) := by decide +kernel
theorem dL_law_541 : decode cL_law 541 = .ok (.invokevirtual 85, 3) := by decide +kernel
theorem dL_law_544 : decode cL_law 544 = .ok (.if_icmp .eq 163, 3) := by decide +kernel
theorem dL_law_547 : decode cL_law 547 = .ok (.iconst 0, 1) := by decide +kernel
theorem dL_law_548 : decode cL_law 548 = .ok (.ireturn, 1) := by decide +kernel
theorem dL_law_549 : decode cL_law 549 = .ok (.aload_n 1, 1) := by decide +kernel
theorem dL_law_550 : decode cL_law 550 = .ok (.aload_n 0, 1) := by decide +kernel
theorem dL_law_551 : decode cL_law 551 = .ok (.iload_n 3, 1) := by decide +kernel
theorem dL_law_552 : decode cL_law 552 = .ok (.iconst 1, 1) := by decide +kernel
theorem dL_law_553 : decode cL_law 553 = .ok (.iadd, 1) := by decide +kernel
theorem dL_law_554 : decode cL_law 554 = .ok (.iaload, 1) := by decide +kernel
theorem dL_law_555 : decode cL_law 555 = .ok (.aload_n 0, 1) := by decide +kernel
theorem dL_law_556 : decode cL_law 556 = .ok (.iload_n 3, 1) := by decide +kernel
theorem dL_law_557 : decode cL_law 557 = .ok (.iconst 2, 1) := by decide +kernel
theorem dL_law_558 : decode cL_law 558 = .ok (.iadd, 1) := by decide +kernel
theorem dL_law_559 : decode cL_law 559 = .ok (.iaload, 1) := by decide +kernel
theorem dL_law_560 : decode cL_law 560 = .ok (.aload_n 0, 1) := by decide +kernel
theorem dL_law_561 : decode cL_law 561 = .ok (.iload_n 3, 1) := by decide +kernel
theorem dL_law_562 : decode cL_law 562 = .ok (.iconst 3, 1) := by decide +kernel
theorem dL_law_563 : decode cL_law 563 = .ok (.iadd, 1) := by decide +kernel
theorem dL_law_564 : decode cL_law 564 = .ok (.iaload, 1) := by decide +kernel
theorem dL_law_565 : decode cL_law 565 = .ok (.invokevirtual 86, 3) := by decide +kernel
theorem dL_law_568 : decode cL_law 568 = .ok (.aload_n 2, 1) := by decide +kernel
theorem dL_law_569 : decode cL_law 569 = .ok (.aload_n 0, 1) := by decide +kernel
theorem dL_law_570 : decode cL_law 570 = .ok (.iload_n 3, 1) := by decide +kernel
theorem dL_law_571 : decode cL_law 571 = .ok (.iconst 1, 1) := by decide +kernel
theorem dL_law_572 : decode cL_law 572 = .ok (.iadd, 1) := by decide +kernel
theorem dL_law_573 : decode cL_law 573 = .ok (.iaload, 1) := by decide +kernel
theorem dL_law_574 : decode cL_law 574 = .ok (.aload_n 0, 1) := by decide +kernel
theorem dL_law_575 : decode cL_law 575 = .ok (.iload_n 3, 1) := by decide +kernel
theorem dL_law_576 : decode cL_law 576 = .ok (.iconst 2, 1) := by decide +kernel
theorem dL_law_577 : decode cL_law 577 = .ok (.iadd, 1) := by decide +kernel
theorem dL_law_578 : decode cL_law 578 = .ok (.iaload, 1) := by decide +kernel
theorem dL_law_579 : decode cL_law 579 = .ok (.aload_n 0, 1) := by decide +kernel
theorem dL_law_580 : decode cL_law 580 = .ok (.iload_n 3, 1) := by decide +kernel
theorem dL_law_581 : decode cL_law 581 = .ok (.iconst 3, 1) := by decide +kernel
theorem dL_law_582 : decode cL_law 582 = .ok (.iadd, 1) := by decide +kernel
theorem dL_law_583 : decode cL_law 583 = .ok (.iaload, 1) := by decide +kernel
theorem dL_law_584 : decode cL_law 584 = .ok (.invokevirtual 90, 3) := by decide +kernel
theorem dL_law_587 : decode cL_law 587 = .ok (.if_icmp .eq 120, 3) := by decide +kernel
theorem dL_law_590 : decode cL_law 590 = .ok (.iconst 0, 1) := by decide +kernel
theorem dL_law_591 : decode cL_law 591 = .ok (.ireturn, 1) := by decide +kernel
theorem dL_law_592 : decode cL_law 592 = .ok (.aload_n 1, 1) := by decide +kernel
theorem dL_law_593 : decode cL_law 593 = .ok (.aload_n 0, 1) := by decide +kernel
theorem dL_law_594 : decode cL_law 594 = .ok (.iload_n 3, 1) := by decide +kernel
theorem dL_law_595 : decode cL_law 595 = .ok (.iconst 1, 1) := by decide +kernel
theorem dL_law_596 : decode cL_law 596 = .ok (.iadd, 1) := by decide +kernel
theorem dL_law_597 : decode cL_law 597 = .ok (.iaload, 1) := by decide +kernel
theorem dL_law_598 : decode cL_law 598 = .ok (.invokevirtual 91, 3) := by decide +kernel
theorem dL_law_601 : decode cL_law 601 = .ok (.aload_n 2, 1) := by decide +kernel
theorem dL_law_602 : decode cL_law 602 = .ok (.aload_n 0, 1) := by decide +kernel
theorem dL_law_603 : decode cL_law 603 = .ok (.iload_n 3, 1) := by decide +kernel
theorem dL_law_604 : decode cL_law 604 = .ok (.iconst 1, 1) := by decide +kernel
theorem dL_law_605 : decode cL_law 605 = .ok (.iadd, 1) := by decide +kernel
theorem dL_law_606 : decode cL_law 606 = .ok (.iaload, 1) := by decide +kernel
theorem dL_law_607 : decode cL_law 607 = .ok (.invokevirtual 94, 3) := by decide +kernel
theorem dL_law_610 : decode cL_law 610 = .ok (.if_icmp .eq 97, 3) := by decide +kernel
theorem dL_law_613 : decode cL_law 613 = .ok (.iconst 0, 1) := by decide +kernel
theorem dL_law_614 : decode cL_law 614 = .ok (.ireturn, 1) := by decide +kernel
theorem dL_law_615 : decode cL_law 615 = .ok (.aload_n 1, 1) := by decide +kernel
theorem dL_law_616 : decode cL_law 616 = .ok (.invokevirtual 95, 3) := by decide +kernel
theorem dL_law_619 : decode cL_law 619 = .ok (.aload_n 2, 1) := by decide +kernel
theorem dL_law_620 : decode cL_law 620 = .ok (.invokevirtual 98, 3) := by decide +kernel
theorem dL_law_623 : decode cL_law 623 = .ok (.if_icmp .eq 84, 3) := by decide +kernel
theorem dL_law_626 : decode cL_law 626 = .ok (.iconst 0, 1) := by decide +kernel
theorem dL_law_627 : decode cL_law 627 = .ok (.ireturn, 1) := by decide +kernel
theorem dL_law_628 : decode cL_law 628 = .ok (.aload_n 1, 1) := by decide +kernel
theorem dL_law_629 : decode cL_law 629 = .ok (.aload_n 0, 1) := by decide +kernel
theorem dL_law_630 : decode cL_law 630 = .ok (.iload_n 3, 1) := by decide +kernel
theorem dL_law_631 : decode cL_law 631 = .ok (.iconst 1, 1) := by decide +kernel
theorem dL_law_632 : decode cL_law 632 = .ok (.iadd, 1) := by decide +kernel
theorem dL_law_633 : decode cL_law 633 = .ok (.iaload, 1) := by decide +kernel
theorem dL_law_634 : decode cL_law 634 = .ok (.aload_n 0, 1) := by decide +kernel
theorem dL_law_635 : decode cL_law 635 = .ok (.iload_n 3, 1) := by decide +kernel
theorem dL_law_636 : decode cL_law 636 = .ok (.iconst 2, 1) := by decide +kernel
theorem dL_law_637 : decode cL_law 637 = .ok (.iadd, 1) := by decide +kernel
theorem dL_law_638 : decode cL_law 638 = .ok (.iaload, 1) := by decide +kernel
theorem dL_law_639 : decode cL_law 639 = .ok (.invokevirtual 99, 3) := by decide +kernel
theorem dL_law_642 : decode cL_law 642 = .ok (.aload_n 2, 1) := by decide +kernel
theorem dL_law_643 : decode cL_law 643 = .ok (.aload_n 0, 1) := by decide +kernel
theorem dL_law_644 : decode cL_law 644 = .ok (.iload_n 3, 1) := by decide +kernel
theorem dL_law_645 : decode cL_law 645 = .ok (.iconst 1, 1) := by decide +kernel
theorem dL_law_646 : decode cL_law 646 = .ok (.iadd, 1) := by decide +kernel
theorem dL_law_647 : decode cL_law 647 = .ok (.iaload, 1) := by decide +kernel
theorem dL_law_648 : decode cL_law 648 = .ok (.aload_n 0, 1) := by decide +kernel
theorem dL_law_649 : decode cL_law 649 = .ok (.iload_n 3, 1) := by decide +kernel
theorem dL_law_650 : decode cL_law 650 = .ok (.iconst 2, 1) := by decide +kernel
theorem dL_law_651 : decode cL_law 651 = .ok (.iadd, 1) := by decide +kernel
theorem dL_law_652 : decode cL_law 652 = .ok (.iaload, 1) := by decide +kernel
theorem dL_law_653 : decode cL_law 653 = .ok (.invokevirtual 102, 3) := by decide +kernel
theorem dL_law_656 : decode cL_law 656 = .ok (.if_icmp .eq 51, 3) := by decide +kernel
theorem dL_law_659 : decode cL_law 659 = .ok (.iconst 0, 1) := by decide +kernel
theorem dL_law_660 : decode cL_law 660 = .ok (.ireturn, 1) := by decide +kernel
theorem dL_law_661 : decode cL_law 661 = .ok (.aload_n 1, 1) := by decide +kernel
theorem dL_law_662 : decode cL_law 662 = .ok (.aload_n 0, 1) := by decide +kernel
theorem dL_law_663 : decode cL_law 663 = .ok (.iload_n 3, 1) := by decide +kernel
theorem dL_law_664 : decode cL_law 664 = .ok (.iconst 1, 1) := by decide +kernel
theorem dL_law_665 : decode cL_law 665 = .ok (.iadd, 1) := by decide +kernel
theorem dL_law_666 : decode cL_law 666 = .ok (.iaload, 1) := by decide +kernel
theorem dL_law_667 : decode cL_law 667 = .ok (.invokevirtual 103, 3) := by decide +kernel
theorem dL_law_670 : decode cL_law 670 = .ok (.aload_n 2, 1) := by decide +kernel
theorem dL_law_671 : decode cL_law 671 = .ok (.aload_n 0, 1) := by decide +kernel
theorem dL_law_672 : decode cL_law 672 = .ok (.iload_n 3, 1) := by decide +kernel
theorem dL_law_673 : decode cL_law 673 = .ok (.iconst 1, 1) := by decide +kernel
theorem dL_law_674 : decode cL_law 674 = .ok (.iadd, 1) := by decide +kernel
theorem dL_law_675 : decode cL_law 675 = .ok (.iaload, 1) := by decide +kernel
theorem dL_law_676 : decode cL_law 676 = .ok (.invokevirtual 106, 3) := by decide +kernel
theorem dL_law_679 : decode cL_law 679 = .ok (.if_icmp .eq 28, 3) := by decide +kernel
theorem dL_law_682 : decode cL_law 682 = .ok (.iconst 0, 1) := by decide +kernel
theorem dL_law_683 : decode cL_law 683 = .ok (.ireturn, 1) := by decide +kernel
theorem dL_law_684 : decode cL_law 684 = .ok (.aload_n 1, 1) := by decide +kernel
theorem dL_law_685 : decode cL_law 685 = .ok (.aload_n 0, 1) := by decide +kernel
theorem dL_law_686 : decode cL_law 686 = .ok (.iload_n 3, 1) := by decide +kernel
theorem dL_law_687 : decode cL_law 687 = .ok (.iconst 1, 1) := by decide +kernel
theorem dL_law_688 : decode cL_law 688 = .ok (.iadd, 1) := by decide +kernel
theorem dL_law_689 : decode cL_law 689 = .ok (.iaload, 1) := by decide +kernel
theorem dL_law_690 : decode cL_law 690 = .ok (.invokevirtual 107, 3) := by decide +kernel
theorem dL_law_693 : decode cL_law 693 = .ok (.aload_n 2, 1) := by decide +kernel
theorem dL_law_694 : decode cL_law 694 = .ok (.aload_n 0, 1) := by decide +kernel
theorem dL_law_695 : decode cL_law 695 = .ok (.iload_n 3, 1) := by decide +kernel
theorem dL_law_696 : decode cL_law 696 = .ok (.iconst 1, 1) := by decide +kernel
theorem dL_law_697 : decode cL_law 697 = .ok (.iadd, 1) := by decide +kernel
theorem dL_law_698 : decode cL_law 698 = .ok (.iaload, 1) := by decide +kernel
theorem dL_law_699 : decode cL_law 699 = .ok (.invokevirtual 110, 3) := by decide +kernel
theorem dL_law_702 : decode cL_law 702 = .ok (.if_icmp .eq 5, 3) := by decide +kernel
theorem dL_law_705 : decode cL_law 705 = .ok (.iconst 0, 1) := by decide +kernel
theorem dL_law_706 : decode cL_law 706 = .ok (.ireturn, 1) := by decide +kernel
theorem dL_law_707 : decode cL_law 707 = .ok (.iinc 3 4, 3) := by decide +kernel
theorem dL_law_710 : decode cL_law 710 = .ok (.goto (-692), 3) := by decide +kernel
theorem dL_law_713 : decode cL_law 713 = .ok (.iconst 1, 1) := by decide +kernel
theorem dL_law_714 : decode cL_law 714 = .ok (.ireturn, 1) := by decide +kernel
end
section
theorem k_ini_RL : Cond.initialized RL ∈ lw_tbl := List.mem_of_getElem? (i := 14) (by decide +kernel)
theorem k_ini_RX5 : Cond.initialized RX5 ∈ lw_tbl := List.mem_of_getElem? (i := 15) (by decide +kernel)
theorem k_ini_RX4 : Cond.initialized RX4 ∈ lw_tbl := List.mem_of_getElem? (i := 16) (by decide +kernel)
theorem k_ini_RX0 : Cond.initialized RX0 ∈ lw_tbl := List.mem_of_getElem? (i := 17) (by decide +kernel)
theorem k_ini_RX1 : Cond.initialized RX1 ∈ lw_tbl := List.mem_of_getElem? (i := 18) (by decide +kernel)
theorem k_ini_System : Cond.initialized "java/lang/System" ∈ lw_tbl := List.mem_of_getElem? (i := 19) (by decide +kernel)
theorem k_ini_RX2 : Cond.initialized RX2 ∈ lw_tbl := List.mem_of_getElem? (i := 20) (by decide +kernel)
theorem k_ini_RX3 : Cond.initialized RX3 ∈ lw_tbl := List.mem_of_getElem? (i := 21) (by decide +kernel)
theorem k_ini_RX6 : Cond.initialized RX6 ∈ lw_tbl := List.mem_of_getElem? (i := 22) (by decide +kernel)
theorem k_ini_Math : Cond.initialized "java/lang/Math" ∈ lw_tbl := List.mem_of_getElem? (i := 23) (by decide +kernel)
theorem k_cl_RL_7 : Cond.classLink RL 7 RX5 ∈ lw_tbl := List.mem_of_getElem? (i := 24) (by decide +kernel)
theorem k_new_RX5 : Cond.instantiable RX5 11 ∈ lw_tbl := List.mem_of_getElem? (i := 25) (by decide +kernel)
theorem k_ml_RL_9 : Cond.methodLink RL 9 yX5_init ∈ lw_tbl := List.mem_of_getElem? (i := 26) (by decide +kernel)
theorem k_inst_yX5_init : Cond.instanceMethod yX5_init ∈ lw_tbl := List.mem_of_getElem? (i := 27) (by decide +kernel)
theorem k_code_yX5_init : Cond.code yX5_init prog_1_method_1_code 1 none ∈ lw_tbl := List.mem_of_getElem? (i := 28) (by decide +kernel)
theorem k_ml_RX5_1 : Cond.methodLink RX5 1 objectInit ∈ lw_tbl := List.mem_of_getElem? (i := 29) (by decide +kernel)
theorem k_inst_objectInit : Cond.instanceMethod objectInit ∈ lw_tbl := List.mem_of_getElem? (i := 30) (by decide +kernel)
theorem k_code_objectInit : Cond.code objectInit object_method_1_code 1 none ∈ lw_tbl := List.mem_of_getElem? (i := 31) (by decide +kernel)
theorem k_cl_RX5_7 : Cond.classLink RX5 7 RX4 ∈ lw_tbl := List.mem_of_getElem? (i := 32) (by decide +kernel)
theorem k_new_RX4 : Cond.instantiable RX4 18 ∈ lw_tbl := List.mem_of_getElem? (i := 33) (by decide +kernel)
theorem k_ml_RX5_9 : Cond.methodLink RX5 9 yX4_init ∈ lw_tbl := List.mem_of_getElem? (i := 34) (by decide +kernel)
theorem k_inst_yX4_init : Cond.instanceMethod yX4_init ∈ lw_tbl := List.mem_of_getElem? (i := 35) (by decide +kernel)
theorem k_code_yX4_init : Cond.code yX4_init prog_6_method_1_code 2 none ∈ lw_tbl := List.mem_of_getElem? (i := 36) (by decide +kernel)
theorem k_ml_RX4_3 : Cond.methodLink RX4 3 objectInit ∈ lw_tbl := List.mem_of_getElem? (i := 37) (by decide +kernel)
theorem k_cl_RX4_46 : Cond.classLink RX4 46 RX0 ∈ lw_tbl := List.mem_of_getElem? (i := 38) (by decide +kernel)
theorem k_new_RX0 : Cond.instantiable RX0 2 ∈ lw_tbl := List.mem_of_getElem? (i := 39) (by decide +kernel)
theorem k_mn_RX4_48 : Cond.methodLinkNest RX4 48 yX0_init "WeakenedPages" ∈ lw_tbl := List.mem_of_getElem? (i := 40) (by decide +kernel)
theorem k_inst_yX0_init : Cond.instanceMethod yX0_init ∈ lw_tbl := List.mem_of_getElem? (i := 41) (by decide +kernel)
theorem k_code_yX0_init : Cond.code yX0_init prog_2_method_1_code 1 none ∈ lw_tbl := List.mem_of_getElem? (i := 42) (by decide +kernel)
theorem k_ml_RX0_3 : Cond.methodLink RX0 3 objectInit ∈ lw_tbl := List.mem_of_getElem? (i := 43) (by decide +kernel)
theorem k_fl_RX0_9 : Cond.fieldLink RX0 9 (TX0 0).1 (TX0 0).2.1 (TX0 0).2.2.1 ∈ lw_tbl := List.mem_of_getElem? (i := 44) (by decide +kernel)
theorem k_fl_RX0_15 : Cond.fieldLink RX0 15 (TX0 1).1 (TX0 1).2.1 (TX0 1).2.2.1 ∈ lw_tbl := List.mem_of_getElem? (i := 45) (by decide +kernel)
theorem k_fl_RX5_245 : Cond.fieldLink RX5 245 (TX0 1).1 (TX0 1).2.1 (TX0 1).2.2.1 ∈ lw_tbl := List.mem_of_getElem? (i := 46) (by decide +kernel)
theorem k_arr_int : Cond.arrayClass .int ∈ lw_tbl := List.mem_of_getElem? (i := 52) (by decide +kernel)
theorem k_arr_boolean : Cond.arrayClass .boolean ∈ lw_tbl := List.mem_of_getElem? (i := 53) (by decide +kernel)
theorem k_cl_RX4_53 : Cond.classLink RX4 53 RX1 ∈ lw_tbl := List.mem_of_getElem? (i := 54) (by decide +kernel)
theorem k_new_RX1 : Cond.instantiable RX1 4 ∈ lw_tbl := List.mem_of_getElem? (i := 55) (by decide +kernel)
theorem k_mn_RX4_55 : Cond.methodLinkNest RX4 55 yX1_init "WeakenedPages" ∈ lw_tbl := List.mem_of_getElem? (i := 56) (by decide +kernel)
theorem k_inst_yX1_init : Cond.instanceMethod yX1_init ∈ lw_tbl := List.mem_of_getElem? (i := 57) (by decide +kernel)
theorem k_code_yX1_init : Cond.code yX1_init prog_3_method_1_code 1 none ∈ lw_tbl := List.mem_of_getElem? (i := 58) (by decide +kernel)
theorem k_ml_RX1_3 : Cond.methodLink RX1 3 objectInit ∈ lw_tbl := List.mem_of_getElem? (i := 59) (by decide +kernel)
theorem k_fl_RX1_9 : Cond.fieldLink RX1 9 (TX1 0).1 (TX1 0).2.1 (TX1 0).2.2.1 ∈ lw_tbl := List.mem_of_getElem? (i := 60) (by decide +kernel)
theorem k_fl_RX5_220 : Cond.fieldLink RX5 220 (TX1 0).1 (TX1 0).2.1 (TX1 0).2.2.1 ∈ lw_tbl := List.mem_of_getElem? (i := 61) (by decide +kernel)
theorem k_fl_RX1_15 : Cond.fieldLink RX1 15 (TX1 1).1 (TX1 1).2.1 (TX1 1).2.2.1 ∈ lw_tbl := List.mem_of_getElem? (i := 62) (by decide +kernel)
theorem k_fl_RX5_223 : Cond.fieldLink RX5 223 (TX1 1).1 (TX1 1).2.1 (TX1 1).2.2.1 ∈ lw_tbl := List.mem_of_getElem? (i := 63) (by decide +kernel)
theorem k_fl_RX1_18 : Cond.fieldLink RX1 18 (TX1 2).1 (TX1 2).2.1 (TX1 2).2.2.1 ∈ lw_tbl := List.mem_of_getElem? (i := 64) (by decide +kernel)
theorem k_fl_RX5_226 : Cond.fieldLink RX5 226 (TX1 2).1 (TX1 2).2.1 (TX1 2).2.2.1 ∈ lw_tbl := List.mem_of_getElem? (i := 65) (by decide +kernel)
theorem k_fl_RX1_21 : Cond.fieldLink RX1 21 (TX1 3).1 (TX1 3).2.1 (TX1 3).2.2.1 ∈ lw_tbl := List.mem_of_getElem? (i := 66) (by decide +kernel)
theorem k_fl_RX5_215 : Cond.fieldLink RX5 215 (TX1 3).1 (TX1 3).2.1 (TX1 3).2.2.1 ∈ lw_tbl := List.mem_of_getElem? (i := 67) (by decide +kernel)
theorem k_fn_RX4_76 : Cond.fieldLinkNest RX4 76 "WeakenedPages" "FIRST_KINDS" "[I" "WeakenedPages" ∈ lw_tbl := List.mem_of_getElem? (i := 77) (by decide +kernel)
theorem k_ls_FIRST_KINDS : Cond.laysStatic "WeakenedPages" "FIRST_KINDS" "[I" ∈ lw_tbl := List.mem_of_getElem? (i := 78) (by decide +kernel)
theorem k_ml_RX4_79 : Cond.methodLink RX4 79 arraycopyName ∈ lw_tbl := List.mem_of_getElem? (i := 79) (by decide +kernel)
theorem k_stat_arraycopyName : Cond.static arraycopyName ∈ lw_tbl := List.mem_of_getElem? (i := 80) (by decide +kernel)
theorem k_nati_arraycopyName : Cond.native arraycopyName ∈ lw_tbl := List.mem_of_getElem? (i := 81) (by decide +kernel)
theorem k_fn_RX4_85 : Cond.fieldLinkNest RX4 85 "WeakenedPages" "FIRST_SETTINGS" "[I" "WeakenedPages" ∈ lw_tbl := List.mem_of_getElem? (i := 82) (by decide +kernel)
theorem k_ls_FIRST_SETTINGS : Cond.laysStatic "WeakenedPages" "FIRST_SETTINGS" "[I" ∈ lw_tbl := List.mem_of_getElem? (i := 83) (by decide +kernel)
theorem k_fl_RX4_9 : Cond.fieldLink RX4 9 (TX4 0).1 (TX4 0).2.1 (TX4 0).2.2.1 ∈ lw_tbl := List.mem_of_getElem? (i := 84) (by decide +kernel)
theorem k_fl_RX5_168 : Cond.fieldLink RX5 168 (TX4 0).1 (TX4 0).2.1 (TX4 0).2.2.1 ∈ lw_tbl := List.mem_of_getElem? (i := 85) (by decide +kernel)
theorem k_fl_RX4_15 : Cond.fieldLink RX4 15 (TX4 1).1 (TX4 1).2.1 (TX4 1).2.2.1 ∈ lw_tbl := List.mem_of_getElem? (i := 86) (by decide +kernel)
theorem k_fl_RX5_171 : Cond.fieldLink RX5 171 (TX4 1).1 (TX4 1).2.1 (TX4 1).2.2.1 ∈ lw_tbl := List.mem_of_getElem? (i := 87) (by decide +kernel)
theorem k_fl_RX4_18 : Cond.fieldLink RX4 18 (TX4 2).1 (TX4 2).2.1 (TX4 2).2.2.1 ∈ lw_tbl := List.mem_of_getElem? (i := 88) (by decide +kernel)
theorem k_fl_RX5_195 : Cond.fieldLink RX5 195 (TX4 2).1 (TX4 2).2.1 (TX4 2).2.2.1 ∈ lw_tbl := List.mem_of_getElem? (i := 89) (by decide +kernel)
theorem k_fl_RX4_22 : Cond.fieldLink RX4 22 (TX4 3).1 (TX4 3).2.1 (TX4 3).2.2.1 ∈ lw_tbl := List.mem_of_getElem? (i := 90) (by decide +kernel)
theorem k_fl_RX5_192 : Cond.fieldLink RX5 192 (TX4 3).1 (TX4 3).2.1 (TX4 3).2.2.1 ∈ lw_tbl := List.mem_of_getElem? (i := 91) (by decide +kernel)
theorem k_fl_RX4_25 : Cond.fieldLink RX4 25 (TX4 4).1 (TX4 4).2.1 (TX4 4).2.2.1 ∈ lw_tbl := List.mem_of_getElem? (i := 92) (by decide +kernel)
theorem k_fl_RX5_180 : Cond.fieldLink RX5 180 (TX4 4).1 (TX4 4).2.1 (TX4 4).2.2.1 ∈ lw_tbl := List.mem_of_getElem? (i := 93) (by decide +kernel)
theorem k_fl_RX4_28 : Cond.fieldLink RX4 28 (TX4 5).1 (TX4 5).2.1 (TX4 5).2.2.1 ∈ lw_tbl := List.mem_of_getElem? (i := 94) (by decide +kernel)
theorem k_fl_RX5_199 : Cond.fieldLink RX5 199 (TX4 5).1 (TX4 5).2.1 (TX4 5).2.2.1 ∈ lw_tbl := List.mem_of_getElem? (i := 95) (by decide +kernel)
theorem k_fl_RX4_31 : Cond.fieldLink RX4 31 (TX4 6).1 (TX4 6).2.1 (TX4 6).2.2.1 ∈ lw_tbl := List.mem_of_getElem? (i := 96) (by decide +kernel)
theorem k_fl_RX5_156 : Cond.fieldLink RX5 156 (TX4 6).1 (TX4 6).2.1 (TX4 6).2.2.1 ∈ lw_tbl := List.mem_of_getElem? (i := 97) (by decide +kernel)
theorem k_fl_RX4_34 : Cond.fieldLink RX4 34 (TX4 7).1 (TX4 7).2.1 (TX4 7).2.2.1 ∈ lw_tbl := List.mem_of_getElem? (i := 98) (by decide +kernel)
theorem k_fl_RX5_159 : Cond.fieldLink RX5 159 (TX4 7).1 (TX4 7).2.1 (TX4 7).2.2.1 ∈ lw_tbl := List.mem_of_getElem? (i := 99) (by decide +kernel)
theorem k_fl_RX4_37 : Cond.fieldLink RX4 37 (TX4 8).1 (TX4 8).2.1 (TX4 8).2.2.1 ∈ lw_tbl := List.mem_of_getElem? (i := 100) (by decide +kernel)
theorem k_fl_RX5_153 : Cond.fieldLink RX5 153 (TX4 8).1 (TX4 8).2.1 (TX4 8).2.2.1 ∈ lw_tbl := List.mem_of_getElem? (i := 101) (by decide +kernel)
theorem k_fl_RX4_40 : Cond.fieldLink RX4 40 (TX4 9).1 (TX4 9).2.1 (TX4 9).2.2.1 ∈ lw_tbl := List.mem_of_getElem? (i := 102) (by decide +kernel)
theorem k_fl_RX5_146 : Cond.fieldLink RX5 146 (TX4 9).1 (TX4 9).2.1 (TX4 9).2.2.1 ∈ lw_tbl := List.mem_of_getElem? (i := 103) (by decide +kernel)
theorem k_fl_RX4_43 : Cond.fieldLink RX4 43 (TX4 10).1 (TX4 10).2.1 (TX4 10).2.2.1 ∈ lw_tbl := List.mem_of_getElem? (i := 104) (by decide +kernel)
theorem k_fl_RX5_255 : Cond.fieldLink RX5 255 (TX4 10).1 (TX4 10).2.1 (TX4 10).2.2.1 ∈ lw_tbl := List.mem_of_getElem? (i := 105) (by decide +kernel)
theorem k_fl_RX4_49 : Cond.fieldLink RX4 49 (TX4 11).1 (TX4 11).2.1 (TX4 11).2.2.1 ∈ lw_tbl := List.mem_of_getElem? (i := 106) (by decide +kernel)
theorem k_fl_RX5_137 : Cond.fieldLink RX5 137 (TX4 11).1 (TX4 11).2.1 (TX4 11).2.2.1 ∈ lw_tbl := List.mem_of_getElem? (i := 107) (by decide +kernel)
theorem k_fl_RX4_56 : Cond.fieldLink RX4 56 (TX4 12).1 (TX4 12).2.1 (TX4 12).2.2.1 ∈ lw_tbl := List.mem_of_getElem? (i := 108) (by decide +kernel)
theorem k_fl_RX5_211 : Cond.fieldLink RX5 211 (TX4 12).1 (TX4 12).2.1 (TX4 12).2.2.1 ∈ lw_tbl := List.mem_of_getElem? (i := 109) (by decide +kernel)
theorem k_fl_RX4_60 : Cond.fieldLink RX4 60 (TX4 13).1 (TX4 13).2.1 (TX4 13).2.2.1 ∈ lw_tbl := List.mem_of_getElem? (i := 110) (by decide +kernel)
theorem k_fl_RX5_233 : Cond.fieldLink RX5 233 (TX4 13).1 (TX4 13).2.1 (TX4 13).2.2.1 ∈ lw_tbl := List.mem_of_getElem? (i := 111) (by decide +kernel)
theorem k_fl_RX4_64 : Cond.fieldLink RX4 64 (TX4 14).1 (TX4 14).2.1 (TX4 14).2.2.1 ∈ lw_tbl := List.mem_of_getElem? (i := 112) (by decide +kernel)
theorem k_fl_RX5_130 : Cond.fieldLink RX5 130 (TX4 14).1 (TX4 14).2.1 (TX4 14).2.2.1 ∈ lw_tbl := List.mem_of_getElem? (i := 113) (by decide +kernel)
theorem k_fl_RX4_67 : Cond.fieldLink RX4 67 (TX4 15).1 (TX4 15).2.1 (TX4 15).2.2.1 ∈ lw_tbl := List.mem_of_getElem? (i := 114) (by decide +kernel)
theorem k_fl_RX5_236 : Cond.fieldLink RX5 236 (TX4 15).1 (TX4 15).2.1 (TX4 15).2.2.1 ∈ lw_tbl := List.mem_of_getElem? (i := 115) (by decide +kernel)
theorem k_fl_RX4_70 : Cond.fieldLink RX4 70 (TX4 16).1 (TX4 16).2.1 (TX4 16).2.2.1 ∈ lw_tbl := List.mem_of_getElem? (i := 116) (by decide +kernel)
theorem k_fl_RX5_239 : Cond.fieldLink RX5 239 (TX4 16).1 (TX4 16).2.1 (TX4 16).2.2.1 ∈ lw_tbl := List.mem_of_getElem? (i := 117) (by decide +kernel)
theorem k_fl_RX4_73 : Cond.fieldLink RX4 73 (TX4 17).1 (TX4 17).2.1 (TX4 17).2.2.1 ∈ lw_tbl := List.mem_of_getElem? (i := 118) (by decide +kernel)
theorem k_fl_RX5_242 : Cond.fieldLink RX5 242 (TX4 17).1 (TX4 17).2.1 (TX4 17).2.2.1 ∈ lw_tbl := List.mem_of_getElem? (i := 119) (by decide +kernel)
theorem k_cl_RX5_29 : Cond.classLink RX5 29 RX2 ∈ lw_tbl := List.mem_of_getElem? (i := 157) (by decide +kernel)
theorem k_new_RX2 : Cond.instantiable RX2 2 ∈ lw_tbl := List.mem_of_getElem? (i := 158) (by decide +kernel)
theorem k_ml_RX5_31 : Cond.methodLink RX5 31 yX2_init ∈ lw_tbl := List.mem_of_getElem? (i := 159) (by decide +kernel)
theorem k_inst_yX2_init : Cond.instanceMethod yX2_init ∈ lw_tbl := List.mem_of_getElem? (i := 160) (by decide +kernel)
theorem k_code_yX2_init : Cond.code yX2_init prog_4_method_1_code 2 none ∈ lw_tbl := List.mem_of_getElem? (i := 161) (by decide +kernel)
theorem k_ml_RX2_3 : Cond.methodLink RX2 3 objectInit ∈ lw_tbl := List.mem_of_getElem? (i := 162) (by decide +kernel)
theorem k_cl_RX2_9 : Cond.classLink RX2 9 RX4 ∈ lw_tbl := List.mem_of_getElem? (i := 163) (by decide +kernel)
theorem k_ao : Cond.arrayOver (.object "WeakenedPages$Store") ∈ lw_tbl := List.mem_of_getElem? (i := 164) (by decide +kernel)
theorem k_ml_RX2_21 : Cond.methodLink RX2 21 yX4_init ∈ lw_tbl := List.mem_of_getElem? (i := 165) (by decide +kernel)
theorem k_fl_RX2_11 : Cond.fieldLink RX2 11 (TX2 0).1 (TX2 0).2.1 (TX2 0).2.2.1 ∈ lw_tbl := List.mem_of_getElem? (i := 166) (by decide +kernel)
theorem k_fl_RX2_17 : Cond.fieldLink RX2 17 (TX2 1).1 (TX2 1).2.1 (TX2 1).2.2.1 ∈ lw_tbl := List.mem_of_getElem? (i := 167) (by decide +kernel)
theorem k_fl_RX5_124 : Cond.fieldLink RX5 124 (TX2 1).1 (TX2 1).2.1 (TX2 1).2.2.1 ∈ lw_tbl := List.mem_of_getElem? (i := 168) (by decide +kernel)
theorem k_cl_RX5_36 : Cond.classLink RX5 36 RX3 ∈ lw_tbl := List.mem_of_getElem? (i := 174) (by decide +kernel)
theorem k_new_RX3 : Cond.instantiable RX3 7 ∈ lw_tbl := List.mem_of_getElem? (i := 175) (by decide +kernel)
theorem k_mn_RX5_38 : Cond.methodLinkNest RX5 38 yX3_init "WeakenedPages" ∈ lw_tbl := List.mem_of_getElem? (i := 176) (by decide +kernel)
theorem k_inst_yX3_init : Cond.instanceMethod yX3_init ∈ lw_tbl := List.mem_of_getElem? (i := 177) (by decide +kernel)
theorem k_code_yX3_init : Cond.code yX3_init prog_5_method_1_code 1 none ∈ lw_tbl := List.mem_of_getElem? (i := 178) (by decide +kernel)
theorem k_ml_RX3_3 : Cond.methodLink RX3 3 objectInit ∈ lw_tbl := List.mem_of_getElem? (i := 179) (by decide +kernel)
theorem k_fl_RX3_9 : Cond.fieldLink RX3 9 (TX3 0).1 (TX3 0).2.1 (TX3 0).2.2.1 ∈ lw_tbl := List.mem_of_getElem? (i := 180) (by decide +kernel)
theorem k_fl_RX3_15 : Cond.fieldLink RX3 15 (TX3 1).1 (TX3 1).2.1 (TX3 1).2.2.1 ∈ lw_tbl := List.mem_of_getElem? (i := 181) (by decide +kernel)
theorem k_fl_RX5_249 : Cond.fieldLink RX5 249 (TX3 1).1 (TX3 1).2.1 (TX3 1).2.2.1 ∈ lw_tbl := List.mem_of_getElem? (i := 182) (by decide +kernel)
theorem k_fl_RX3_19 : Cond.fieldLink RX3 19 (TX3 2).1 (TX3 2).2.1 (TX3 2).2.2.1 ∈ lw_tbl := List.mem_of_getElem? (i := 183) (by decide +kernel)
theorem k_fl_RX3_22 : Cond.fieldLink RX3 22 (TX3 3).1 (TX3 3).2.1 (TX3 3).2.2.1 ∈ lw_tbl := List.mem_of_getElem? (i := 184) (by decide +kernel)
theorem k_fl_RX3_26 : Cond.fieldLink RX3 26 (TX3 4).1 (TX3 4).2.1 (TX3 4).2.2.1 ∈ lw_tbl := List.mem_of_getElem? (i := 185) (by decide +kernel)
theorem k_fl_RX3_29 : Cond.fieldLink RX3 29 (TX3 5).1 (TX3 5).2.1 (TX3 5).2.2.1 ∈ lw_tbl := List.mem_of_getElem? (i := 186) (by decide +kernel)
theorem k_fl_RX5_104 : Cond.fieldLink RX5 104 (TX3 5).1 (TX3 5).2.1 (TX3 5).2.2.1 ∈ lw_tbl := List.mem_of_getElem? (i := 187) (by decide +kernel)
theorem k_fl_RX3_32 : Cond.fieldLink RX3 32 (TX3 6).1 (TX3 6).2.1 (TX3 6).2.2.1 ∈ lw_tbl := List.mem_of_getElem? (i := 188) (by decide +kernel)
theorem k_arr_char : Cond.arrayClass .char ∈ lw_tbl := List.mem_of_getElem? (i := 204) (by decide +kernel)
theorem k_fl_RX5_10 : Cond.fieldLink RX5 10 (TX5 0).1 (TX5 0).2.1 (TX5 0).2.2.1 ∈ lw_tbl := List.mem_of_getElem? (i := 205) (by decide +kernel)
theorem k_fl_RX5_16 : Cond.fieldLink RX5 16 (TX5 1).1 (TX5 1).2.1 (TX5 1).2.2.1 ∈ lw_tbl := List.mem_of_getElem? (i := 206) (by decide +kernel)
theorem k_fl_RX5_19 : Cond.fieldLink RX5 19 (TX5 2).1 (TX5 2).2.1 (TX5 2).2.2.1 ∈ lw_tbl := List.mem_of_getElem? (i := 207) (by decide +kernel)
theorem k_fl_RX5_22 : Cond.fieldLink RX5 22 (TX5 3).1 (TX5 3).2.1 (TX5 3).2.2.1 ∈ lw_tbl := List.mem_of_getElem? (i := 208) (by decide +kernel)
theorem k_fl_RX5_25 : Cond.fieldLink RX5 25 (TX5 4).1 (TX5 4).2.1 (TX5 4).2.2.1 ∈ lw_tbl := List.mem_of_getElem? (i := 209) (by decide +kernel)
theorem k_fl_RX5_32 : Cond.fieldLink RX5 32 (TX5 5).1 (TX5 5).2.1 (TX5 5).2.2.1 ∈ lw_tbl := List.mem_of_getElem? (i := 210) (by decide +kernel)
theorem k_fl_RX5_39 : Cond.fieldLink RX5 39 (TX5 6).1 (TX5 6).2.1 (TX5 6).2.2.1 ∈ lw_tbl := List.mem_of_getElem? (i := 211) (by decide +kernel)
theorem k_fl_RX5_43 : Cond.fieldLink RX5 43 (TX5 7).1 (TX5 7).2.1 (TX5 7).2.2.1 ∈ lw_tbl := List.mem_of_getElem? (i := 212) (by decide +kernel)
theorem k_fl_RX5_46 : Cond.fieldLink RX5 46 (TX5 8).1 (TX5 8).2.1 (TX5 8).2.2.1 ∈ lw_tbl := List.mem_of_getElem? (i := 213) (by decide +kernel)
theorem k_fl_RX5_50 : Cond.fieldLink RX5 50 (TX5 9).1 (TX5 9).2.1 (TX5 9).2.2.1 ∈ lw_tbl := List.mem_of_getElem? (i := 214) (by decide +kernel)
theorem k_fl_RX5_53 : Cond.fieldLink RX5 53 (TX5 10).1 (TX5 10).2.1 (TX5 10).2.2.1 ∈ lw_tbl := List.mem_of_getElem? (i := 215) (by decide +kernel)
theorem k_ml_RL_13 : Cond.methodLink RL 13 yX5_set ∈ lw_tbl := List.mem_of_getElem? (i := 239) (by decide +kernel)
theorem k_inst_yX5_set : Cond.instanceMethod yX5_set ∈ lw_tbl := List.mem_of_getElem? (i := 240) (by decide +kernel)
theorem k_sel_yX5_set : Cond.selects RX5 yX5_set yX5_set ∈ lw_tbl := List.mem_of_getElem? (i := 241) (by decide +kernel)
theorem k_code_yX5_set : Cond.code yX5_set prog_1_method_2_code 3 (some .int) ∈ lw_tbl := List.mem_of_getElem? (i := 242) (by decide +kernel)
theorem k_ml_RX5_56 : Cond.methodLink RX5 56 yX4_copyFrom ∈ lw_tbl := List.mem_of_getElem? (i := 243) (by decide +kernel)
theorem k_inst_yX4_copyFrom : Cond.instanceMethod yX4_copyFrom ∈ lw_tbl := List.mem_of_getElem? (i := 244) (by decide +kernel)
theorem k_sel_yX4_copyFrom : Cond.selects RX4 yX4_copyFrom yX4_copyFrom ∈ lw_tbl := List.mem_of_getElem? (i := 245) (by decide +kernel)
theorem k_code_yX4_copyFrom : Cond.code yX4_copyFrom prog_6_method_2_code 3 none ∈ lw_tbl := List.mem_of_getElem? (i := 246) (by decide +kernel)
theorem k_ml_RX4_88 : Cond.methodLink RX4 88 yX0_copyFrom ∈ lw_tbl := List.mem_of_getElem? (i := 247) (by decide +kernel)
theorem k_inst_yX0_copyFrom : Cond.instanceMethod yX0_copyFrom ∈ lw_tbl := List.mem_of_getElem? (i := 248) (by decide +kernel)
theorem k_sel_yX0_copyFrom : Cond.selects RX0 yX0_copyFrom yX0_copyFrom ∈ lw_tbl := List.mem_of_getElem? (i := 249) (by decide +kernel)
theorem k_code_yX0_copyFrom : Cond.code yX0_copyFrom prog_2_method_2_code 2 none ∈ lw_tbl := List.mem_of_getElem? (i := 250) (by decide +kernel)
theorem k_ml_RX0_19 : Cond.methodLink RX0 19 arraycopyName ∈ lw_tbl := List.mem_of_getElem? (i := 251) (by decide +kernel)
theorem k_ml_RX4_92 : Cond.methodLink RX4 92 yX1_copyFrom ∈ lw_tbl := List.mem_of_getElem? (i := 252) (by decide +kernel)
theorem k_inst_yX1_copyFrom : Cond.instanceMethod yX1_copyFrom ∈ lw_tbl := List.mem_of_getElem? (i := 253) (by decide +kernel)
theorem k_sel_yX1_copyFrom : Cond.selects RX1 yX1_copyFrom yX1_copyFrom ∈ lw_tbl := List.mem_of_getElem? (i := 254) (by decide +kernel)
theorem k_code_yX1_copyFrom : Cond.code yX1_copyFrom prog_3_method_2_code 2 none ∈ lw_tbl := List.mem_of_getElem? (i := 255) (by decide +kernel)
theorem k_ml_RX1_25 : Cond.methodLink RX1 25 arraycopyName ∈ lw_tbl := List.mem_of_getElem? (i := 256) (by decide +kernel)
theorem k_ml_RX5_60 : Cond.methodLink RX5 60 yX4_changeSetting ∈ lw_tbl := List.mem_of_getElem? (i := 257) (by decide +kernel)
theorem k_inst_yX4_changeSetting : Cond.instanceMethod yX4_changeSetting ∈ lw_tbl := List.mem_of_getElem? (i := 258) (by decide +kernel)
theorem k_sel_yX4_changeSetting : Cond.selects RX4 yX4_changeSetting yX4_changeSetting ∈ lw_tbl := List.mem_of_getElem? (i := 259) (by decide +kernel)
theorem k_code_yX4_changeSetting : Cond.code yX4_changeSetting prog_6_method_29_code 4 (some .int) ∈ lw_tbl := List.mem_of_getElem? (i := 260) (by decide +kernel)
theorem k_mn_RX4_179 : Cond.methodLinkNest RX4 179 yX5_isSetting "WeakenedPages" ∈ lw_tbl := List.mem_of_getElem? (i := 261) (by decide +kernel)
theorem k_stat_yX5_isSetting : Cond.static yX5_isSetting ∈ lw_tbl := List.mem_of_getElem? (i := 262) (by decide +kernel)
theorem k_code_yX5_isSetting : Cond.code yX5_isSetting prog_1_method_30_code 1 (some .boolean) ∈ lw_tbl := List.mem_of_getElem? (i := 263) (by decide +kernel)
theorem k_fn_RX4_182 : Cond.fieldLinkNest RX4 182 "WeakenedPages" "LEAST_SETTINGS" "[I" "WeakenedPages" ∈ lw_tbl := List.mem_of_getElem? (i := 264) (by decide +kernel)
theorem k_ls_LEAST_SETTINGS : Cond.laysStatic "WeakenedPages" "LEAST_SETTINGS" "[I" ∈ lw_tbl := List.mem_of_getElem? (i := 265) (by decide +kernel)
theorem k_fn_RX4_185 : Cond.fieldLinkNest RX4 185 "WeakenedPages" "GREATEST_SETTINGS" "[I" "WeakenedPages" ∈ lw_tbl := List.mem_of_getElem? (i := 266) (by decide +kernel)
theorem k_ls_GREATEST_SETTINGS : Cond.laysStatic "WeakenedPages" "GREATEST_SETTINGS" "[I" ∈ lw_tbl := List.mem_of_getElem? (i := 267) (by decide +kernel)
theorem k_ml_RX4_188 : Cond.methodLink RX4 188 yX0_shrinkTo ∈ lw_tbl := List.mem_of_getElem? (i := 268) (by decide +kernel)
theorem k_inst_yX0_shrinkTo : Cond.instanceMethod yX0_shrinkTo ∈ lw_tbl := List.mem_of_getElem? (i := 269) (by decide +kernel)
theorem k_sel_yX0_shrinkTo : Cond.selects RX0 yX0_shrinkTo yX0_shrinkTo ∈ lw_tbl := List.mem_of_getElem? (i := 270) (by decide +kernel)
theorem k_code_yX0_shrinkTo : Cond.code yX0_shrinkTo prog_2_method_6_code 2 none ∈ lw_tbl := List.mem_of_getElem? (i := 271) (by decide +kernel)
theorem k_ml_RX0_29 : Cond.methodLink RX0 29 Lib.Math.min.name ∈ lw_tbl := List.mem_of_getElem? (i := 272) (by decide +kernel)
theorem k_stat_Lib_Math_min_name : Cond.static Lib.Math.min.name ∈ lw_tbl := List.mem_of_getElem? (i := 273) (by decide +kernel)
theorem k_code_Lib_Math_min_name : Cond.code Lib.Math.min.name prog_9_method_69_code 2 (some .int) ∈ lw_tbl := List.mem_of_getElem? (i := 274) (by decide +kernel)
theorem k_ml_RX5_64 : Cond.methodLink RX5 64 yX5_settle ∈ lw_tbl := List.mem_of_getElem? (i := 275) (by decide +kernel)
theorem k_priv_yX5_settle : Cond.privateMethod yX5_settle ∈ lw_tbl := List.mem_of_getElem? (i := 276) (by decide +kernel)
theorem k_inst_yX5_settle : Cond.instanceMethod yX5_settle ∈ lw_tbl := List.mem_of_getElem? (i := 277) (by decide +kernel)
theorem k_code_yX5_settle : Cond.code yX5_settle prog_1_method_10_code 2 (some .int) ∈ lw_tbl := List.mem_of_getElem? (i := 278) (by decide +kernel)
theorem k_ml_RX5_90 : Cond.methodLink RX5 90 yX2_record ∈ lw_tbl := List.mem_of_getElem? (i := 279) (by decide +kernel)
theorem k_inst_yX2_record : Cond.instanceMethod yX2_record ∈ lw_tbl := List.mem_of_getElem? (i := 280) (by decide +kernel)
theorem k_sel_yX2_record : Cond.selects RX2 yX2_record yX2_record ∈ lw_tbl := List.mem_of_getElem? (i := 281) (by decide +kernel)
theorem k_code_yX2_record : Cond.code yX2_record prog_4_method_2_code 4 none ∈ lw_tbl := List.mem_of_getElem? (i := 282) (by decide +kernel)
theorem k_ml_RX2_22 : Cond.methodLink RX2 22 yX4_copyFrom ∈ lw_tbl := List.mem_of_getElem? (i := 283) (by decide +kernel)
theorem k_ml_RX2_26 : Cond.methodLink RX2 26 Lib.Math.min.name ∈ lw_tbl := List.mem_of_getElem? (i := 284) (by decide +kernel)
theorem k_ml_RL_18 : Cond.methodLink RL 18 yX5_setKind ∈ lw_tbl := List.mem_of_getElem? (i := 285) (by decide +kernel)
theorem k_inst_yX5_setKind : Cond.instanceMethod yX5_setKind ∈ lw_tbl := List.mem_of_getElem? (i := 286) (by decide +kernel)
theorem k_sel_yX5_setKind : Cond.selects RX5 yX5_setKind yX5_setKind ∈ lw_tbl := List.mem_of_getElem? (i := 287) (by decide +kernel)
theorem k_code_yX5_setKind : Cond.code yX5_setKind prog_1_method_3_code 3 (some .int) ∈ lw_tbl := List.mem_of_getElem? (i := 288) (by decide +kernel)
theorem k_ml_RX5_68 : Cond.methodLink RX5 68 yX4_changeKind ∈ lw_tbl := List.mem_of_getElem? (i := 289) (by decide +kernel)
theorem k_inst_yX4_changeKind : Cond.instanceMethod yX4_changeKind ∈ lw_tbl := List.mem_of_getElem? (i := 290) (by decide +kernel)
theorem k_sel_yX4_changeKind : Cond.selects RX4 yX4_changeKind yX4_changeKind ∈ lw_tbl := List.mem_of_getElem? (i := 291) (by decide +kernel)
theorem k_code_yX4_changeKind : Cond.code yX4_changeKind prog_6_method_30_code 4 (some .int) ∈ lw_tbl := List.mem_of_getElem? (i := 292) (by decide +kernel)
theorem k_mn_RX4_142 : Cond.methodLinkNest RX4 142 yX5_isBlock "WeakenedPages" ∈ lw_tbl := List.mem_of_getElem? (i := 293) (by decide +kernel)
theorem k_stat_yX5_isBlock : Cond.static yX5_isBlock ∈ lw_tbl := List.mem_of_getElem? (i := 294) (by decide +kernel)
theorem k_code_yX5_isBlock : Cond.code yX5_isBlock prog_1_method_29_code 1 (some .boolean) ∈ lw_tbl := List.mem_of_getElem? (i := 295) (by decide +kernel)
theorem k_ml_RX4_101 : Cond.methodLink RX4 101 yX4_isFree ∈ lw_tbl := List.mem_of_getElem? (i := 296) (by decide +kernel)
theorem k_inst_yX4_isFree : Cond.instanceMethod yX4_isFree ∈ lw_tbl := List.mem_of_getElem? (i := 297) (by decide +kernel)
theorem k_sel_yX4_isFree : Cond.selects RX4 yX4_isFree yX4_isFree ∈ lw_tbl := List.mem_of_getElem? (i := 298) (by decide +kernel)
theorem k_code_yX4_isFree : Cond.code yX4_isFree prog_6_method_4_code 2 (some .boolean) ∈ lw_tbl := List.mem_of_getElem? (i := 299) (by decide +kernel)
theorem k_ml_RL_22 : Cond.methodLink RL 22 yX5_mark ∈ lw_tbl := List.mem_of_getElem? (i := 300) (by decide +kernel)
theorem k_inst_yX5_mark : Cond.instanceMethod yX5_mark ∈ lw_tbl := List.mem_of_getElem? (i := 301) (by decide +kernel)
theorem k_sel_yX5_mark : Cond.selects RX5 yX5_mark yX5_mark ∈ lw_tbl := List.mem_of_getElem? (i := 302) (by decide +kernel)
theorem k_code_yX5_mark : Cond.code yX5_mark prog_1_method_4_code 3 (some .int) ∈ lw_tbl := List.mem_of_getElem? (i := 303) (by decide +kernel)
theorem k_ml_RX5_71 : Cond.methodLink RX5 71 yX4_changeCall ∈ lw_tbl := List.mem_of_getElem? (i := 304) (by decide +kernel)
theorem k_inst_yX4_changeCall : Cond.instanceMethod yX4_changeCall ∈ lw_tbl := List.mem_of_getElem? (i := 305) (by decide +kernel)
theorem k_sel_yX4_changeCall : Cond.selects RX4 yX4_changeCall yX4_changeCall ∈ lw_tbl := List.mem_of_getElem? (i := 306) (by decide +kernel)
theorem k_code_yX4_changeCall : Cond.code yX4_changeCall prog_6_method_31_code 3 (some .int) ∈ lw_tbl := List.mem_of_getElem? (i := 307) (by decide +kernel)
theorem k_ml_RX4_191 : Cond.methodLink RX4 191 yX4_markedBlocks ∈ lw_tbl := List.mem_of_getElem? (i := 308) (by decide +kernel)
theorem k_inst_yX4_markedBlocks : Cond.instanceMethod yX4_markedBlocks ∈ lw_tbl := List.mem_of_getElem? (i := 309) (by decide +kernel)
theorem k_sel_yX4_markedBlocks : Cond.selects RX4 yX4_markedBlocks yX4_markedBlocks ∈ lw_tbl := List.mem_of_getElem? (i := 310) (by decide +kernel)
theorem k_code_yX4_markedBlocks : Cond.code yX4_markedBlocks prog_6_method_14_code 3 (some .int) ∈ lw_tbl := List.mem_of_getElem? (i := 311) (by decide +kernel)
theorem k_ml_RX4_130 : Cond.methodLink RX4 130 yX4_isMarked ∈ lw_tbl := List.mem_of_getElem? (i := 312) (by decide +kernel)
theorem k_inst_yX4_isMarked : Cond.instanceMethod yX4_isMarked ∈ lw_tbl := List.mem_of_getElem? (i := 313) (by decide +kernel)
theorem k_sel_yX4_isMarked : Cond.selects RX4 yX4_isMarked yX4_isMarked ∈ lw_tbl := List.mem_of_getElem? (i := 314) (by decide +kernel)
theorem k_code_yX4_isMarked : Cond.code yX4_isMarked prog_6_method_12_code 2 (some .boolean) ∈ lw_tbl := List.mem_of_getElem? (i := 315) (by decide +kernel)
theorem k_ml_RX4_127 : Cond.methodLink RX4 127 yX4_isOld ∈ lw_tbl := List.mem_of_getElem? (i := 316) (by decide +kernel)
theorem k_inst_yX4_isOld : Cond.instanceMethod yX4_isOld ∈ lw_tbl := List.mem_of_getElem? (i := 317) (by decide +kernel)
theorem k_sel_yX4_isOld : Cond.selects RX4 yX4_isOld yX4_isOld ∈ lw_tbl := List.mem_of_getElem? (i := 318) (by decide +kernel)
theorem k_code_yX4_isOld : Cond.code yX4_isOld prog_6_method_13_code 4 (some .boolean) ∈ lw_tbl := List.mem_of_getElem? (i := 319) (by decide +kernel)
theorem k_ml_RX4_112 : Cond.methodLink RX4 112 yX4_greatestOfPages ∈ lw_tbl := List.mem_of_getElem? (i := 320) (by decide +kernel)
theorem k_inst_yX4_greatestOfPages : Cond.instanceMethod yX4_greatestOfPages ∈ lw_tbl := List.mem_of_getElem? (i := 321) (by decide +kernel)
theorem k_sel_yX4_greatestOfPages : Cond.selects RX4 yX4_greatestOfPages yX4_greatestOfPages ∈ lw_tbl := List.mem_of_getElem? (i := 322) (by decide +kernel)
theorem k_code_yX4_greatestOfPages : Cond.code yX4_greatestOfPages prog_6_method_9_code 5 (some .int) ∈ lw_tbl := List.mem_of_getElem? (i := 323) (by decide +kernel)
theorem k_ml_RX4_115 : Cond.methodLink RX4 115 yX4_bears ∈ lw_tbl := List.mem_of_getElem? (i := 324) (by decide +kernel)
theorem k_inst_yX4_bears : Cond.instanceMethod yX4_bears ∈ lw_tbl := List.mem_of_getElem? (i := 325) (by decide +kernel)
theorem k_sel_yX4_bears : Cond.selects RX4 yX4_bears yX4_bears ∈ lw_tbl := List.mem_of_getElem? (i := 326) (by decide +kernel)
theorem k_code_yX4_bears : Cond.code yX4_bears prog_6_method_3_code 4 (some .int) ∈ lw_tbl := List.mem_of_getElem? (i := 327) (by decide +kernel)
theorem k_fn_RX4_95 : Cond.fieldLinkNest RX4 95 "WeakenedPages" "BEARS_AT_FIRST" "[I" "WeakenedPages" ∈ lw_tbl := List.mem_of_getElem? (i := 328) (by decide +kernel)
theorem k_ls_BEARS_AT_FIRST : Cond.laysStatic "WeakenedPages" "BEARS_AT_FIRST" "[I" ∈ lw_tbl := List.mem_of_getElem? (i := 329) (by decide +kernel)
theorem k_fn_RX4_98 : Cond.fieldLinkNest RX4 98 "WeakenedPages" "LOSS_BY_ERASURE" "[I" "WeakenedPages" ∈ lw_tbl := List.mem_of_getElem? (i := 330) (by decide +kernel)
theorem k_ls_LOSS_BY_ERASURE : Cond.laysStatic "WeakenedPages" "LOSS_BY_ERASURE" "[I" ∈ lw_tbl := List.mem_of_getElem? (i := 331) (by decide +kernel)
theorem k_ml_RL_27 : Cond.methodLink RL 27 yX5_write ∈ lw_tbl := List.mem_of_getElem? (i := 332) (by decide +kernel)
theorem k_inst_yX5_write : Cond.instanceMethod yX5_write ∈ lw_tbl := List.mem_of_getElem? (i := 333) (by decide +kernel)
theorem k_sel_yX5_write : Cond.selects RX5 yX5_write yX5_write ∈ lw_tbl := List.mem_of_getElem? (i := 334) (by decide +kernel)
theorem k_code_yX5_write : Cond.code yX5_write prog_1_method_5_code 2 (some .int) ∈ lw_tbl := List.mem_of_getElem? (i := 335) (by decide +kernel)
theorem k_ml_RX5_75 : Cond.methodLink RX5 75 yX4_writePage ∈ lw_tbl := List.mem_of_getElem? (i := 336) (by decide +kernel)
theorem k_inst_yX4_writePage : Cond.instanceMethod yX4_writePage ∈ lw_tbl := List.mem_of_getElem? (i := 337) (by decide +kernel)
theorem k_sel_yX4_writePage : Cond.selects RX4 yX4_writePage yX4_writePage ∈ lw_tbl := List.mem_of_getElem? (i := 338) (by decide +kernel)
theorem k_code_yX4_writePage : Cond.code yX4_writePage prog_6_method_32_code 3 (some .int) ∈ lw_tbl := List.mem_of_getElem? (i := 339) (by decide +kernel)
theorem k_mn_RX4_105 : Cond.methodLinkNest RX4 105 yX5_isPage "WeakenedPages" ∈ lw_tbl := List.mem_of_getElem? (i := 340) (by decide +kernel)
theorem k_stat_yX5_isPage : Cond.static yX5_isPage ∈ lw_tbl := List.mem_of_getElem? (i := 341) (by decide +kernel)
theorem k_code_yX5_isPage : Cond.code yX5_isPage prog_1_method_28_code 1 (some .boolean) ∈ lw_tbl := List.mem_of_getElem? (i := 342) (by decide +kernel)
theorem k_ml_RX4_149 : Cond.methodLink RX4 149 yX4_blockWithRoom ∈ lw_tbl := List.mem_of_getElem? (i := 343) (by decide +kernel)
theorem k_inst_yX4_blockWithRoom : Cond.instanceMethod yX4_blockWithRoom ∈ lw_tbl := List.mem_of_getElem? (i := 344) (by decide +kernel)
theorem k_sel_yX4_blockWithRoom : Cond.selects RX4 yX4_blockWithRoom yX4_blockWithRoom ∈ lw_tbl := List.mem_of_getElem? (i := 345) (by decide +kernel)
theorem k_code_yX4_blockWithRoom : Cond.code yX4_blockWithRoom prog_6_method_21_code 4 (some .int) ∈ lw_tbl := List.mem_of_getElem? (i := 346) (by decide +kernel)
theorem k_ml_RX4_162 : Cond.methodLink RX4 162 yX4_putInto ∈ lw_tbl := List.mem_of_getElem? (i := 347) (by decide +kernel)
theorem k_inst_yX4_putInto : Cond.instanceMethod yX4_putInto ∈ lw_tbl := List.mem_of_getElem? (i := 348) (by decide +kernel)
theorem k_sel_yX4_putInto : Cond.selects RX4 yX4_putInto yX4_putInto ∈ lw_tbl := List.mem_of_getElem? (i := 349) (by decide +kernel)
theorem k_code_yX4_putInto : Cond.code yX4_putInto prog_6_method_22_code 4 none ∈ lw_tbl := List.mem_of_getElem? (i := 350) (by decide +kernel)
theorem k_ml_RX4_145 : Cond.methodLink RX4 145 yX4_dropPlace ∈ lw_tbl := List.mem_of_getElem? (i := 351) (by decide +kernel)
theorem k_inst_yX4_dropPlace : Cond.instanceMethod yX4_dropPlace ∈ lw_tbl := List.mem_of_getElem? (i := 352) (by decide +kernel)
theorem k_sel_yX4_dropPlace : Cond.selects RX4 yX4_dropPlace yX4_dropPlace ∈ lw_tbl := List.mem_of_getElem? (i := 353) (by decide +kernel)
theorem k_code_yX4_dropPlace : Cond.code yX4_dropPlace prog_6_method_23_code 3 none ∈ lw_tbl := List.mem_of_getElem? (i := 354) (by decide +kernel)
theorem k_ml_RX4_194 : Cond.methodLink RX4 194 yX4_freeBlocks ∈ lw_tbl := List.mem_of_getElem? (i := 355) (by decide +kernel)
theorem k_inst_yX4_freeBlocks : Cond.instanceMethod yX4_freeBlocks ∈ lw_tbl := List.mem_of_getElem? (i := 356) (by decide +kernel)
theorem k_sel_yX4_freeBlocks : Cond.selects RX4 yX4_freeBlocks yX4_freeBlocks ∈ lw_tbl := List.mem_of_getElem? (i := 357) (by decide +kernel)
theorem k_code_yX4_freeBlocks : Cond.code yX4_freeBlocks prog_6_method_5_code 3 (some .int) ∈ lw_tbl := List.mem_of_getElem? (i := 358) (by decide +kernel)
theorem k_ml_RX4_197 : Cond.methodLink RX4 197 yX0_drop ∈ lw_tbl := List.mem_of_getElem? (i := 359) (by decide +kernel)
theorem k_inst_yX0_drop : Cond.instanceMethod yX0_drop ∈ lw_tbl := List.mem_of_getElem? (i := 360) (by decide +kernel)
theorem k_sel_yX0_drop : Cond.selects RX0 yX0_drop yX0_drop ∈ lw_tbl := List.mem_of_getElem? (i := 361) (by decide +kernel)
theorem k_code_yX0_drop : Cond.code yX0_drop prog_2_method_5_code 4 none ∈ lw_tbl := List.mem_of_getElem? (i := 362) (by decide +kernel)
theorem k_ml_RX0_38 : Cond.methodLink RX0 38 yX0_rankOf ∈ lw_tbl := List.mem_of_getElem? (i := 363) (by decide +kernel)
theorem k_inst_yX0_rankOf : Cond.instanceMethod yX0_rankOf ∈ lw_tbl := List.mem_of_getElem? (i := 364) (by decide +kernel)
theorem k_sel_yX0_rankOf : Cond.selects RX0 yX0_rankOf yX0_rankOf ∈ lw_tbl := List.mem_of_getElem? (i := 365) (by decide +kernel)
theorem k_code_yX0_rankOf : Cond.code yX0_rankOf prog_2_method_3_code 3 (some .int) ∈ lw_tbl := List.mem_of_getElem? (i := 366) (by decide +kernel)
theorem k_ml_RL_32 : Cond.methodLink RL 32 yX5_read ∈ lw_tbl := List.mem_of_getElem? (i := 367) (by decide +kernel)
theorem k_inst_yX5_read : Cond.instanceMethod yX5_read ∈ lw_tbl := List.mem_of_getElem? (i := 368) (by decide +kernel)
theorem k_sel_yX5_read : Cond.selects RX5 yX5_read yX5_read ∈ lw_tbl := List.mem_of_getElem? (i := 369) (by decide +kernel)
theorem k_code_yX5_read : Cond.code yX5_read prog_1_method_6_code 2 (some .int) ∈ lw_tbl := List.mem_of_getElem? (i := 370) (by decide +kernel)
theorem k_ml_RX5_78 : Cond.methodLink RX5 78 yX4_readPage ∈ lw_tbl := List.mem_of_getElem? (i := 371) (by decide +kernel)
theorem k_inst_yX4_readPage : Cond.instanceMethod yX4_readPage ∈ lw_tbl := List.mem_of_getElem? (i := 372) (by decide +kernel)
theorem k_sel_yX4_readPage : Cond.selects RX4 yX4_readPage yX4_readPage ∈ lw_tbl := List.mem_of_getElem? (i := 373) (by decide +kernel)
theorem k_code_yX4_readPage : Cond.code yX4_readPage prog_6_method_33_code 3 (some .int) ∈ lw_tbl := List.mem_of_getElem? (i := 374) (by decide +kernel)
theorem k_ml_RX4_200 : Cond.methodLink RX4 200 yX4_hasPlace ∈ lw_tbl := List.mem_of_getElem? (i := 375) (by decide +kernel)
theorem k_inst_yX4_hasPlace : Cond.instanceMethod yX4_hasPlace ∈ lw_tbl := List.mem_of_getElem? (i := 376) (by decide +kernel)
theorem k_sel_yX4_hasPlace : Cond.selects RX4 yX4_hasPlace yX4_hasPlace ∈ lw_tbl := List.mem_of_getElem? (i := 377) (by decide +kernel)
theorem k_code_yX4_hasPlace : Cond.code yX4_hasPlace prog_6_method_6_code 2 (some .boolean) ∈ lw_tbl := List.mem_of_getElem? (i := 378) (by decide +kernel)
theorem k_ml_RX4_203 : Cond.methodLink RX4 203 yX0_rankOf ∈ lw_tbl := List.mem_of_getElem? (i := 379) (by decide +kernel)
theorem k_ml_RX4_156 : Cond.methodLink RX4 156 yX4_mayRead ∈ lw_tbl := List.mem_of_getElem? (i := 380) (by decide +kernel)
theorem k_inst_yX4_mayRead : Cond.instanceMethod yX4_mayRead ∈ lw_tbl := List.mem_of_getElem? (i := 381) (by decide +kernel)
theorem k_sel_yX4_mayRead : Cond.selects RX4 yX4_mayRead yX4_mayRead ∈ lw_tbl := List.mem_of_getElem? (i := 382) (by decide +kernel)
theorem k_code_yX4_mayRead : Cond.code yX4_mayRead prog_6_method_19_code 5 (some .boolean) ∈ lw_tbl := List.mem_of_getElem? (i := 383) (by decide +kernel)
theorem k_ml_RX4_136 : Cond.methodLink RX4 136 yX4_addedBy ∈ lw_tbl := List.mem_of_getElem? (i := 384) (by decide +kernel)
theorem k_inst_yX4_addedBy : Cond.instanceMethod yX4_addedBy ∈ lw_tbl := List.mem_of_getElem? (i := 385) (by decide +kernel)
theorem k_sel_yX4_addedBy : Cond.selects RX4 yX4_addedBy yX4_addedBy ∈ lw_tbl := List.mem_of_getElem? (i := 386) (by decide +kernel)
theorem k_code_yX4_addedBy : Cond.code yX4_addedBy prog_6_method_17_code 5 (some .int) ∈ lw_tbl := List.mem_of_getElem? (i := 387) (by decide +kernel)
theorem k_ml_RX4_133 : Cond.methodLink RX4 133 Lib.Math.abs.name ∈ lw_tbl := List.mem_of_getElem? (i := 388) (by decide +kernel)
theorem k_stat_Lib_Math_abs_name : Cond.static Lib.Math.abs.name ∈ lw_tbl := List.mem_of_getElem? (i := 389) (by decide +kernel)
theorem k_code_Lib_Math_abs_name : Cond.code Lib.Math.abs.name prog_9_method_59_code 1 (some .int) ∈ lw_tbl := List.mem_of_getElem? (i := 390) (by decide +kernel)
theorem k_ml_RX4_206 : Cond.methodLink RX4 206 yX4_moveWhole ∈ lw_tbl := List.mem_of_getElem? (i := 391) (by decide +kernel)
theorem k_inst_yX4_moveWhole : Cond.instanceMethod yX4_moveWhole ∈ lw_tbl := List.mem_of_getElem? (i := 392) (by decide +kernel)
theorem k_sel_yX4_moveWhole : Cond.selects RX4 yX4_moveWhole yX4_moveWhole ∈ lw_tbl := List.mem_of_getElem? (i := 393) (by decide +kernel)
theorem k_code_yX4_moveWhole : Cond.code yX4_moveWhole prog_6_method_27_code 4 (some .int) ∈ lw_tbl := List.mem_of_getElem? (i := 394) (by decide +kernel)
theorem k_ml_RX4_108 : Cond.methodLink RX4 108 yX4_pagesIn ∈ lw_tbl := List.mem_of_getElem? (i := 395) (by decide +kernel)
theorem k_inst_yX4_pagesIn : Cond.instanceMethod yX4_pagesIn ∈ lw_tbl := List.mem_of_getElem? (i := 396) (by decide +kernel)
theorem k_sel_yX4_pagesIn : Cond.selects RX4 yX4_pagesIn yX4_pagesIn ∈ lw_tbl := List.mem_of_getElem? (i := 397) (by decide +kernel)
theorem k_code_yX4_pagesIn : Cond.code yX4_pagesIn prog_6_method_7_code 5 (some .int) ∈ lw_tbl := List.mem_of_getElem? (i := 398) (by decide +kernel)
theorem k_ml_RX4_170 : Cond.methodLink RX4 170 yX4_moveLowestPage ∈ lw_tbl := List.mem_of_getElem? (i := 399) (by decide +kernel)
theorem k_inst_yX4_moveLowestPage : Cond.instanceMethod yX4_moveLowestPage ∈ lw_tbl := List.mem_of_getElem? (i := 400) (by decide +kernel)
theorem k_sel_yX4_moveLowestPage : Cond.selects RX4 yX4_moveLowestPage yX4_moveLowestPage ∈ lw_tbl := List.mem_of_getElem? (i := 401) (by decide +kernel)
theorem k_code_yX4_moveLowestPage : Cond.code yX4_moveLowestPage prog_6_method_25_code 4 (some .boolean) ∈ lw_tbl := List.mem_of_getElem? (i := 402) (by decide +kernel)
theorem k_ml_RX4_153 : Cond.methodLink RX4 153 yX4_lowestPlaceWithPage ∈ lw_tbl := List.mem_of_getElem? (i := 403) (by decide +kernel)
theorem k_inst_yX4_lowestPlaceWithPage : Cond.instanceMethod yX4_lowestPlaceWithPage ∈ lw_tbl := List.mem_of_getElem? (i := 404) (by decide +kernel)
theorem k_sel_yX4_lowestPlaceWithPage : Cond.selects RX4 yX4_lowestPlaceWithPage yX4_lowestPlaceWithPage ∈ lw_tbl := List.mem_of_getElem? (i := 405) (by decide +kernel)
theorem k_code_yX4_lowestPlaceWithPage : Cond.code yX4_lowestPlaceWithPage prog_6_method_24_code 4 (some .int) ∈ lw_tbl := List.mem_of_getElem? (i := 406) (by decide +kernel)
theorem k_ml_RX4_159 : Cond.methodLink RX4 159 yX4_readPlace ∈ lw_tbl := List.mem_of_getElem? (i := 407) (by decide +kernel)
theorem k_inst_yX4_readPlace : Cond.instanceMethod yX4_readPlace ∈ lw_tbl := List.mem_of_getElem? (i := 408) (by decide +kernel)
theorem k_sel_yX4_readPlace : Cond.selects RX4 yX4_readPlace yX4_readPlace ∈ lw_tbl := List.mem_of_getElem? (i := 409) (by decide +kernel)
theorem k_code_yX4_readPlace : Cond.code yX4_readPlace prog_6_method_20_code 4 none ∈ lw_tbl := List.mem_of_getElem? (i := 410) (by decide +kernel)
theorem k_ml_RX4_173 : Cond.methodLink RX4 173 yX4_erase ∈ lw_tbl := List.mem_of_getElem? (i := 411) (by decide +kernel)
theorem k_inst_yX4_erase : Cond.instanceMethod yX4_erase ∈ lw_tbl := List.mem_of_getElem? (i := 412) (by decide +kernel)
theorem k_sel_yX4_erase : Cond.selects RX4 yX4_erase yX4_erase ∈ lw_tbl := List.mem_of_getElem? (i := 413) (by decide +kernel)
theorem k_code_yX4_erase : Cond.code yX4_erase prog_6_method_26_code 5 none ∈ lw_tbl := List.mem_of_getElem? (i := 414) (by decide +kernel)
theorem k_ml_RX4_121 : Cond.methodLink RX4 121 Lib.Math.max.name ∈ lw_tbl := List.mem_of_getElem? (i := 415) (by decide +kernel)
theorem k_stat_Lib_Math_max_name : Cond.static Lib.Math.max.name ∈ lw_tbl := List.mem_of_getElem? (i := 416) (by decide +kernel)
theorem k_code_Lib_Math_max_name : Cond.code Lib.Math.max.name prog_9_method_65_code 2 (some .int) ∈ lw_tbl := List.mem_of_getElem? (i := 417) (by decide +kernel)
theorem k_ml_RX4_166 : Cond.methodLink RX4 166 yX1_note ∈ lw_tbl := List.mem_of_getElem? (i := 418) (by decide +kernel)
theorem k_inst_yX1_note : Cond.instanceMethod yX1_note ∈ lw_tbl := List.mem_of_getElem? (i := 419) (by decide +kernel)
theorem k_sel_yX1_note : Cond.selects RX1 yX1_note yX1_note ∈ lw_tbl := List.mem_of_getElem? (i := 420) (by decide +kernel)
theorem k_code_yX1_note : Cond.code yX1_note prog_3_method_3_code 5 none ∈ lw_tbl := List.mem_of_getElem? (i := 421) (by decide +kernel)
theorem k_ml_RX4_209 : Cond.methodLink RX4 209 yX0_putFirst ∈ lw_tbl := List.mem_of_getElem? (i := 422) (by decide +kernel)
theorem k_inst_yX0_putFirst : Cond.instanceMethod yX0_putFirst ∈ lw_tbl := List.mem_of_getElem? (i := 423) (by decide +kernel)
theorem k_sel_yX0_putFirst : Cond.selects RX0 yX0_putFirst yX0_putFirst ∈ lw_tbl := List.mem_of_getElem? (i := 424) (by decide +kernel)
theorem k_code_yX0_putFirst : Cond.code yX0_putFirst prog_2_method_4_code 5 none ∈ lw_tbl := List.mem_of_getElem? (i := 425) (by decide +kernel)
theorem k_ml_RX0_25 : Cond.methodLink RX0 25 yX0_drop ∈ lw_tbl := List.mem_of_getElem? (i := 426) (by decide +kernel)
theorem k_ml_RX0_35 : Cond.methodLink RX0 35 yX0_shrinkTo ∈ lw_tbl := List.mem_of_getElem? (i := 427) (by decide +kernel)
theorem k_ml_RL_36 : Cond.methodLink RL 36 yX5_forget ∈ lw_tbl := List.mem_of_getElem? (i := 428) (by decide +kernel)
theorem k_inst_yX5_forget : Cond.instanceMethod yX5_forget ∈ lw_tbl := List.mem_of_getElem? (i := 429) (by decide +kernel)
theorem k_sel_yX5_forget : Cond.selects RX5 yX5_forget yX5_forget ∈ lw_tbl := List.mem_of_getElem? (i := 430) (by decide +kernel)
theorem k_code_yX5_forget : Cond.code yX5_forget prog_1_method_7_code 2 (some .int) ∈ lw_tbl := List.mem_of_getElem? (i := 431) (by decide +kernel)
theorem k_ml_RX5_81 : Cond.methodLink RX5 81 yX4_forgetPage ∈ lw_tbl := List.mem_of_getElem? (i := 432) (by decide +kernel)
theorem k_inst_yX4_forgetPage : Cond.instanceMethod yX4_forgetPage ∈ lw_tbl := List.mem_of_getElem? (i := 433) (by decide +kernel)
theorem k_sel_yX4_forgetPage : Cond.selects RX4 yX4_forgetPage yX4_forgetPage ∈ lw_tbl := List.mem_of_getElem? (i := 434) (by decide +kernel)
theorem k_code_yX4_forgetPage : Cond.code yX4_forgetPage prog_6_method_34_code 2 (some .int) ∈ lw_tbl := List.mem_of_getElem? (i := 435) (by decide +kernel)
theorem k_ml_RX4_212 : Cond.methodLink RX4 212 yX4_pagesInAll ∈ lw_tbl := List.mem_of_getElem? (i := 436) (by decide +kernel)
theorem k_inst_yX4_pagesInAll : Cond.instanceMethod yX4_pagesInAll ∈ lw_tbl := List.mem_of_getElem? (i := 437) (by decide +kernel)
theorem k_sel_yX4_pagesInAll : Cond.selects RX4 yX4_pagesInAll yX4_pagesInAll ∈ lw_tbl := List.mem_of_getElem? (i := 438) (by decide +kernel)
theorem k_code_yX4_pagesInAll : Cond.code yX4_pagesInAll prog_6_method_8_code 3 (some .int) ∈ lw_tbl := List.mem_of_getElem? (i := 439) (by decide +kernel)
theorem k_ml_RL_40 : Cond.methodLink RL 40 yX5_moveBlock ∈ lw_tbl := List.mem_of_getElem? (i := 440) (by decide +kernel)
theorem k_inst_yX5_moveBlock : Cond.instanceMethod yX5_moveBlock ∈ lw_tbl := List.mem_of_getElem? (i := 441) (by decide +kernel)
theorem k_sel_yX5_moveBlock : Cond.selects RX5 yX5_moveBlock yX5_moveBlock ∈ lw_tbl := List.mem_of_getElem? (i := 442) (by decide +kernel)
theorem k_code_yX5_moveBlock : Cond.code yX5_moveBlock prog_1_method_8_code 2 (some .int) ∈ lw_tbl := List.mem_of_getElem? (i := 443) (by decide +kernel)
theorem k_ml_RX5_84 : Cond.methodLink RX5 84 yX4_moveOnDemand ∈ lw_tbl := List.mem_of_getElem? (i := 444) (by decide +kernel)
theorem k_inst_yX4_moveOnDemand : Cond.instanceMethod yX4_moveOnDemand ∈ lw_tbl := List.mem_of_getElem? (i := 445) (by decide +kernel)
theorem k_sel_yX4_moveOnDemand : Cond.selects RX4 yX4_moveOnDemand yX4_moveOnDemand ∈ lw_tbl := List.mem_of_getElem? (i := 446) (by decide +kernel)
theorem k_code_yX4_moveOnDemand : Cond.code yX4_moveOnDemand prog_6_method_35_code 2 (some .int) ∈ lw_tbl := List.mem_of_getElem? (i := 447) (by decide +kernel)
theorem k_ml_RL_44 : Cond.methodLink RL 44 yX5_pass ∈ lw_tbl := List.mem_of_getElem? (i := 448) (by decide +kernel)
theorem k_inst_yX5_pass : Cond.instanceMethod yX5_pass ∈ lw_tbl := List.mem_of_getElem? (i := 449) (by decide +kernel)
theorem k_sel_yX5_pass : Cond.selects RX5 yX5_pass yX5_pass ∈ lw_tbl := List.mem_of_getElem? (i := 450) (by decide +kernel)
theorem k_code_yX5_pass : Cond.code yX5_pass prog_1_method_9_code 2 (some .int) ∈ lw_tbl := List.mem_of_getElem? (i := 451) (by decide +kernel)
theorem k_ml_RX5_87 : Cond.methodLink RX5 87 yX4_passTicks ∈ lw_tbl := List.mem_of_getElem? (i := 452) (by decide +kernel)
theorem k_inst_yX4_passTicks : Cond.instanceMethod yX4_passTicks ∈ lw_tbl := List.mem_of_getElem? (i := 453) (by decide +kernel)
theorem k_sel_yX4_passTicks : Cond.selects RX4 yX4_passTicks yX4_passTicks ∈ lw_tbl := List.mem_of_getElem? (i := 454) (by decide +kernel)
theorem k_code_yX4_passTicks : Cond.code yX4_passTicks prog_6_method_36_code 4 (some .int) ∈ lw_tbl := List.mem_of_getElem? (i := 455) (by decide +kernel)
theorem k_const_RX4_215 : Cond.constant RX4 215 (99999) ∈ lw_tbl := List.mem_of_getElem? (i := 456) (by decide +kernel)
theorem k_ml_RX4_216 : Cond.methodLink RX4 216 yX4_passOne ∈ lw_tbl := List.mem_of_getElem? (i := 457) (by decide +kernel)
theorem k_inst_yX4_passOne : Cond.instanceMethod yX4_passOne ∈ lw_tbl := List.mem_of_getElem? (i := 458) (by decide +kernel)
theorem k_sel_yX4_passOne : Cond.selects RX4 yX4_passOne yX4_passOne ∈ lw_tbl := List.mem_of_getElem? (i := 459) (by decide +kernel)
theorem k_code_yX4_passOne : Cond.code yX4_passOne prog_6_method_28_code 4 (some .int) ∈ lw_tbl := List.mem_of_getElem? (i := 460) (by decide +kernel)
theorem k_ml_RX4_176 : Cond.methodLink RX4 176 yX4_firstMarked ∈ lw_tbl := List.mem_of_getElem? (i := 461) (by decide +kernel)
theorem k_inst_yX4_firstMarked : Cond.instanceMethod yX4_firstMarked ∈ lw_tbl := List.mem_of_getElem? (i := 462) (by decide +kernel)
theorem k_sel_yX4_firstMarked : Cond.selects RX4 yX4_firstMarked yX4_firstMarked ∈ lw_tbl := List.mem_of_getElem? (i := 463) (by decide +kernel)
theorem k_code_yX4_firstMarked : Cond.code yX4_firstMarked prog_6_method_16_code 5 (some .int) ∈ lw_tbl := List.mem_of_getElem? (i := 464) (by decide +kernel)
theorem k_ml_RX4_118 : Cond.methodLink RX4 118 yX4_hundredths ∈ lw_tbl := List.mem_of_getElem? (i := 465) (by decide +kernel)
theorem k_inst_yX4_hundredths : Cond.instanceMethod yX4_hundredths ∈ lw_tbl := List.mem_of_getElem? (i := 466) (by decide +kernel)
theorem k_sel_yX4_hundredths : Cond.selects RX4 yX4_hundredths yX4_hundredths ∈ lw_tbl := List.mem_of_getElem? (i := 467) (by decide +kernel)
theorem k_code_yX4_hundredths : Cond.code yX4_hundredths prog_6_method_10_code 2 (some .int) ∈ lw_tbl := List.mem_of_getElem? (i := 468) (by decide +kernel)
theorem k_ml_RL_48 : Cond.methodLink RL 48 yX5_type ∈ lw_tbl := List.mem_of_getElem? (i := 469) (by decide +kernel)
theorem k_inst_yX5_type : Cond.instanceMethod yX5_type ∈ lw_tbl := List.mem_of_getElem? (i := 470) (by decide +kernel)
theorem k_sel_yX5_type : Cond.selects RX5 yX5_type yX5_type ∈ lw_tbl := List.mem_of_getElem? (i := 471) (by decide +kernel)
theorem k_code_yX5_type : Cond.code yX5_type prog_1_method_11_code 2 (some .int) ∈ lw_tbl := List.mem_of_getElem? (i := 472) (by decide +kernel)
theorem k_ml_RX5_93 : Cond.methodLink RX5 93 yX3_append ∈ lw_tbl := List.mem_of_getElem? (i := 473) (by decide +kernel)
theorem k_inst_yX3_append : Cond.instanceMethod yX3_append ∈ lw_tbl := List.mem_of_getElem? (i := 474) (by decide +kernel)
theorem k_sel_yX3_append : Cond.selects RX3 yX3_append yX3_append ∈ lw_tbl := List.mem_of_getElem? (i := 475) (by decide +kernel)
theorem k_code_yX3_append : Cond.code yX3_append prog_5_method_2_code 2 (some .int) ∈ lw_tbl := List.mem_of_getElem? (i := 476) (by decide +kernel)
theorem k_ml_RL_53 : Cond.methodLink RL 53 yX5_clearText ∈ lw_tbl := List.mem_of_getElem? (i := 477) (by decide +kernel)
theorem k_inst_yX5_clearText : Cond.instanceMethod yX5_clearText ∈ lw_tbl := List.mem_of_getElem? (i := 478) (by decide +kernel)
theorem k_sel_yX5_clearText : Cond.selects RX5 yX5_clearText yX5_clearText ∈ lw_tbl := List.mem_of_getElem? (i := 479) (by decide +kernel)
theorem k_code_yX5_clearText : Cond.code yX5_clearText prog_1_method_12_code 1 (some .int) ∈ lw_tbl := List.mem_of_getElem? (i := 480) (by decide +kernel)
theorem k_ml_RX5_97 : Cond.methodLink RX5 97 yX3_empty ∈ lw_tbl := List.mem_of_getElem? (i := 481) (by decide +kernel)
theorem k_inst_yX3_empty : Cond.instanceMethod yX3_empty ∈ lw_tbl := List.mem_of_getElem? (i := 482) (by decide +kernel)
theorem k_sel_yX3_empty : Cond.selects RX3 yX3_empty yX3_empty ∈ lw_tbl := List.mem_of_getElem? (i := 483) (by decide +kernel)
theorem k_code_yX3_empty : Cond.code yX3_empty prog_5_method_3_code 2 (some .int) ∈ lw_tbl := List.mem_of_getElem? (i := 484) (by decide +kernel)
theorem k_ml_RL_58 : Cond.methodLink RL 58 yX5_perform ∈ lw_tbl := List.mem_of_getElem? (i := 485) (by decide +kernel)
theorem k_inst_yX5_perform : Cond.instanceMethod yX5_perform ∈ lw_tbl := List.mem_of_getElem? (i := 486) (by decide +kernel)
theorem k_sel_yX5_perform : Cond.selects RX5 yX5_perform yX5_perform ∈ lw_tbl := List.mem_of_getElem? (i := 487) (by decide +kernel)
theorem k_code_yX5_perform : Cond.code yX5_perform prog_1_method_13_code 6 (some .int) ∈ lw_tbl := List.mem_of_getElem? (i := 488) (by decide +kernel)
theorem k_ml_RX5_101 : Cond.methodLink RX5 101 yX3_parse ∈ lw_tbl := List.mem_of_getElem? (i := 489) (by decide +kernel)
theorem k_inst_yX3_parse : Cond.instanceMethod yX3_parse ∈ lw_tbl := List.mem_of_getElem? (i := 490) (by decide +kernel)
theorem k_sel_yX3_parse : Cond.selects RX3 yX3_parse yX3_parse ∈ lw_tbl := List.mem_of_getElem? (i := 491) (by decide +kernel)
theorem k_code_yX3_parse : Cond.code yX3_parse prog_5_method_7_code 2 (some .int) ∈ lw_tbl := List.mem_of_getElem? (i := 492) (by decide +kernel)
theorem k_ml_RX3_35 : Cond.methodLink RX3 35 yX3_parseOrder ∈ lw_tbl := List.mem_of_getElem? (i := 493) (by decide +kernel)
theorem k_inst_yX3_parseOrder : Cond.instanceMethod yX3_parseOrder ∈ lw_tbl := List.mem_of_getElem? (i := 494) (by decide +kernel)
theorem k_sel_yX3_parseOrder : Cond.selects RX3 yX3_parseOrder yX3_parseOrder ∈ lw_tbl := List.mem_of_getElem? (i := 495) (by decide +kernel)
theorem k_code_yX3_parseOrder : Cond.code yX3_parseOrder prog_5_method_8_code 4 (some .boolean) ∈ lw_tbl := List.mem_of_getElem? (i := 496) (by decide +kernel)
theorem k_ml_RX3_39 : Cond.methodLink RX3 39 yX3_parseNumber ∈ lw_tbl := List.mem_of_getElem? (i := 497) (by decide +kernel)
theorem k_inst_yX3_parseNumber : Cond.instanceMethod yX3_parseNumber ∈ lw_tbl := List.mem_of_getElem? (i := 498) (by decide +kernel)
theorem k_sel_yX3_parseNumber : Cond.selects RX3 yX3_parseNumber yX3_parseNumber ∈ lw_tbl := List.mem_of_getElem? (i := 499) (by decide +kernel)
theorem k_code_yX3_parseNumber : Cond.code yX3_parseNumber prog_5_method_9_code 5 (some .int) ∈ lw_tbl := List.mem_of_getElem? (i := 500) (by decide +kernel)
theorem k_ml_RX3_43 : Cond.methodLink RX3 43 yX3_digitAt ∈ lw_tbl := List.mem_of_getElem? (i := 501) (by decide +kernel)
theorem k_inst_yX3_digitAt : Cond.instanceMethod yX3_digitAt ∈ lw_tbl := List.mem_of_getElem? (i := 502) (by decide +kernel)
theorem k_sel_yX3_digitAt : Cond.selects RX3 yX3_digitAt yX3_digitAt ∈ lw_tbl := List.mem_of_getElem? (i := 503) (by decide +kernel)
theorem k_code_yX3_digitAt : Cond.code yX3_digitAt prog_5_method_10_code 2 (some .int) ∈ lw_tbl := List.mem_of_getElem? (i := 504) (by decide +kernel)
theorem k_ml_RX5_107 : Cond.methodLink RX5 107 yX3_timesOf ∈ lw_tbl := List.mem_of_getElem? (i := 505) (by decide +kernel)
theorem k_inst_yX3_timesOf : Cond.instanceMethod yX3_timesOf ∈ lw_tbl := List.mem_of_getElem? (i := 506) (by decide +kernel)
theorem k_sel_yX3_timesOf : Cond.selects RX3 yX3_timesOf yX3_timesOf ∈ lw_tbl := List.mem_of_getElem? (i := 507) (by decide +kernel)
theorem k_code_yX3_timesOf : Cond.code yX3_timesOf prog_5_method_6_code 2 (some .int) ∈ lw_tbl := List.mem_of_getElem? (i := 508) (by decide +kernel)
theorem k_ml_RX5_110 : Cond.methodLink RX5 110 yX5_performOnce ∈ lw_tbl := List.mem_of_getElem? (i := 509) (by decide +kernel)
theorem k_priv_yX5_performOnce : Cond.privateMethod yX5_performOnce ∈ lw_tbl := List.mem_of_getElem? (i := 510) (by decide +kernel)
theorem k_inst_yX5_performOnce : Cond.instanceMethod yX5_performOnce ∈ lw_tbl := List.mem_of_getElem? (i := 511) (by decide +kernel)
theorem k_code_yX5_performOnce : Cond.code yX5_performOnce prog_1_method_14_code 4 (some .int) ∈ lw_tbl := List.mem_of_getElem? (i := 512) (by decide +kernel)
theorem k_ml_RX5_117 : Cond.methodLink RX5 117 yX3_letterOf ∈ lw_tbl := List.mem_of_getElem? (i := 513) (by decide +kernel)
theorem k_inst_yX3_letterOf : Cond.instanceMethod yX3_letterOf ∈ lw_tbl := List.mem_of_getElem? (i := 514) (by decide +kernel)
theorem k_sel_yX3_letterOf : Cond.selects RX3 yX3_letterOf yX3_letterOf ∈ lw_tbl := List.mem_of_getElem? (i := 515) (by decide +kernel)
theorem k_code_yX3_letterOf : Cond.code yX3_letterOf prog_5_method_4_code 2 (some .char) ∈ lw_tbl := List.mem_of_getElem? (i := 516) (by decide +kernel)
theorem k_ml_RX5_121 : Cond.methodLink RX5 121 yX3_argumentOf ∈ lw_tbl := List.mem_of_getElem? (i := 517) (by decide +kernel)
theorem k_inst_yX3_argumentOf : Cond.instanceMethod yX3_argumentOf ∈ lw_tbl := List.mem_of_getElem? (i := 518) (by decide +kernel)
theorem k_sel_yX3_argumentOf : Cond.selects RX3 yX3_argumentOf yX3_argumentOf ∈ lw_tbl := List.mem_of_getElem? (i := 519) (by decide +kernel)
theorem k_code_yX3_argumentOf : Cond.code yX3_argumentOf prog_5_method_5_code 2 (some .int) ∈ lw_tbl := List.mem_of_getElem? (i := 520) (by decide +kernel)
theorem k_ml_RX5_113 : Cond.methodLink RX5 113 yX5_noteRefusal ∈ lw_tbl := List.mem_of_getElem? (i := 521) (by decide +kernel)
theorem k_priv_yX5_noteRefusal : Cond.privateMethod yX5_noteRefusal ∈ lw_tbl := List.mem_of_getElem? (i := 522) (by decide +kernel)
theorem k_inst_yX5_noteRefusal : Cond.instanceMethod yX5_noteRefusal ∈ lw_tbl := List.mem_of_getElem? (i := 523) (by decide +kernel)
theorem k_code_yX5_noteRefusal : Cond.code yX5_noteRefusal prog_1_method_15_code 4 none ∈ lw_tbl := List.mem_of_getElem? (i := 524) (by decide +kernel)
theorem k_ml_RL_62 : Cond.methodLink RL 62 yX5_refusal ∈ lw_tbl := List.mem_of_getElem? (i := 525) (by decide +kernel)
theorem k_inst_yX5_refusal : Cond.instanceMethod yX5_refusal ∈ lw_tbl := List.mem_of_getElem? (i := 526) (by decide +kernel)
theorem k_sel_yX5_refusal : Cond.selects RX5 yX5_refusal yX5_refusal ∈ lw_tbl := List.mem_of_getElem? (i := 527) (by decide +kernel)
theorem k_code_yX5_refusal : Cond.code yX5_refusal prog_1_method_16_code 2 (some .int) ∈ lw_tbl := List.mem_of_getElem? (i := 528) (by decide +kernel)
theorem k_ml_RL_66 : Cond.methodLink RL 66 yX5_undo ∈ lw_tbl := List.mem_of_getElem? (i := 529) (by decide +kernel)
theorem k_inst_yX5_undo : Cond.instanceMethod yX5_undo ∈ lw_tbl := List.mem_of_getElem? (i := 530) (by decide +kernel)
theorem k_sel_yX5_undo : Cond.selects RX5 yX5_undo yX5_undo ∈ lw_tbl := List.mem_of_getElem? (i := 531) (by decide +kernel)
theorem k_code_yX5_undo : Cond.code yX5_undo prog_1_method_17_code 1 (some .int) ∈ lw_tbl := List.mem_of_getElem? (i := 532) (by decide +kernel)
theorem k_ml_RX5_127 : Cond.methodLink RX5 127 yX2_takeLatest ∈ lw_tbl := List.mem_of_getElem? (i := 533) (by decide +kernel)
theorem k_inst_yX2_takeLatest : Cond.instanceMethod yX2_takeLatest ∈ lw_tbl := List.mem_of_getElem? (i := 534) (by decide +kernel)
theorem k_sel_yX2_takeLatest : Cond.selects RX2 yX2_takeLatest yX2_takeLatest ∈ lw_tbl := List.mem_of_getElem? (i := 535) (by decide +kernel)
theorem k_code_yX2_takeLatest : Cond.code yX2_takeLatest prog_4_method_3_code 4 none ∈ lw_tbl := List.mem_of_getElem? (i := 536) (by decide +kernel)
theorem k_ml_RL_70 : Cond.methodLink RL 70 yX5_keep ∈ lw_tbl := List.mem_of_getElem? (i := 537) (by decide +kernel)
theorem k_inst_yX5_keep : Cond.instanceMethod yX5_keep ∈ lw_tbl := List.mem_of_getElem? (i := 538) (by decide +kernel)
theorem k_sel_yX5_keep : Cond.selects RX5 yX5_keep yX5_keep ∈ lw_tbl := List.mem_of_getElem? (i := 539) (by decide +kernel)
theorem k_code_yX5_keep : Cond.code yX5_keep prog_1_method_18_code 1 (some .int) ∈ lw_tbl := List.mem_of_getElem? (i := 540) (by decide +kernel)
theorem k_ml_RL_74 : Cond.methodLink RL 74 yX5_restore ∈ lw_tbl := List.mem_of_getElem? (i := 541) (by decide +kernel)
theorem k_inst_yX5_restore : Cond.instanceMethod yX5_restore ∈ lw_tbl := List.mem_of_getElem? (i := 542) (by decide +kernel)
theorem k_sel_yX5_restore : Cond.selects RX5 yX5_restore yX5_restore ∈ lw_tbl := List.mem_of_getElem? (i := 543) (by decide +kernel)
theorem k_code_yX5_restore : Cond.code yX5_restore prog_1_method_19_code 1 (some .int) ∈ lw_tbl := List.mem_of_getElem? (i := 544) (by decide +kernel)
theorem k_ml_RL_78 : Cond.methodLink RL 78 yX5_page ∈ lw_tbl := List.mem_of_getElem? (i := 545) (by decide +kernel)
theorem k_inst_yX5_page : Cond.instanceMethod yX5_page ∈ lw_tbl := List.mem_of_getElem? (i := 546) (by decide +kernel)
theorem k_sel_yX5_page : Cond.selects RX5 yX5_page yX5_page ∈ lw_tbl := List.mem_of_getElem? (i := 547) (by decide +kernel)
theorem k_code_yX5_page : Cond.code yX5_page prog_1_method_20_code 4 (some .int) ∈ lw_tbl := List.mem_of_getElem? (i := 548) (by decide +kernel)
theorem k_ml_RX5_133 : Cond.methodLink RX5 133 yX5_isPage ∈ lw_tbl := List.mem_of_getElem? (i := 549) (by decide +kernel)
theorem k_ml_RX5_141 : Cond.methodLink RX5 141 yX0_rankOf ∈ lw_tbl := List.mem_of_getElem? (i := 550) (by decide +kernel)
theorem k_ml_RX5_150 : Cond.methodLink RX5 150 yX4_hasPlace ∈ lw_tbl := List.mem_of_getElem? (i := 551) (by decide +kernel)
theorem k_ml_RX5_162 : Cond.methodLink RX5 162 yX4_readsLeft ∈ lw_tbl := List.mem_of_getElem? (i := 552) (by decide +kernel)
theorem k_inst_yX4_readsLeft : Cond.instanceMethod yX4_readsLeft ∈ lw_tbl := List.mem_of_getElem? (i := 553) (by decide +kernel)
theorem k_sel_yX4_readsLeft : Cond.selects RX4 yX4_readsLeft yX4_readsLeft ∈ lw_tbl := List.mem_of_getElem? (i := 554) (by decide +kernel)
theorem k_code_yX4_readsLeft : Cond.code yX4_readsLeft prog_6_method_18_code 7 (some .int) ∈ lw_tbl := List.mem_of_getElem? (i := 555) (by decide +kernel)
theorem k_ml_RX4_139 : Cond.methodLink RX4 139 Lib.Math.min.name ∈ lw_tbl := List.mem_of_getElem? (i := 556) (by decide +kernel)
theorem k_ml_RL_82 : Cond.methodLink RL 82 yX5_block ∈ lw_tbl := List.mem_of_getElem? (i := 557) (by decide +kernel)
theorem k_inst_yX5_block : Cond.instanceMethod yX5_block ∈ lw_tbl := List.mem_of_getElem? (i := 558) (by decide +kernel)
theorem k_sel_yX5_block : Cond.selects RX5 yX5_block yX5_block ∈ lw_tbl := List.mem_of_getElem? (i := 559) (by decide +kernel)
theorem k_code_yX5_block : Cond.code yX5_block prog_1_method_21_code 3 (some .int) ∈ lw_tbl := List.mem_of_getElem? (i := 560) (by decide +kernel)
theorem k_ml_RX5_165 : Cond.methodLink RX5 165 yX5_isBlock ∈ lw_tbl := List.mem_of_getElem? (i := 561) (by decide +kernel)
theorem k_ml_RX5_174 : Cond.methodLink RX5 174 yX4_bears ∈ lw_tbl := List.mem_of_getElem? (i := 562) (by decide +kernel)
theorem k_ml_RX5_177 : Cond.methodLink RX5 177 yX4_pagesIn ∈ lw_tbl := List.mem_of_getElem? (i := 563) (by decide +kernel)
theorem k_ml_RX5_183 : Cond.methodLink RX5 183 yX4_greatestOfPages ∈ lw_tbl := List.mem_of_getElem? (i := 564) (by decide +kernel)
theorem k_ml_RX5_186 : Cond.methodLink RX5 186 yX4_isMarked ∈ lw_tbl := List.mem_of_getElem? (i := 565) (by decide +kernel)
theorem k_ml_RX5_189 : Cond.methodLink RX5 189 yX4_isFree ∈ lw_tbl := List.mem_of_getElem? (i := 566) (by decide +kernel)
theorem k_ml_RL_86 : Cond.methodLink RL 86 yX5_place ∈ lw_tbl := List.mem_of_getElem? (i := 567) (by decide +kernel)
theorem k_inst_yX5_place : Cond.instanceMethod yX5_place ∈ lw_tbl := List.mem_of_getElem? (i := 568) (by decide +kernel)
theorem k_sel_yX5_place : Cond.selects RX5 yX5_place yX5_place ∈ lw_tbl := List.mem_of_getElem? (i := 569) (by decide +kernel)
theorem k_code_yX5_place : Cond.code yX5_place prog_1_method_22_code 6 (some .int) ∈ lw_tbl := List.mem_of_getElem? (i := 570) (by decide +kernel)
theorem k_ml_RL_91 : Cond.methodLink RL 91 yX5_marked ∈ lw_tbl := List.mem_of_getElem? (i := 571) (by decide +kernel)
theorem k_inst_yX5_marked : Cond.instanceMethod yX5_marked ∈ lw_tbl := List.mem_of_getElem? (i := 572) (by decide +kernel)
theorem k_sel_yX5_marked : Cond.selects RX5 yX5_marked yX5_marked ∈ lw_tbl := List.mem_of_getElem? (i := 573) (by decide +kernel)
theorem k_code_yX5_marked : Cond.code yX5_marked prog_1_method_23_code 3 (some .int) ∈ lw_tbl := List.mem_of_getElem? (i := 574) (by decide +kernel)
theorem k_ml_RX5_202 : Cond.methodLink RX5 202 yX4_markedAhead ∈ lw_tbl := List.mem_of_getElem? (i := 575) (by decide +kernel)
theorem k_inst_yX4_markedAhead : Cond.instanceMethod yX4_markedAhead ∈ lw_tbl := List.mem_of_getElem? (i := 576) (by decide +kernel)
theorem k_sel_yX4_markedAhead : Cond.selects RX4 yX4_markedAhead yX4_markedAhead ∈ lw_tbl := List.mem_of_getElem? (i := 577) (by decide +kernel)
theorem k_code_yX4_markedAhead : Cond.code yX4_markedAhead prog_6_method_15_code 6 (some .int) ∈ lw_tbl := List.mem_of_getElem? (i := 578) (by decide +kernel)
theorem k_ml_RL_95 : Cond.methodLink RL 95 yX5_quietIn ∈ lw_tbl := List.mem_of_getElem? (i := 579) (by decide +kernel)
theorem k_inst_yX5_quietIn : Cond.instanceMethod yX5_quietIn ∈ lw_tbl := List.mem_of_getElem? (i := 580) (by decide +kernel)
theorem k_sel_yX5_quietIn : Cond.selects RX5 yX5_quietIn yX5_quietIn ∈ lw_tbl := List.mem_of_getElem? (i := 581) (by decide +kernel)
theorem k_code_yX5_quietIn : Cond.code yX5_quietIn prog_1_method_24_code 2 (some .int) ∈ lw_tbl := List.mem_of_getElem? (i := 582) (by decide +kernel)
theorem k_ml_RX5_205 : Cond.methodLink RX5 205 yX4_markedBlocks ∈ lw_tbl := List.mem_of_getElem? (i := 583) (by decide +kernel)
theorem k_ml_RX5_208 : Cond.methodLink RX5 208 yX4_passOne ∈ lw_tbl := List.mem_of_getElem? (i := 584) (by decide +kernel)
theorem k_ml_RL_99 : Cond.methodLink RL 99 yX5_erasure ∈ lw_tbl := List.mem_of_getElem? (i := 585) (by decide +kernel)
theorem k_inst_yX5_erasure : Cond.instanceMethod yX5_erasure ∈ lw_tbl := List.mem_of_getElem? (i := 586) (by decide +kernel)
theorem k_sel_yX5_erasure : Cond.selects RX5 yX5_erasure yX5_erasure ∈ lw_tbl := List.mem_of_getElem? (i := 587) (by decide +kernel)
theorem k_code_yX5_erasure : Cond.code yX5_erasure prog_1_method_25_code 3 (some .int) ∈ lw_tbl := List.mem_of_getElem? (i := 588) (by decide +kernel)
theorem k_ml_RL_103 : Cond.methodLink RL 103 yX5_count ∈ lw_tbl := List.mem_of_getElem? (i := 589) (by decide +kernel)
theorem k_inst_yX5_count : Cond.instanceMethod yX5_count ∈ lw_tbl := List.mem_of_getElem? (i := 590) (by decide +kernel)
theorem k_sel_yX5_count : Cond.selects RX5 yX5_count yX5_count ∈ lw_tbl := List.mem_of_getElem? (i := 591) (by decide +kernel)
theorem k_code_yX5_count : Cond.code yX5_count prog_1_method_26_code 2 (some .int) ∈ lw_tbl := List.mem_of_getElem? (i := 592) (by decide +kernel)
theorem k_ml_RX5_227 : Cond.methodLink RX5 227 yX4_pagesInAll ∈ lw_tbl := List.mem_of_getElem? (i := 593) (by decide +kernel)
theorem k_ml_RX5_230 : Cond.methodLink RX5 230 yX4_freeBlocks ∈ lw_tbl := List.mem_of_getElem? (i := 594) (by decide +kernel)
theorem k_ml_RX5_246 : Cond.methodLink RX5 246 yX4_greatestHundredths ∈ lw_tbl := List.mem_of_getElem? (i := 595) (by decide +kernel)
theorem k_inst_yX4_greatestHundredths : Cond.instanceMethod yX4_greatestHundredths ∈ lw_tbl := List.mem_of_getElem? (i := 596) (by decide +kernel)
theorem k_sel_yX4_greatestHundredths : Cond.selects RX4 yX4_greatestHundredths yX4_greatestHundredths ∈ lw_tbl := List.mem_of_getElem? (i := 597) (by decide +kernel)
theorem k_code_yX4_greatestHundredths : Cond.code yX4_greatestHundredths prog_6_method_11_code 3 (some .int) ∈ lw_tbl := List.mem_of_getElem? (i := 598) (by decide +kernel)
theorem k_ml_RL_107 : Cond.methodLink RL 107 yX5_setting ∈ lw_tbl := List.mem_of_getElem? (i := 599) (by decide +kernel)
theorem k_inst_yX5_setting : Cond.instanceMethod yX5_setting ∈ lw_tbl := List.mem_of_getElem? (i := 600) (by decide +kernel)
theorem k_sel_yX5_setting : Cond.selects RX5 yX5_setting yX5_setting ∈ lw_tbl := List.mem_of_getElem? (i := 601) (by decide +kernel)
theorem k_code_yX5_setting : Cond.code yX5_setting prog_1_method_27_code 2 (some .int) ∈ lw_tbl := List.mem_of_getElem? (i := 602) (by decide +kernel)
theorem k_ml_RX5_252 : Cond.methodLink RX5 252 yX5_isSetting ∈ lw_tbl := List.mem_of_getElem? (i := 603) (by decide +kernel)
theorem k_cl_RL_10 : Cond.classLink RL 10 RX6 ∈ lw_tbl := List.mem_of_getElem? (i := 604) (by decide +kernel)
theorem k_new_RX6 : Cond.instantiable RX6 15 ∈ lw_tbl := List.mem_of_getElem? (i := 605) (by decide +kernel)
theorem k_ml_RL_12 : Cond.methodLink RL 12 yX6_init ∈ lw_tbl := List.mem_of_getElem? (i := 606) (by decide +kernel)
theorem k_inst_yX6_init : Cond.instanceMethod yX6_init ∈ lw_tbl := List.mem_of_getElem? (i := 607) (by decide +kernel)
theorem k_code_yX6_init : Cond.code yX6_init prog_8_method_1_code 2 none ∈ lw_tbl := List.mem_of_getElem? (i := 608) (by decide +kernel)
theorem k_ml_RX6_1 : Cond.methodLink RX6 1 objectInit ∈ lw_tbl := List.mem_of_getElem? (i := 609) (by decide +kernel)
theorem k_fl_RX6_7 : Cond.fieldLink RX6 7 (TX6 0).1 (TX6 0).2.1 (TX6 0).2.2.1 ∈ lw_tbl := List.mem_of_getElem? (i := 610) (by decide +kernel)
theorem k_fl_RX6_13 : Cond.fieldLink RX6 13 (TX6 1).1 (TX6 1).2.1 (TX6 1).2.2.1 ∈ lw_tbl := List.mem_of_getElem? (i := 611) (by decide +kernel)
theorem k_fl_RX6_16 : Cond.fieldLink RX6 16 (TX6 2).1 (TX6 2).2.1 (TX6 2).2.2.1 ∈ lw_tbl := List.mem_of_getElem? (i := 612) (by decide +kernel)
theorem k_fl_RX6_19 : Cond.fieldLink RX6 19 (TX6 3).1 (TX6 3).2.1 (TX6 3).2.2.1 ∈ lw_tbl := List.mem_of_getElem? (i := 613) (by decide +kernel)
theorem k_fl_RX6_38 : Cond.fieldLink RX6 38 (TX6 4).1 (TX6 4).2.1 (TX6 4).2.2.1 ∈ lw_tbl := List.mem_of_getElem? (i := 614) (by decide +kernel)
theorem k_fl_RX6_22 : Cond.fieldLink RX6 22 (TX6 5).1 (TX6 5).2.1 (TX6 5).2.2.1 ∈ lw_tbl := List.mem_of_getElem? (i := 615) (by decide +kernel)
theorem k_fl_RX6_49 : Cond.fieldLink RX6 49 (TX6 6).1 (TX6 6).2.1 (TX6 6).2.2.1 ∈ lw_tbl := List.mem_of_getElem? (i := 616) (by decide +kernel)
theorem k_fl_RX6_25 : Cond.fieldLink RX6 25 (TX6 7).1 (TX6 7).2.1 (TX6 7).2.2.1 ∈ lw_tbl := List.mem_of_getElem? (i := 617) (by decide +kernel)
theorem k_fl_RX6_174 : Cond.fieldLink RX6 174 (TX6 8).1 (TX6 8).2.1 (TX6 8).2.2.1 ∈ lw_tbl := List.mem_of_getElem? (i := 618) (by decide +kernel)
theorem k_fl_RX6_177 : Cond.fieldLink RX6 177 (TX6 9).1 (TX6 9).2.1 (TX6 9).2.2.1 ∈ lw_tbl := List.mem_of_getElem? (i := 619) (by decide +kernel)
theorem k_fl_RX6_183 : Cond.fieldLink RX6 183 (TX6 10).1 (TX6 10).2.1 (TX6 10).2.2.1 ∈ lw_tbl := List.mem_of_getElem? (i := 620) (by decide +kernel)
theorem k_fl_RX6_28 : Cond.fieldLink RX6 28 (TX6 11).1 (TX6 11).2.1 (TX6 11).2.2.1 ∈ lw_tbl := List.mem_of_getElem? (i := 621) (by decide +kernel)
theorem k_fl_RX6_189 : Cond.fieldLink RX6 189 (TX6 12).1 (TX6 12).2.1 (TX6 12).2.2.1 ∈ lw_tbl := List.mem_of_getElem? (i := 622) (by decide +kernel)
theorem k_fl_RX6_31 : Cond.fieldLink RX6 31 (TX6 13).1 (TX6 13).2.1 (TX6 13).2.2.1 ∈ lw_tbl := List.mem_of_getElem? (i := 623) (by decide +kernel)
theorem k_fl_RX6_205 : Cond.fieldLink RX6 205 (TX6 14).1 (TX6 14).2.1 (TX6 14).2.2.1 ∈ lw_tbl := List.mem_of_getElem? (i := 624) (by decide +kernel)
theorem k_ml_RL_69 : Cond.methodLink RL 69 yX6_undo ∈ lw_tbl := List.mem_of_getElem? (i := 656) (by decide +kernel)
theorem k_inst_yX6_undo : Cond.instanceMethod yX6_undo ∈ lw_tbl := List.mem_of_getElem? (i := 657) (by decide +kernel)
theorem k_sel_yX6_undo : Cond.selects RX6 yX6_undo yX6_undo ∈ lw_tbl := List.mem_of_getElem? (i := 658) (by decide +kernel)
theorem k_code_yX6_undo : Cond.code yX6_undo prog_8_method_10_code 1 (some .int) ∈ lw_tbl := List.mem_of_getElem? (i := 659) (by decide +kernel)
theorem k_ml_RX6_42 : Cond.methodLink RX6 42 yX6_lays ∈ lw_tbl := List.mem_of_getElem? (i := 660) (by decide +kernel)
theorem k_stat_yX6_lays : Cond.static yX6_lays ∈ lw_tbl := List.mem_of_getElem? (i := 661) (by decide +kernel)
theorem k_code_yX6_lays : Cond.code yX6_lays prog_8_method_6_code 5 none ∈ lw_tbl := List.mem_of_getElem? (i := 662) (by decide +kernel)
theorem k_ml_RL_73 : Cond.methodLink RL 73 yX6_keep ∈ lw_tbl := List.mem_of_getElem? (i := 663) (by decide +kernel)
theorem k_inst_yX6_keep : Cond.instanceMethod yX6_keep ∈ lw_tbl := List.mem_of_getElem? (i := 664) (by decide +kernel)
theorem k_sel_yX6_keep : Cond.selects RX6 yX6_keep yX6_keep ∈ lw_tbl := List.mem_of_getElem? (i := 665) (by decide +kernel)
theorem k_code_yX6_keep : Cond.code yX6_keep prog_8_method_11_code 1 (some .int) ∈ lw_tbl := List.mem_of_getElem? (i := 666) (by decide +kernel)
theorem k_ml_RL_77 : Cond.methodLink RL 77 yX6_restore ∈ lw_tbl := List.mem_of_getElem? (i := 667) (by decide +kernel)
theorem k_inst_yX6_restore : Cond.instanceMethod yX6_restore ∈ lw_tbl := List.mem_of_getElem? (i := 668) (by decide +kernel)
theorem k_sel_yX6_restore : Cond.selects RX6 yX6_restore yX6_restore ∈ lw_tbl := List.mem_of_getElem? (i := 669) (by decide +kernel)
theorem k_code_yX6_restore : Cond.code yX6_restore prog_8_method_12_code 1 (some .int) ∈ lw_tbl := List.mem_of_getElem? (i := 670) (by decide +kernel)
theorem k_ml_RX6_46 : Cond.methodLink RX6 46 yX6_records ∈ lw_tbl := List.mem_of_getElem? (i := 671) (by decide +kernel)
theorem k_priv_yX6_records : Cond.privateMethod yX6_records ∈ lw_tbl := List.mem_of_getElem? (i := 672) (by decide +kernel)
theorem k_inst_yX6_records : Cond.instanceMethod yX6_records ∈ lw_tbl := List.mem_of_getElem? (i := 673) (by decide +kernel)
theorem k_code_yX6_records : Cond.code yX6_records prog_8_method_7_code 2 none ∈ lw_tbl := List.mem_of_getElem? (i := 674) (by decide +kernel)
theorem k_ml_RL_17 : Cond.methodLink RL 17 yX6_set ∈ lw_tbl := List.mem_of_getElem? (i := 675) (by decide +kernel)
theorem k_inst_yX6_set : Cond.instanceMethod yX6_set ∈ lw_tbl := List.mem_of_getElem? (i := 676) (by decide +kernel)
theorem k_sel_yX6_set : Cond.selects RX6 yX6_set yX6_set ∈ lw_tbl := List.mem_of_getElem? (i := 677) (by decide +kernel)
theorem k_code_yX6_set : Cond.code yX6_set prog_8_method_45_code 4 (some .int) ∈ lw_tbl := List.mem_of_getElem? (i := 678) (by decide +kernel)
theorem k_ml_RX6_34 : Cond.methodLink RX6 34 yX6_in ∈ lw_tbl := List.mem_of_getElem? (i := 679) (by decide +kernel)
theorem k_stat_yX6_in : Cond.static yX6_in ∈ lw_tbl := List.mem_of_getElem? (i := 680) (by decide +kernel)
theorem k_code_yX6_in : Cond.code yX6_in prog_8_method_3_code 3 (some .boolean) ∈ lw_tbl := List.mem_of_getElem? (i := 681) (by decide +kernel)
theorem k_ml_RX6_145 : Cond.methodLink RX6 145 yX6_isFor ∈ lw_tbl := List.mem_of_getElem? (i := 682) (by decide +kernel)
theorem k_stat_yX6_isFor : Cond.static yX6_isFor ∈ lw_tbl := List.mem_of_getElem? (i := 683) (by decide +kernel)
theorem k_code_yX6_isFor : Cond.code yX6_isFor prog_8_method_44_code 2 (some .boolean) ∈ lw_tbl := List.mem_of_getElem? (i := 684) (by decide +kernel)
theorem k_ml_RL_21 : Cond.methodLink RL 21 yX6_setKind ∈ lw_tbl := List.mem_of_getElem? (i := 685) (by decide +kernel)
theorem k_inst_yX6_setKind : Cond.instanceMethod yX6_setKind ∈ lw_tbl := List.mem_of_getElem? (i := 686) (by decide +kernel)
theorem k_sel_yX6_setKind : Cond.selects RX6 yX6_setKind yX6_setKind ∈ lw_tbl := List.mem_of_getElem? (i := 687) (by decide +kernel)
theorem k_code_yX6_setKind : Cond.code yX6_setKind prog_8_method_46_code 4 (some .int) ∈ lw_tbl := List.mem_of_getElem? (i := 688) (by decide +kernel)
theorem k_ml_RX6_149 : Cond.methodLink RX6 149 yX6_isBlock ∈ lw_tbl := List.mem_of_getElem? (i := 689) (by decide +kernel)
theorem k_stat_yX6_isBlock : Cond.static yX6_isBlock ∈ lw_tbl := List.mem_of_getElem? (i := 690) (by decide +kernel)
theorem k_code_yX6_isBlock : Cond.code yX6_isBlock prog_8_method_5_code 1 (some .boolean) ∈ lw_tbl := List.mem_of_getElem? (i := 691) (by decide +kernel)
theorem k_ml_RX6_64 : Cond.methodLink RX6 64 yX6_isFree ∈ lw_tbl := List.mem_of_getElem? (i := 692) (by decide +kernel)
theorem k_stat_yX6_isFree : Cond.static yX6_isFree ∈ lw_tbl := List.mem_of_getElem? (i := 693) (by decide +kernel)
theorem k_code_yX6_isFree : Cond.code yX6_isFree prog_8_method_19_code 2 (some .boolean) ∈ lw_tbl := List.mem_of_getElem? (i := 694) (by decide +kernel)
theorem k_ml_RX6_60 : Cond.methodLink RX6 60 yX6_many ∈ lw_tbl := List.mem_of_getElem? (i := 695) (by decide +kernel)
theorem k_stat_yX6_many : Cond.static yX6_many ∈ lw_tbl := List.mem_of_getElem? (i := 696) (by decide +kernel)
theorem k_code_yX6_many : Cond.code yX6_many prog_8_method_18_code 5 (some .int) ∈ lw_tbl := List.mem_of_getElem? (i := 697) (by decide +kernel)
theorem k_ml_RX6_53 : Cond.methodLink RX6 53 yX6_holds ∈ lw_tbl := List.mem_of_getElem? (i := 698) (by decide +kernel)
theorem k_stat_yX6_holds : Cond.static yX6_holds ∈ lw_tbl := List.mem_of_getElem? (i := 699) (by decide +kernel)
theorem k_code_yX6_holds : Cond.code yX6_holds prog_8_method_13_code 2 (some .int) ∈ lw_tbl := List.mem_of_getElem? (i := 700) (by decide +kernel)
theorem k_ml_RX6_57 : Cond.methodLink RX6 57 yX6_kind ∈ lw_tbl := List.mem_of_getElem? (i := 701) (by decide +kernel)
theorem k_stat_yX6_kind : Cond.static yX6_kind ∈ lw_tbl := List.mem_of_getElem? (i := 702) (by decide +kernel)
theorem k_code_yX6_kind : Cond.code yX6_kind prog_8_method_16_code 2 (some .int) ∈ lw_tbl := List.mem_of_getElem? (i := 703) (by decide +kernel)
theorem k_ml_RL_26 : Cond.methodLink RL 26 yX6_mark ∈ lw_tbl := List.mem_of_getElem? (i := 704) (by decide +kernel)
theorem k_inst_yX6_mark : Cond.instanceMethod yX6_mark ∈ lw_tbl := List.mem_of_getElem? (i := 705) (by decide +kernel)
theorem k_sel_yX6_mark : Cond.selects RX6 yX6_mark yX6_mark ∈ lw_tbl := List.mem_of_getElem? (i := 706) (by decide +kernel)
theorem k_code_yX6_mark : Cond.code yX6_mark prog_8_method_47_code 4 (some .int) ∈ lw_tbl := List.mem_of_getElem? (i := 707) (by decide +kernel)
theorem k_ml_RX6_152 : Cond.methodLink RX6 152 yX6_marks ∈ lw_tbl := List.mem_of_getElem? (i := 708) (by decide +kernel)
theorem k_stat_yX6_marks : Cond.static yX6_marks ∈ lw_tbl := List.mem_of_getElem? (i := 709) (by decide +kernel)
theorem k_code_yX6_marks : Cond.code yX6_marks prog_8_method_27_code 3 (some .int) ∈ lw_tbl := List.mem_of_getElem? (i := 710) (by decide +kernel)
theorem k_ml_RX6_81 : Cond.methodLink RX6 81 yX6_isMarked ∈ lw_tbl := List.mem_of_getElem? (i := 711) (by decide +kernel)
theorem k_stat_yX6_isMarked : Cond.static yX6_isMarked ∈ lw_tbl := List.mem_of_getElem? (i := 712) (by decide +kernel)
theorem k_code_yX6_isMarked : Cond.code yX6_isMarked prog_8_method_26_code 4 (some .boolean) ∈ lw_tbl := List.mem_of_getElem? (i := 713) (by decide +kernel)
theorem k_ml_RX6_78 : Cond.methodLink RX6 78 yX6_greatest ∈ lw_tbl := List.mem_of_getElem? (i := 714) (by decide +kernel)
theorem k_stat_yX6_greatest : Cond.static yX6_greatest ∈ lw_tbl := List.mem_of_getElem? (i := 715) (by decide +kernel)
theorem k_code_yX6_greatest : Cond.code yX6_greatest prog_8_method_24_code 4 (some .int) ∈ lw_tbl := List.mem_of_getElem? (i := 716) (by decide +kernel)
theorem k_ml_RX6_72 : Cond.methodLink RX6 72 yX6_weak ∈ lw_tbl := List.mem_of_getElem? (i := 717) (by decide +kernel)
theorem k_stat_yX6_weak : Cond.static yX6_weak ∈ lw_tbl := List.mem_of_getElem? (i := 718) (by decide +kernel)
theorem k_code_yX6_weak : Cond.code yX6_weak prog_8_method_14_code 2 (some .int) ∈ lw_tbl := List.mem_of_getElem? (i := 719) (by decide +kernel)
theorem k_ml_RX6_69 : Cond.methodLink RX6 69 yX6_bears ∈ lw_tbl := List.mem_of_getElem? (i := 720) (by decide +kernel)
theorem k_stat_yX6_bears : Cond.static yX6_bears ∈ lw_tbl := List.mem_of_getElem? (i := 721) (by decide +kernel)
theorem k_code_yX6_bears : Cond.code yX6_bears prog_8_method_17_code 4 (some .int) ∈ lw_tbl := List.mem_of_getElem? (i := 722) (by decide +kernel)
theorem k_ml_RL_31 : Cond.methodLink RL 31 yX6_write ∈ lw_tbl := List.mem_of_getElem? (i := 723) (by decide +kernel)
theorem k_inst_yX6_write : Cond.instanceMethod yX6_write ∈ lw_tbl := List.mem_of_getElem? (i := 724) (by decide +kernel)
theorem k_sel_yX6_write : Cond.selects RX6 yX6_write yX6_write ∈ lw_tbl := List.mem_of_getElem? (i := 725) (by decide +kernel)
theorem k_code_yX6_write : Cond.code yX6_write prog_8_method_48_code 3 (some .int) ∈ lw_tbl := List.mem_of_getElem? (i := 726) (by decide +kernel)
theorem k_ml_RX6_155 : Cond.methodLink RX6 155 yX6_tries ∈ lw_tbl := List.mem_of_getElem? (i := 727) (by decide +kernel)
theorem k_priv_yX6_tries : Cond.privateMethod yX6_tries ∈ lw_tbl := List.mem_of_getElem? (i := 728) (by decide +kernel)
theorem k_inst_yX6_tries : Cond.instanceMethod yX6_tries ∈ lw_tbl := List.mem_of_getElem? (i := 729) (by decide +kernel)
theorem k_code_yX6_tries : Cond.code yX6_tries prog_8_method_9_code 1 none ∈ lw_tbl := List.mem_of_getElem? (i := 730) (by decide +kernel)
theorem k_ml_RX6_158 : Cond.methodLink RX6 158 yX6_writesOn ∈ lw_tbl := List.mem_of_getElem? (i := 731) (by decide +kernel)
theorem k_stat_yX6_writesOn : Cond.static yX6_writesOn ∈ lw_tbl := List.mem_of_getElem? (i := 732) (by decide +kernel)
theorem k_code_yX6_writesOn : Cond.code yX6_writesOn prog_8_method_41_code 2 (some .int) ∈ lw_tbl := List.mem_of_getElem? (i := 733) (by decide +kernel)
theorem k_ml_RX6_129 : Cond.methodLink RX6 129 yX6_isPage ∈ lw_tbl := List.mem_of_getElem? (i := 734) (by decide +kernel)
theorem k_stat_yX6_isPage : Cond.static yX6_isPage ∈ lw_tbl := List.mem_of_getElem? (i := 735) (by decide +kernel)
theorem k_code_yX6_isPage : Cond.code yX6_isPage prog_8_method_4_code 1 (some .boolean) ∈ lw_tbl := List.mem_of_getElem? (i := 736) (by decide +kernel)
theorem k_ml_RX6_133 : Cond.methodLink RX6 133 yX6_free ∈ lw_tbl := List.mem_of_getElem? (i := 737) (by decide +kernel)
theorem k_stat_yX6_free : Cond.static yX6_free ∈ lw_tbl := List.mem_of_getElem? (i := 738) (by decide +kernel)
theorem k_code_yX6_free : Cond.code yX6_free prog_8_method_20_code 3 (some .int) ∈ lw_tbl := List.mem_of_getElem? (i := 739) (by decide +kernel)
theorem k_ml_RX6_94 : Cond.methodLink RX6 94 yX6_isOpenFull ∈ lw_tbl := List.mem_of_getElem? (i := 740) (by decide +kernel)
theorem k_stat_yX6_isOpenFull : Cond.static yX6_isOpenFull ∈ lw_tbl := List.mem_of_getElem? (i := 741) (by decide +kernel)
theorem k_code_yX6_isOpenFull : Cond.code yX6_isOpenFull prog_8_method_32_code 1 (some .boolean) ∈ lw_tbl := List.mem_of_getElem? (i := 742) (by decide +kernel)
theorem k_ml_RX6_90 : Cond.methodLink RX6 90 yX6_leaves ∈ lw_tbl := List.mem_of_getElem? (i := 743) (by decide +kernel)
theorem k_stat_yX6_leaves : Cond.static yX6_leaves ∈ lw_tbl := List.mem_of_getElem? (i := 744) (by decide +kernel)
theorem k_code_yX6_leaves : Cond.code yX6_leaves prog_8_method_30_code 4 none ∈ lw_tbl := List.mem_of_getElem? (i := 745) (by decide +kernel)
theorem k_ml_RX6_87 : Cond.methodLink RX6 87 yX6_buffered ∈ lw_tbl := List.mem_of_getElem? (i := 746) (by decide +kernel)
theorem k_stat_yX6_buffered : Cond.static yX6_buffered ∈ lw_tbl := List.mem_of_getElem? (i := 747) (by decide +kernel)
theorem k_code_yX6_buffered : Cond.code yX6_buffered prog_8_method_29_code 3 (some .int) ∈ lw_tbl := List.mem_of_getElem? (i := 748) (by decide +kernel)
theorem k_ml_RX6_117 : Cond.methodLink RX6 117 yX6_gives ∈ lw_tbl := List.mem_of_getElem? (i := 749) (by decide +kernel)
theorem k_stat_yX6_gives : Cond.static yX6_gives ∈ lw_tbl := List.mem_of_getElem? (i := 750) (by decide +kernel)
theorem k_code_yX6_gives : Cond.code yX6_gives prog_8_method_34_code 4 (some .int) ∈ lw_tbl := List.mem_of_getElem? (i := 751) (by decide +kernel)
theorem k_ml_RX6_98 : Cond.methodLink RX6 98 yX6_bestFree ∈ lw_tbl := List.mem_of_getElem? (i := 752) (by decide +kernel)
theorem k_stat_yX6_bestFree : Cond.static yX6_bestFree ∈ lw_tbl := List.mem_of_getElem? (i := 753) (by decide +kernel)
theorem k_code_yX6_bestFree : Cond.code yX6_bestFree prog_8_method_33_code 3 (some .int) ∈ lw_tbl := List.mem_of_getElem? (i := 754) (by decide +kernel)
theorem k_ml_RX6_102 : Cond.methodLink RX6 102 yX6_placeOf ∈ lw_tbl := List.mem_of_getElem? (i := 755) (by decide +kernel)
theorem k_stat_yX6_placeOf : Cond.static yX6_placeOf ∈ lw_tbl := List.mem_of_getElem? (i := 756) (by decide +kernel)
theorem k_code_yX6_placeOf : Cond.code yX6_placeOf prog_8_method_15_code 3 (some .int) ∈ lw_tbl := List.mem_of_getElem? (i := 757) (by decide +kernel)
theorem k_ml_RX6_161 : Cond.methodLink RX6 161 yX6_becomes ∈ lw_tbl := List.mem_of_getElem? (i := 758) (by decide +kernel)
theorem k_priv_yX6_becomes : Cond.privateMethod yX6_becomes ∈ lw_tbl := List.mem_of_getElem? (i := 759) (by decide +kernel)
theorem k_inst_yX6_becomes : Cond.instanceMethod yX6_becomes ∈ lw_tbl := List.mem_of_getElem? (i := 760) (by decide +kernel)
theorem k_code_yX6_becomes : Cond.code yX6_becomes prog_8_method_8_code 2 (some .int) ∈ lw_tbl := List.mem_of_getElem? (i := 761) (by decide +kernel)
theorem k_ml_RL_35 : Cond.methodLink RL 35 yX6_read ∈ lw_tbl := List.mem_of_getElem? (i := 762) (by decide +kernel)
theorem k_inst_yX6_read : Cond.instanceMethod yX6_read ∈ lw_tbl := List.mem_of_getElem? (i := 763) (by decide +kernel)
theorem k_sel_yX6_read : Cond.selects RX6 yX6_read yX6_read ∈ lw_tbl := List.mem_of_getElem? (i := 764) (by decide +kernel)
theorem k_code_yX6_read : Cond.code yX6_read prog_8_method_49_code 3 (some .int) ∈ lw_tbl := List.mem_of_getElem? (i := 765) (by decide +kernel)
theorem k_ml_RX6_165 : Cond.methodLink RX6 165 yX6_readsOn ∈ lw_tbl := List.mem_of_getElem? (i := 766) (by decide +kernel)
theorem k_priv_yX6_readsOn : Cond.privateMethod yX6_readsOn ∈ lw_tbl := List.mem_of_getElem? (i := 767) (by decide +kernel)
theorem k_inst_yX6_readsOn : Cond.instanceMethod yX6_readsOn ∈ lw_tbl := List.mem_of_getElem? (i := 768) (by decide +kernel)
theorem k_code_yX6_readsOn : Cond.code yX6_readsOn prog_8_method_42_code 5 (some .int) ∈ lw_tbl := List.mem_of_getElem? (i := 769) (by decide +kernel)
theorem k_ml_RX6_111 : Cond.methodLink RX6 111 yX6_readsLeft ∈ lw_tbl := List.mem_of_getElem? (i := 770) (by decide +kernel)
theorem k_stat_yX6_readsLeft : Cond.static yX6_readsLeft ∈ lw_tbl := List.mem_of_getElem? (i := 771) (by decide +kernel)
theorem k_code_yX6_readsLeft : Cond.code yX6_readsLeft prog_8_method_22_code 6 (some .int) ∈ lw_tbl := List.mem_of_getElem? (i := 772) (by decide +kernel)
theorem k_const_RX6_68 : Cond.constant RX6 68 (99999) ∈ lw_tbl := List.mem_of_getElem? (i := 773) (by decide +kernel)
theorem k_ml_RX6_75 : Cond.methodLink RX6 75 yX6_weaker ∈ lw_tbl := List.mem_of_getElem? (i := 774) (by decide +kernel)
theorem k_stat_yX6_weaker : Cond.static yX6_weaker ∈ lw_tbl := List.mem_of_getElem? (i := 775) (by decide +kernel)
theorem k_code_yX6_weaker : Cond.code yX6_weaker prog_8_method_21_code 4 (some .int) ∈ lw_tbl := List.mem_of_getElem? (i := 776) (by decide +kernel)
theorem k_ml_RX6_136 : Cond.methodLink RX6 136 yX6_movesAll ∈ lw_tbl := List.mem_of_getElem? (i := 777) (by decide +kernel)
theorem k_stat_yX6_movesAll : Cond.static yX6_movesAll ∈ lw_tbl := List.mem_of_getElem? (i := 778) (by decide +kernel)
theorem k_code_yX6_movesAll : Cond.code yX6_movesAll prog_8_method_39_code 3 (some .int) ∈ lw_tbl := List.mem_of_getElem? (i := 779) (by decide +kernel)
theorem k_ml_RX6_105 : Cond.methodLink RX6 105 yX6_shuts ∈ lw_tbl := List.mem_of_getElem? (i := 780) (by decide +kernel)
theorem k_stat_yX6_shuts : Cond.static yX6_shuts ∈ lw_tbl := List.mem_of_getElem? (i := 781) (by decide +kernel)
theorem k_code_yX6_shuts : Cond.code yX6_shuts prog_8_method_36_code 2 none ∈ lw_tbl := List.mem_of_getElem? (i := 782) (by decide +kernel)
theorem k_ml_RX6_108 : Cond.methodLink RX6 108 yX6_lowestPage ∈ lw_tbl := List.mem_of_getElem? (i := 783) (by decide +kernel)
theorem k_stat_yX6_lowestPage : Cond.static yX6_lowestPage ∈ lw_tbl := List.mem_of_getElem? (i := 784) (by decide +kernel)
theorem k_code_yX6_lowestPage : Cond.code yX6_lowestPage prog_8_method_35_code 3 (some .int) ∈ lw_tbl := List.mem_of_getElem? (i := 785) (by decide +kernel)
theorem k_ml_RX6_120 : Cond.methodLink RX6 120 yX6_moves ∈ lw_tbl := List.mem_of_getElem? (i := 786) (by decide +kernel)
theorem k_stat_yX6_moves : Cond.static yX6_moves ∈ lw_tbl := List.mem_of_getElem? (i := 787) (by decide +kernel)
theorem k_code_yX6_moves : Cond.code yX6_moves prog_8_method_37_code 3 (some .boolean) ∈ lw_tbl := List.mem_of_getElem? (i := 788) (by decide +kernel)
theorem k_ml_RX6_114 : Cond.methodLink RX6 114 yX6_reads ∈ lw_tbl := List.mem_of_getElem? (i := 789) (by decide +kernel)
theorem k_stat_yX6_reads : Cond.static yX6_reads ∈ lw_tbl := List.mem_of_getElem? (i := 790) (by decide +kernel)
theorem k_code_yX6_reads : Cond.code yX6_reads prog_8_method_23_code 4 none ∈ lw_tbl := List.mem_of_getElem? (i := 791) (by decide +kernel)
theorem k_ml_RX6_123 : Cond.methodLink RX6 123 yX6_erases ∈ lw_tbl := List.mem_of_getElem? (i := 792) (by decide +kernel)
theorem k_stat_yX6_erases : Cond.static yX6_erases ∈ lw_tbl := List.mem_of_getElem? (i := 793) (by decide +kernel)
theorem k_code_yX6_erases : Cond.code yX6_erases prog_8_method_38_code 4 none ∈ lw_tbl := List.mem_of_getElem? (i := 794) (by decide +kernel)
theorem k_ml_RX6_139 : Cond.methodLink RX6 139 yX6_fronts ∈ lw_tbl := List.mem_of_getElem? (i := 795) (by decide +kernel)
theorem k_stat_yX6_fronts : Cond.static yX6_fronts ∈ lw_tbl := List.mem_of_getElem? (i := 796) (by decide +kernel)
theorem k_code_yX6_fronts : Cond.code yX6_fronts prog_8_method_31_code 3 none ∈ lw_tbl := List.mem_of_getElem? (i := 797) (by decide +kernel)
theorem k_ml_RL_39 : Cond.methodLink RL 39 yX6_forget ∈ lw_tbl := List.mem_of_getElem? (i := 798) (by decide +kernel)
theorem k_inst_yX6_forget : Cond.instanceMethod yX6_forget ∈ lw_tbl := List.mem_of_getElem? (i := 799) (by decide +kernel)
theorem k_sel_yX6_forget : Cond.selects RX6 yX6_forget yX6_forget ∈ lw_tbl := List.mem_of_getElem? (i := 800) (by decide +kernel)
theorem k_code_yX6_forget : Cond.code yX6_forget prog_8_method_51_code 2 (some .int) ∈ lw_tbl := List.mem_of_getElem? (i := 801) (by decide +kernel)
theorem k_ml_RX6_168 : Cond.methodLink RX6 168 yX6_placed ∈ lw_tbl := List.mem_of_getElem? (i := 802) (by decide +kernel)
theorem k_stat_yX6_placed : Cond.static yX6_placed ∈ lw_tbl := List.mem_of_getElem? (i := 803) (by decide +kernel)
theorem k_code_yX6_placed : Cond.code yX6_placed prog_8_method_50_code 3 (some .int) ∈ lw_tbl := List.mem_of_getElem? (i := 804) (by decide +kernel)
theorem k_ml_RL_43 : Cond.methodLink RL 43 yX6_moveBlock ∈ lw_tbl := List.mem_of_getElem? (i := 805) (by decide +kernel)
theorem k_inst_yX6_moveBlock : Cond.instanceMethod yX6_moveBlock ∈ lw_tbl := List.mem_of_getElem? (i := 806) (by decide +kernel)
theorem k_sel_yX6_moveBlock : Cond.selects RX6 yX6_moveBlock yX6_moveBlock ∈ lw_tbl := List.mem_of_getElem? (i := 807) (by decide +kernel)
theorem k_code_yX6_moveBlock : Cond.code yX6_moveBlock prog_8_method_52_code 3 (some .int) ∈ lw_tbl := List.mem_of_getElem? (i := 808) (by decide +kernel)
theorem k_ml_RL_47 : Cond.methodLink RL 47 yX6_pass ∈ lw_tbl := List.mem_of_getElem? (i := 809) (by decide +kernel)
theorem k_inst_yX6_pass : Cond.instanceMethod yX6_pass ∈ lw_tbl := List.mem_of_getElem? (i := 810) (by decide +kernel)
theorem k_sel_yX6_pass : Cond.selects RX6 yX6_pass yX6_pass ∈ lw_tbl := List.mem_of_getElem? (i := 811) (by decide +kernel)
theorem k_code_yX6_pass : Cond.code yX6_pass prog_8_method_53_code 3 (some .int) ∈ lw_tbl := List.mem_of_getElem? (i := 812) (by decide +kernel)
theorem k_ml_RX6_171 : Cond.methodLink RX6 171 yX6_passesOn ∈ lw_tbl := List.mem_of_getElem? (i := 813) (by decide +kernel)
theorem k_stat_yX6_passesOn : Cond.static yX6_passesOn ∈ lw_tbl := List.mem_of_getElem? (i := 814) (by decide +kernel)
theorem k_code_yX6_passesOn : Cond.code yX6_passesOn prog_8_method_43_code 4 (some .int) ∈ lw_tbl := List.mem_of_getElem? (i := 815) (by decide +kernel)
theorem k_ml_RX6_142 : Cond.methodLink RX6 142 yX6_ticksOn ∈ lw_tbl := List.mem_of_getElem? (i := 816) (by decide +kernel)
theorem k_stat_yX6_ticksOn : Cond.static yX6_ticksOn ∈ lw_tbl := List.mem_of_getElem? (i := 817) (by decide +kernel)
theorem k_code_yX6_ticksOn : Cond.code yX6_ticksOn prog_8_method_40_code 4 (some .int) ∈ lw_tbl := List.mem_of_getElem? (i := 818) (by decide +kernel)
theorem k_ml_RX6_126 : Cond.methodLink RX6 126 yX6_markedAt ∈ lw_tbl := List.mem_of_getElem? (i := 819) (by decide +kernel)
theorem k_stat_yX6_markedAt : Cond.static yX6_markedAt ∈ lw_tbl := List.mem_of_getElem? (i := 820) (by decide +kernel)
theorem k_code_yX6_markedAt : Cond.code yX6_markedAt prog_8_method_28_code 6 (some .int) ∈ lw_tbl := List.mem_of_getElem? (i := 821) (by decide +kernel)
theorem k_ml_RX6_84 : Cond.methodLink RX6 84 yX6_hundredths ∈ lw_tbl := List.mem_of_getElem? (i := 822) (by decide +kernel)
theorem k_stat_yX6_hundredths : Cond.static yX6_hundredths ∈ lw_tbl := List.mem_of_getElem? (i := 823) (by decide +kernel)
theorem k_code_yX6_hundredths : Cond.code yX6_hundredths prog_8_method_25_code 2 (some .int) ∈ lw_tbl := List.mem_of_getElem? (i := 824) (by decide +kernel)
theorem k_ml_RL_52 : Cond.methodLink RL 52 yX6_type ∈ lw_tbl := List.mem_of_getElem? (i := 825) (by decide +kernel)
theorem k_inst_yX6_type : Cond.instanceMethod yX6_type ∈ lw_tbl := List.mem_of_getElem? (i := 826) (by decide +kernel)
theorem k_sel_yX6_type : Cond.selects RX6 yX6_type yX6_type ∈ lw_tbl := List.mem_of_getElem? (i := 827) (by decide +kernel)
theorem k_code_yX6_type : Cond.code yX6_type prog_8_method_54_code 2 (some .int) ∈ lw_tbl := List.mem_of_getElem? (i := 828) (by decide +kernel)
theorem k_ml_RL_57 : Cond.methodLink RL 57 yX6_clearText ∈ lw_tbl := List.mem_of_getElem? (i := 829) (by decide +kernel)
theorem k_inst_yX6_clearText : Cond.instanceMethod yX6_clearText ∈ lw_tbl := List.mem_of_getElem? (i := 830) (by decide +kernel)
theorem k_sel_yX6_clearText : Cond.selects RX6 yX6_clearText yX6_clearText ∈ lw_tbl := List.mem_of_getElem? (i := 831) (by decide +kernel)
theorem k_code_yX6_clearText : Cond.code yX6_clearText prog_8_method_55_code 2 (some .int) ∈ lw_tbl := List.mem_of_getElem? (i := 832) (by decide +kernel)
theorem k_ml_RL_61 : Cond.methodLink RL 61 yX6_perform ∈ lw_tbl := List.mem_of_getElem? (i := 833) (by decide +kernel)
theorem k_inst_yX6_perform : Cond.instanceMethod yX6_perform ∈ lw_tbl := List.mem_of_getElem? (i := 834) (by decide +kernel)
theorem k_sel_yX6_perform : Cond.selects RX6 yX6_perform yX6_perform ∈ lw_tbl := List.mem_of_getElem? (i := 835) (by decide +kernel)
theorem k_code_yX6_perform : Cond.code yX6_perform prog_8_method_62_code 4 (some .int) ∈ lw_tbl := List.mem_of_getElem? (i := 836) (by decide +kernel)
theorem k_ml_RX6_199 : Cond.methodLink RX6 199 yX6_isText ∈ lw_tbl := List.mem_of_getElem? (i := 837) (by decide +kernel)
theorem k_priv_yX6_isText : Cond.privateMethod yX6_isText ∈ lw_tbl := List.mem_of_getElem? (i := 838) (by decide +kernel)
theorem k_inst_yX6_isText : Cond.instanceMethod yX6_isText ∈ lw_tbl := List.mem_of_getElem? (i := 839) (by decide +kernel)
theorem k_code_yX6_isText : Cond.code yX6_isText prog_8_method_60_code 2 (some .boolean) ∈ lw_tbl := List.mem_of_getElem? (i := 840) (by decide +kernel)
theorem k_ml_RX6_195 : Cond.methodLink RX6 195 yX6_isOrder ∈ lw_tbl := List.mem_of_getElem? (i := 841) (by decide +kernel)
theorem k_priv_yX6_isOrder : Cond.privateMethod yX6_isOrder ∈ lw_tbl := List.mem_of_getElem? (i := 842) (by decide +kernel)
theorem k_inst_yX6_isOrder : Cond.instanceMethod yX6_isOrder ∈ lw_tbl := List.mem_of_getElem? (i := 843) (by decide +kernel)
theorem k_code_yX6_isOrder : Cond.code yX6_isOrder prog_8_method_59_code 3 (some .boolean) ∈ lw_tbl := List.mem_of_getElem? (i := 844) (by decide +kernel)
theorem k_ml_RX6_186 : Cond.methodLink RX6 186 yX6_isNumber ∈ lw_tbl := List.mem_of_getElem? (i := 845) (by decide +kernel)
theorem k_priv_yX6_isNumber : Cond.privateMethod yX6_isNumber ∈ lw_tbl := List.mem_of_getElem? (i := 846) (by decide +kernel)
theorem k_inst_yX6_isNumber : Cond.instanceMethod yX6_isNumber ∈ lw_tbl := List.mem_of_getElem? (i := 847) (by decide +kernel)
theorem k_code_yX6_isNumber : Cond.code yX6_isNumber prog_8_method_58_code 3 (some .boolean) ∈ lw_tbl := List.mem_of_getElem? (i := 848) (by decide +kernel)
theorem k_ml_RX6_180 : Cond.methodLink RX6 180 yX6_isAt ∈ lw_tbl := List.mem_of_getElem? (i := 849) (by decide +kernel)
theorem k_priv_yX6_isAt : Cond.privateMethod yX6_isAt ∈ lw_tbl := List.mem_of_getElem? (i := 850) (by decide +kernel)
theorem k_inst_yX6_isAt : Cond.instanceMethod yX6_isAt ∈ lw_tbl := List.mem_of_getElem? (i := 851) (by decide +kernel)
theorem k_code_yX6_isAt : Cond.code yX6_isAt prog_8_method_56_code 3 (some .boolean) ∈ lw_tbl := List.mem_of_getElem? (i := 852) (by decide +kernel)
theorem k_ml_RX6_192 : Cond.methodLink RX6 192 yX6_isSign ∈ lw_tbl := List.mem_of_getElem? (i := 853) (by decide +kernel)
theorem k_priv_yX6_isSign : Cond.privateMethod yX6_isSign ∈ lw_tbl := List.mem_of_getElem? (i := 854) (by decide +kernel)
theorem k_inst_yX6_isSign : Cond.instanceMethod yX6_isSign ∈ lw_tbl := List.mem_of_getElem? (i := 855) (by decide +kernel)
theorem k_code_yX6_isSign : Cond.code yX6_isSign prog_8_method_57_code 3 (some .boolean) ∈ lw_tbl := List.mem_of_getElem? (i := 856) (by decide +kernel)
theorem k_ml_RX6_202 : Cond.methodLink RX6 202 yX6_doesOnce ∈ lw_tbl := List.mem_of_getElem? (i := 857) (by decide +kernel)
theorem k_priv_yX6_doesOnce : Cond.privateMethod yX6_doesOnce ∈ lw_tbl := List.mem_of_getElem? (i := 858) (by decide +kernel)
theorem k_inst_yX6_doesOnce : Cond.instanceMethod yX6_doesOnce ∈ lw_tbl := List.mem_of_getElem? (i := 859) (by decide +kernel)
theorem k_code_yX6_doesOnce : Cond.code yX6_doesOnce prog_8_method_61_code 3 (some .int) ∈ lw_tbl := List.mem_of_getElem? (i := 860) (by decide +kernel)
theorem k_ml_RL_65 : Cond.methodLink RL 65 yX6_refusal ∈ lw_tbl := List.mem_of_getElem? (i := 861) (by decide +kernel)
theorem k_inst_yX6_refusal : Cond.instanceMethod yX6_refusal ∈ lw_tbl := List.mem_of_getElem? (i := 862) (by decide +kernel)
theorem k_sel_yX6_refusal : Cond.selects RX6 yX6_refusal yX6_refusal ∈ lw_tbl := List.mem_of_getElem? (i := 863) (by decide +kernel)
theorem k_code_yX6_refusal : Cond.code yX6_refusal prog_8_method_63_code 2 (some .int) ∈ lw_tbl := List.mem_of_getElem? (i := 864) (by decide +kernel)
theorem k_ml_RL_81 : Cond.methodLink RL 81 yX6_page ∈ lw_tbl := List.mem_of_getElem? (i := 865) (by decide +kernel)
theorem k_inst_yX6_page : Cond.instanceMethod yX6_page ∈ lw_tbl := List.mem_of_getElem? (i := 866) (by decide +kernel)
theorem k_sel_yX6_page : Cond.selects RX6 yX6_page yX6_page ∈ lw_tbl := List.mem_of_getElem? (i := 867) (by decide +kernel)
theorem k_code_yX6_page : Cond.code yX6_page prog_8_method_64_code 4 (some .int) ∈ lw_tbl := List.mem_of_getElem? (i := 868) (by decide +kernel)
theorem k_ml_RL_85 : Cond.methodLink RL 85 yX6_block ∈ lw_tbl := List.mem_of_getElem? (i := 869) (by decide +kernel)
theorem k_inst_yX6_block : Cond.instanceMethod yX6_block ∈ lw_tbl := List.mem_of_getElem? (i := 870) (by decide +kernel)
theorem k_sel_yX6_block : Cond.selects RX6 yX6_block yX6_block ∈ lw_tbl := List.mem_of_getElem? (i := 871) (by decide +kernel)
theorem k_code_yX6_block : Cond.code yX6_block prog_8_method_65_code 4 (some .int) ∈ lw_tbl := List.mem_of_getElem? (i := 872) (by decide +kernel)
theorem k_ml_RL_90 : Cond.methodLink RL 90 yX6_place ∈ lw_tbl := List.mem_of_getElem? (i := 873) (by decide +kernel)
theorem k_inst_yX6_place : Cond.instanceMethod yX6_place ∈ lw_tbl := List.mem_of_getElem? (i := 874) (by decide +kernel)
theorem k_sel_yX6_place : Cond.selects RX6 yX6_place yX6_place ∈ lw_tbl := List.mem_of_getElem? (i := 875) (by decide +kernel)
theorem k_code_yX6_place : Cond.code yX6_place prog_8_method_66_code 6 (some .int) ∈ lw_tbl := List.mem_of_getElem? (i := 876) (by decide +kernel)
theorem k_ml_RL_94 : Cond.methodLink RL 94 yX6_marked ∈ lw_tbl := List.mem_of_getElem? (i := 877) (by decide +kernel)
theorem k_inst_yX6_marked : Cond.instanceMethod yX6_marked ∈ lw_tbl := List.mem_of_getElem? (i := 878) (by decide +kernel)
theorem k_sel_yX6_marked : Cond.selects RX6 yX6_marked yX6_marked ∈ lw_tbl := List.mem_of_getElem? (i := 879) (by decide +kernel)
theorem k_code_yX6_marked : Cond.code yX6_marked prog_8_method_67_code 2 (some .int) ∈ lw_tbl := List.mem_of_getElem? (i := 880) (by decide +kernel)
theorem k_ml_RL_98 : Cond.methodLink RL 98 yX6_quietIn ∈ lw_tbl := List.mem_of_getElem? (i := 881) (by decide +kernel)
theorem k_inst_yX6_quietIn : Cond.instanceMethod yX6_quietIn ∈ lw_tbl := List.mem_of_getElem? (i := 882) (by decide +kernel)
theorem k_sel_yX6_quietIn : Cond.selects RX6 yX6_quietIn yX6_quietIn ∈ lw_tbl := List.mem_of_getElem? (i := 883) (by decide +kernel)
theorem k_code_yX6_quietIn : Cond.code yX6_quietIn prog_8_method_68_code 2 (some .int) ∈ lw_tbl := List.mem_of_getElem? (i := 884) (by decide +kernel)
theorem k_ml_RL_102 : Cond.methodLink RL 102 yX6_erasure ∈ lw_tbl := List.mem_of_getElem? (i := 885) (by decide +kernel)
theorem k_inst_yX6_erasure : Cond.instanceMethod yX6_erasure ∈ lw_tbl := List.mem_of_getElem? (i := 886) (by decide +kernel)
theorem k_sel_yX6_erasure : Cond.selects RX6 yX6_erasure yX6_erasure ∈ lw_tbl := List.mem_of_getElem? (i := 887) (by decide +kernel)
theorem k_code_yX6_erasure : Cond.code yX6_erasure prog_8_method_69_code 3 (some .int) ∈ lw_tbl := List.mem_of_getElem? (i := 888) (by decide +kernel)
theorem k_ml_RL_106 : Cond.methodLink RL 106 yX6_count ∈ lw_tbl := List.mem_of_getElem? (i := 889) (by decide +kernel)
theorem k_inst_yX6_count : Cond.instanceMethod yX6_count ∈ lw_tbl := List.mem_of_getElem? (i := 890) (by decide +kernel)
theorem k_sel_yX6_count : Cond.selects RX6 yX6_count yX6_count ∈ lw_tbl := List.mem_of_getElem? (i := 891) (by decide +kernel)
theorem k_code_yX6_count : Cond.code yX6_count prog_8_method_71_code 2 (some .int) ∈ lw_tbl := List.mem_of_getElem? (i := 892) (by decide +kernel)
theorem k_ml_RX6_208 : Cond.methodLink RX6 208 yX6_weakest ∈ lw_tbl := List.mem_of_getElem? (i := 893) (by decide +kernel)
theorem k_priv_yX6_weakest : Cond.privateMethod yX6_weakest ∈ lw_tbl := List.mem_of_getElem? (i := 894) (by decide +kernel)
theorem k_inst_yX6_weakest : Cond.instanceMethod yX6_weakest ∈ lw_tbl := List.mem_of_getElem? (i := 895) (by decide +kernel)
theorem k_code_yX6_weakest : Cond.code yX6_weakest prog_8_method_70_code 3 (some .int) ∈ lw_tbl := List.mem_of_getElem? (i := 896) (by decide +kernel)
theorem k_ml_RL_110 : Cond.methodLink RL 110 yX6_setting ∈ lw_tbl := List.mem_of_getElem? (i := 897) (by decide +kernel)
theorem k_inst_yX6_setting : Cond.instanceMethod yX6_setting ∈ lw_tbl := List.mem_of_getElem? (i := 898) (by decide +kernel)
theorem k_sel_yX6_setting : Cond.selects RX6 yX6_setting yX6_setting ∈ lw_tbl := List.mem_of_getElem? (i := 899) (by decide +kernel)
theorem k_code_yX6_setting : Cond.code yX6_setting prog_8_method_72_code 2 (some .int) ∈ lw_tbl := List.mem_of_getElem? (i := 900) (by decide +kernel)
theorem k_sel_yX5_settle : Cond.selects RX5 yX5_settle yX5_settle ∈ lw_tbl := List.mem_of_getElem? (i := 0) (by decide +kernel)
theorem k_sel_yX5_performOnce : Cond.selects RX5 yX5_performOnce yX5_performOnce ∈ lw_tbl := List.mem_of_getElem? (i := 1) (by decide +kernel)
theorem k_sel_yX5_noteRefusal : Cond.selects RX5 yX5_noteRefusal yX5_noteRefusal ∈ lw_tbl := List.mem_of_getElem? (i := 2) (by decide +kernel)
theorem k_sel_yX6_records : Cond.selects RX6 yX6_records yX6_records ∈ lw_tbl := List.mem_of_getElem? (i := 3) (by decide +kernel)
theorem k_sel_yX6_tries : Cond.selects RX6 yX6_tries yX6_tries ∈ lw_tbl := List.mem_of_getElem? (i := 4) (by decide +kernel)
theorem k_sel_yX6_becomes : Cond.selects RX6 yX6_becomes yX6_becomes ∈ lw_tbl := List.mem_of_getElem? (i := 5) (by decide +kernel)
theorem k_sel_yX6_readsOn : Cond.selects RX6 yX6_readsOn yX6_readsOn ∈ lw_tbl := List.mem_of_getElem? (i := 6) (by decide +kernel)
theorem k_sel_yX6_isText : Cond.selects RX6 yX6_isText yX6_isText ∈ lw_tbl := List.mem_of_getElem? (i := 7) (by decide +kernel)
theorem k_sel_yX6_isOrder : Cond.selects RX6 yX6_isOrder yX6_isOrder ∈ lw_tbl := List.mem_of_getElem? (i := 8) (by decide +kernel)
theorem k_sel_yX6_isNumber : Cond.selects RX6 yX6_isNumber yX6_isNumber ∈ lw_tbl := List.mem_of_getElem? (i := 9) (by decide +kernel)
theorem k_sel_yX6_isAt : Cond.selects RX6 yX6_isAt yX6_isAt ∈ lw_tbl := List.mem_of_getElem? (i := 10) (by decide +kernel)
theorem k_sel_yX6_isSign : Cond.selects RX6 yX6_isSign yX6_isSign ∈ lw_tbl := List.mem_of_getElem? (i := 11) (by decide +kernel)
theorem k_sel_yX6_doesOnce : Cond.selects RX6 yX6_doesOnce yX6_doesOnce ∈ lw_tbl := List.mem_of_getElem? (i := 12) (by decide +kernel)
theorem k_sel_yX6_weakest : Cond.selects RX6 yX6_weakest yX6_weakest ∈ lw_tbl := List.mem_of_getElem? (i := 13) (by decide +kernel)
end
section
/-! whole numbers as the machine's ints -/
def iI (z : Int) : Int32 := Int32.ofInt z
theorem iI_add (a b : Int) : iI a + iI b = iI (a + b) := (Int32.ofInt_add a b).symm
theorem iI_sub (a b : Int) : iI a - iI b = iI (a - b) := (Int32.ofInt_sub a b).symm
theorem iI_mul (a b : Int) : iI a * iI b = iI (a * b) := (Int32.ofInt_mul a b).symm
theorem iI_toInt {a : Int} (h : -2147483648 ≤ a ∧ a ≤ 2147483647) : (iI a).toInt = a := Int32.toInt_ofInt_of_le (by omega) (by omega)
theorem iI_clamp {a : Int} (h : 0 ≤ a ∧ a ≤ 2147483647) : (iI a).toNatClampNeg = a.toNat := by
  show (iI a).toInt.toNat = a.toNat
  rw [iI_toInt (by omega)]
theorem iI_lt {a b : Int} (ha : -2147483648 ≤ a ∧ a ≤ 2147483647) (hb : -2147483648 ≤ b ∧ b ≤ 2147483647) : iI a < iI b ↔ a < b := by
  rw [Int32.lt_iff_toInt_lt, iI_toInt ha, iI_toInt hb]
theorem iI_le {a b : Int} (ha : -2147483648 ≤ a ∧ a ≤ 2147483647) (hb : -2147483648 ≤ b ∧ b ≤ 2147483647) : iI a ≤ iI b ↔ a ≤ b := by
  rw [Int32.le_iff_toInt_le, iI_toInt ha, iI_toInt hb]
theorem iI_eq {a b : Int} (ha : -2147483648 ≤ a ∧ a ≤ 2147483647) (hb : -2147483648 ≤ b ∧ b ≤ 2147483647) : iI a = iI b ↔ a = b := by
  rw [← Int32.toInt_inj, iI_toInt ha, iI_toInt hb]
theorem iI_zero : (0 : Int32) = iI 0 := rfl
theorem iI_nat (n : Nat) : iI (n : Int) = nI n := by
  first | rfl | simp [iI, nI]
theorem iI_div {a b : Int} (ha : 0 ≤ a ∧ a ≤ 2147483647) (hb : 0 < b ∧ b ≤ 2147483647) : iI a / iI b = iI (a / b) := by
  obtain ⟨n, rfl⟩ := Int.eq_ofNat_of_zero_le ha.1
  obtain ⟨d, rfl⟩ := Int.eq_ofNat_of_zero_le (Int.le_of_lt hb.1)
  rw [iI_nat, iI_nat, pk_div (by omega) (by omega) (by omega), ← iI_nat]
  rfl
theorem iI_rem {a b : Int} (ha : 0 ≤ a ∧ a ≤ 2147483647) (hb : 0 < b ∧ b ≤ 2147483647) : iI a - iI a / iI b * iI b = iI (a % b) := by
  rw [iI_div ha hb, iI_mul, iI_sub]
  congr 1
  have := Int.mul_ediv_add_emod a b
  rw [Int.mul_comm] at this
  omega
theorem iI_self (x : Int32) : x = iI x.toInt := by
  show x = Int32.ofInt x.toInt
  simp
/-! the cells' contents -/
def ar (f : Int → Int) : Nat → Int32 := fun k => iI (f (k : Int))
def up (f : Int → Int) (i v : Int) : Int → Int := fun j => if j = i then v else f j
theorem up_eq {f : Int → Int} {i j v : Int} (h : j = i) : up f i v j = v := if_pos h
theorem up_ne {f : Int → Int} {i j v : Int} (h : j ≠ i) : up f i v j = f j := if_neg h
theorem ar_at {f : Int → Int} {j v : Int} (h : 0 ≤ j ∧ j ≤ 2147483647) (hv : f j = v) : ar f (iI j).toNatClampNeg = iI v := by
  rw [iI_clamp h]
  show iI (f ((j.toNat : Nat) : Int)) = iI v
  rw [Int.toNat_of_nonneg h.1, hv]
theorem ar_up {f : Int → Int} {j v : Int} (h : 0 ≤ j ∧ j ≤ 2147483647) : upd (ar f) (iI j).toNatClampNeg (iI v) = ar (up f j v) := by
  funext k
  rw [iI_clamp h]
  show (if k = j.toNat then iI v else iI (f k)) = iI (if (k : Int) = j then v else f k)
  by_cases hk : (k : Int) = j
  · rw [if_pos hk, if_pos (by omega)]
  · rw [if_neg hk, if_neg (by omega)]
theorem ar_in {j : Int} {n : Nat} (h : 0 ≤ j ∧ j < n) (hn : n ≤ 2147483647) : vp_in (iI j) n := by
  rw [vp_in_iff, iI_toInt (by omega)]
  exact h
theorem arrV_ext {cA : ClassId} {n : Nat} {f g : Nat → Value} (h : ∀ k, k < n → f k = g k) : arrV cA n f = arrV cA n g := by
  unfold arrV
  congr 1
  first
    | (apply Array.ext <;> simp_all; done)
    | (congr 1; apply List.map_congr_left; intro a ha; exact h a (List.mem_range.mp ha))
theorem ar_congr {f g : Int → Int} (cA : ClassId) (n : Nat) (h : ∀ j : Int, 0 ≤ j → j < n → f j = g j) : vp_cell cA (n, .inl (ar f)) = vp_cell cA (n, .inl (ar g)) := by
  rw [vp_cell_i, vp_cell_i]
  refine arrV_ext (fun k hk => ?_)
  show Value.int (iI (f k)) = Value.int (iI (g k))
  rw [h k (by omega) (by omega)]
/-! the machine that a method meets -/
abbrev GG : Type := va_G × (ClassId × ClassId × ClassId × ClassId) × (Nat → Nat)
abbrev tysOf (g : GG) : List (ClassId × FieldType) := [(g.2.1.1, .int), (g.2.1.2.1, .boolean), (g.2.1.2.2.1, .char), (g.2.1.2.2.2, .object "WeakenedPages$Store")]
abbrev eI (g : GG) (n : Nat) (f : Int → Int) : va_E := .inl (g.2.1.1, n, .inl (ar f))
abbrev eZ (g : GG) (n : Nat) (f : Int → Int) : va_E := .inl (g.2.1.2.1, n, .inl (ar f))
abbrev eC (g : GG) (n : Nat) (f : Int → Int) : va_E := .inl (g.2.1.2.2.1, n, .inl (ar f))
abbrev eO (g : GG) (n : Nat) (f : Nat → Option Nat) : va_E := .inl (g.2.1.2.2.2, n, .inr (.inr (.inr (.inr f))))
def NNl : List Cond := [.methodLinkNest RX4 48 yX0_init "WeakenedPages", .methodLinkNest RX4 55 yX1_init "WeakenedPages", .methodLinkNest RX5 38 yX3_init "WeakenedPages", .methodLinkNest RX4 179 yX5_isSetting "WeakenedPages", .methodLinkNest RX4 142 yX5_isBlock "WeakenedPages", .methodLinkNest RX4 105 yX5_isPage "WeakenedPages", .fieldLinkNest RX4 76 "WeakenedPages" "FIRST_KINDS" "[I" "WeakenedPages", .fieldLinkNest RX4 85 "WeakenedPages" "FIRST_SETTINGS" "[I" "WeakenedPages", .fieldLinkNest RX4 182 "WeakenedPages" "LEAST_SETTINGS" "[I" "WeakenedPages", .fieldLinkNest RX4 185 "WeakenedPages" "GREATEST_SETTINGS" "[I" "WeakenedPages", .fieldLinkNest RX4 95 "WeakenedPages" "BEARS_AT_FIRST" "[I" "WeakenedPages", .fieldLinkNest RX4 98 "WeakenedPages" "LOSS_BY_ERASURE" "[I" "WeakenedPages"]
def NN (U : State) : Prop := (∀ w ∈ NNl, va_Nw w U) ∧ va_AO "WeakenedPages$Store" U
theorem NN.warm {s U : State} (hW : s.WarmedH U.vm) (h : NN s) : NN U := by
  refine ⟨fun w hw => ?_, va_AO.moved hW.alike h.2⟩
  have h1 := h.1 w hw
  cases w with
  | methodLinkNest a i x b => exact va_Nw.warmM hW h1
  | fieldLinkNest a i b n d c => exact va_Nw.warmF hW h1
  | _ => simp [NNl] at hw
theorem NN.same {s U : State} (hv : s.vm = U.vm) (h : NN s) : NN U := by
  refine ⟨fun w hw => ?_, va_AO.moved (by rw [hv]; exact Vm.Alike.refl _) h.2⟩
  have h1 := h.1 w hw
  cases w with
  | methodLinkNest a i x b => exact va_Nw.same rfl hv h1
  | fieldLinkNest a i b n d c => exact va_Nw.same rfl hv h1
  | _ => simp [NNl] at hw
def stn : Nat → String
  | 0 => "FIRST_KINDS"
  | 1 => "FIRST_SETTINGS"
  | 2 => "LEAST_SETTINGS"
  | 3 => "GREATEST_SETTINGS"
  | 4 => "BEARS_AT_FIRST"
  | _ => "LOSS_BY_ERASURE"
def stv : Nat → List Int
  | 0 => [0, 0, 1, 1, 1, 2]
  | 1 => [75, 200, 1, 2, 1]
  | 2 => [10, 1, 0, 0, 0]
  | 3 => [100, 999, 8, 4, 1]
  | 4 => [400, 200, 100]
  | _ => [4, 5, 10]
def stf (i : Nat) (j : Int) : Int := (stv i).getD j.toNat 0
def ST (ts : Nat → Nat) (A : Nat → Prop) (U : State) (H : Heap) : Prop := ∀ i : Nat, i < 6 → va_Z "WeakenedPages" (stn i) "[I" (.ref (ts i)) A U H ∧ va_T .int (ts i) (stv i).length (fun k => .int (iI (stf i (k : Int)))) A U H
theorem ST.moved {ts : Nat → Nat} {A : Nat → Prop} {u U : State} {H : Heap} (hvm : u.vm.Alike U.vm) (h : ST ts A u H) : ST ts A U H := fun i hi => ⟨(h i hi).1.moved hvm, (h i hi).2.moved hvm⟩
theorem ST.kept {ts : Nat → Nat} {A : Nat → Prop} {U : State} {H H1 : Heap} (h : ST ts A U H) (hq : ∀ a : Nat, a < H.size → ¬ A a → H1[a]? = H[a]?) : ST ts A U H1 := fun i hi => ⟨(h i hi).1.kept hq, (h i hi).2.kept hq⟩
theorem ST.narrow {ts : Nat → Nat} {A B : Nat → Prop} {U : State} {H : Heap} (h : ST ts A U H) (hAB : ∀ q, B q → A q) : ST ts B U H := fun i hi => ⟨(h i hi).1.narrow hAB, (h i hi).2.narrow hAB⟩
/-- a world at a method's start, and within a method -/
def Wp (g : GG) (ws : va_W) (U : State) : Prop := va_K g.1 vwCl (tysOf g) U ∧ va_P g.1 vwCl ws U.heap ∧ va_D (fun _ => True) ws ∧ NN U ∧ ST g.2.2 (va_A ws U.heap.size) U U.heap
def Wd (g : GG) (A : Nat → Prop) (ws : va_W) (s : State) (H : Heap) (locs : List Loc) : Prop := va_K g.1 vwCl (tysOf g) s ∧ va_P g.1 vwCl ws H ∧ va_D A ws ∧ va_S A s.heap H locs ∧ (∀ q : Nat, s.heap.size ≤ q → A q) ∧ NN s ∧ ST g.2.2 A s s.heap
theorem Wp.wd {g : GG} {ws : va_W} {s : State} (h : Wp g ws s) : Wd g (va_A ws s.heap.size) ws s s.heap [] := ⟨h.1, h.2.1, h.2.2.1.self, va_S.rf, fun _ hq => Or.inr hq, h.2.2.2.1, h.2.2.2.2⟩
theorem Wp.blind {g : GG} {ws : va_W} {U : State} {gg : JFrame} {mk : MethodId} {a : Array Value} (h : Wp g ws U) : Wp g ws (U.calling gg mk a) := ⟨va_K.moved (u := U) (U := U.calling gg mk a) (Vm.Alike.refl U.vm) h.1, h.2.1, h.2.2.1, NN.same (s := U) (U := U.calling gg mk a) rfl h.2.2.2.1, ST.moved (u := U) (U := U.calling gg mk a) (Vm.Alike.refl U.vm) h.2.2.2.2⟩
/-- what a callee meets: the cells at some places of the caller's world -/
theorem Wd.sub {g : GG} {A : Nat → Prop} {ws wc : va_W} {s : State} {H : Heap} {locs : List Loc} (w : Wd g A ws s H locs) (isC : List Nat) (hn : va_nd isC = true) (hC : isC.map (fun i => ws[i]?) = wc.map some) {U : State} (hU : U.heap = H) (hW : s.WarmedH U.vm) : Wp g wc U := by
  obtain ⟨hK, hP, hD, hS, hA, hN, hT⟩ := w
  have hF := va_free hD hS hA isC hC
  have hP1 : va_P g.1 vwCl wc H := by
    intro k q hk
    have h1 : (isC.map (fun i => ws[i]?))[k]? = some (some q) := by rw [hC, List.getElem?_map, hk]; rfl
    rw [List.getElem?_map] at h1
    cases hi : isC[k]? with
    | none => rw [hi] at h1; cases h1
    | some i => rw [hi] at h1; exact hP i q (Option.some.inj h1)
  subst hU
  refine ⟨hK.moved hW.alike, hP1, (hD.sub isC hn hC).weaken (fun _ _ _ _ => trivial), hN.warm hW, ?_⟩
  exact ((hT.kept (fun a h1 h2 => hS.2.1 a h1 h2)).narrow hF).moved hW.alike
/-- behind a call that may change the callee's cells -/
theorem Wd.join {g : GG} {A : Nat → Prop} {ws wc wr w1 : va_W} {s : State} {H H1 : Heap} {locs locs1 : List Loc} (w : Wd g A ws s H locs) (isC isR : List Nat) (hC : isC.map (fun i => ws[i]?) = wc.map some) (hR : isR.map (fun i => ws[i]?) = wr.map some) (hn : va_nd isR = true) (hdis : ∀ i ∈ isR, i ∉ isC)
    (hk : ∀ q : Nat, q < H.size → ¬ va_A wc H.size q → H1[q]? = H[q]?) (hP1 : va_P g.1 vwCl w1 H1) (hD1 : va_D (va_A wc H.size) w1) (hS1 : va_S A s.heap H1 locs1) : Wd g A (wr ++ w1) s H1 locs1 := by
  obtain ⟨hK, hP, hD, hS, hA, hN, hT⟩ := w
  have hF := va_free hD hS hA isC hC
  obtain ⟨j1, j2⟩ := va_join hP hD isC isR hC hR hn hdis hk hF hP1 hD1
  exact ⟨hK, j1, j2, hS1, hA, hN, hT⟩
theorem Wd.perm {g : GG} {A : Nat → Prop} {ws wc : va_W} {s : State} {H : Heap} {locs : List Loc} (w : Wd g A ws s H locs) (isC : List Nat) (hn : va_nd isC = true) (hC : isC.map (fun i => ws[i]?) = wc.map some) : Wd g A wc s H locs := by
  obtain ⟨hK, hP, hD, hS, hA, hN, hT⟩ := w
  refine ⟨hK, ?_, hD.sub isC hn hC, hS, hA, hN, hT⟩
  intro k q hk
  have h1 : (isC.map (fun i => ws[i]?))[k]? = some (some q) := by rw [hC, List.getElem?_map, hk]; rfl
  rw [List.getElem?_map] at h1
  cases hi : isC[k]? with
  | none => rw [hi] at h1; cases h1
  | some i => rw [hi] at h1; exact hP i q (Option.some.inj h1)
/-! contracts -/
abbrev wm (y : MethodName) (b : ByteArray) (n : Nat) (ret : Option FieldType) : List Cond := Cond.code y b n ret :: W0
abbrev rmm (d mc ms : Nat) : Room := { frames := d, cells := mc, slots := ms, locals := 32 * d }
def pR (g : GG) (ws : va_W) (av : List Value) : Array Value → State → Prop := fun v U => v = av.toArray ∧ Wp g ws U
def qR (v : Option Value) : Array Value → State → Outcome → State → Prop := fun _ st oc t => oc = .returned v ∧ t.heap = st.heap
def pW (g : GG) (ws : va_W) (sz : Nat) (av : List Value) : Array Value → State → Prop := fun v U => v = av.toArray ∧ U.heap.size = sz ∧ Wp g ws U
def qW (g : GG) (ws : va_W) (r : Option Value → va_W → Prop) : Array Value → State → Outcome → State → Prop := fun _ st oc t => ∃ (v : Option Value) (w' : va_W), oc = .returned v ∧ r v w' ∧ va_P g.1 vwCl w' t.heap ∧ va_D (va_A ws st.heap.size) w' ∧ va_F (va_A ws st.heap.size) st t
theorem good_wm {y : MethodName} {b : ByteArray} {n : Nat} {ret : Option FieldType} (h : Cond.code y b n ret ∈ W0) : GoodIn W0 (wm y b n ret) := by
  intro w hw
  rcases List.mem_cons.mp hw with rfl | hw
  · exact ⟨h, good_of_word (W0_good _ h)⟩
  · exact ⟨hw, good_of_word (W0_good _ hw)⟩
section CON
variable {l : Launch} {y : MethodName} {cc : ByteArray} {maxL : Nat} {ret : Option FieldType} {d mc ms : Nat} {g : GG} {ws : va_W} {av : List Value}
/-- a method that changes nothing -/
theorem met_r {v : Option Value} (hy : plainName y.cls = true) (hlen : (lg_sl av).length ≤ maxL)
    (body : ∀ (p : Program) (e : Env) (s : State) (m : MethodId) (args : Array Value) (below : List Frame) (meth : Method) (c : Code) (Q : State → Prop) (ls : Array Slot),
      p.tables.exec = Jvm.exec → c.code = cc → c.maxLocals = maxL → s.vm.findClass y.cls = some m.cls → (∀ w ∈ W0, w.before args s = true) → lv_has ls maxL (lv_args 0 av) → Wd g (va_A ws s.heap.size) ws s s.heap [] →
      ((v = none → ret = none → ∀ (pc : Nat) (ls : Array Slot), decode cc pc = .ok (.return_, 1) → W p l e (rmm d 0 0) s m args below meth c s.heap [] 0 0 Q (F0 m pc ls [])) ∧ (∀ z : Int32, v = some (.int z) → (∃ ty, ret = some ty ∧ narrow ty (.int z) = .int z) → ∀ (pc : Nat) (ls : Array Slot), decode cc pc = .ok (.ireturn, 1) → W p l e (rmm d 0 0) s m args below meth c s.heap [] 0 0 Q (F0 m pc ls [.int z]))) →
      W p l e (rmm d 0 0) s m args below meth c s.heap [] 0 0 Q (F0 m 0 ls [])) :
    Met l y (wm y cc maxL ret) (rmm d 0 0) (pR g ws av) (qR v) 0 0 (fun _ => False) := by
  refine Met.ofW (cc := cc) (maxL := maxL) (ret := ret) hy rfl ?_
  intro p e s m args below meth c s₁ B hml hv
  obtain ⟨rfl, hw⟩ := hv
  have hx := B.exec
  have hb := B.bytes
  have hr := B.returns
  have hlocks := B.notSynchronized
  have hts := atoms_spec (ws := wm y cc maxL ret) B.pre
  have hown : s.vm.findClass y.cls = some m.cls := findClass_of_methodNamed B.named
  have hl := lv_entry av (n := maxL) hlen
  rw [lg_entry_eq]
  refine body p e s m _ below meth c _ _ hx hb hml hown (fun w h => hts w (List.mem_cons_of_mem _ h)) hl hw.wd ⟨?_, ?_⟩
  · rintro rfl rfl pc ls hd
    exact W.vret hx hb hr (fun t ht _ => ⟨rfl, ht⟩) (fun q h => by cases h) hd
  · rintro z rfl ⟨ty, rfl, hn⟩ pc ls hd
    exact W.zret hx hb hr hn (fun t ht _ => ⟨rfl, ht⟩) (fun q h => by cases h) hd
/-- a method that may change its world -/
theorem met_w {r : Option Value → va_W → Prop} {sz : Nat} (hy : plainName y.cls = true) (hlen : (lg_sl av).length ≤ maxL)
    (body : ∀ (p : Program) (e : Env) (s : State) (m : MethodId) (args : Array Value) (below : List Frame) (meth : Method) (c : Code) (Q : State → Prop) (ls : Array Slot) (A : Nat → Prop),
      p.tables.exec = Jvm.exec → c.code = cc → c.maxLocals = maxL → s.vm.findClass y.cls = some m.cls → (∀ w ∈ W0, w.before args s = true) → lv_has ls maxL (lv_args 0 av) → Wd g A ws s s.heap [] → (y.name = "<init>" → meth.name = "<init>") →
      ((ret = none → ∀ (H : Heap) (locs : List Loc) (w' : va_W) (pc : Nat) (ls : Array Slot), decode cc pc = .ok (.return_, 1) → Wd g A w' s H locs → r none w' → W p l e (rmm d mc ms) s m args below meth c H locs mc ms Q (F0 m pc ls [])) ∧ (∀ (z : Int32) (H : Heap) (locs : List Loc) (w' : va_W), (∃ ty, ret = some ty ∧ narrow ty (.int z) = .int z) → ∀ (pc : Nat) (ls : Array Slot), decode cc pc = .ok (.ireturn, 1) → Wd g A w' s H locs → r (some (.int z)) w' → W p l e (rmm d mc ms) s m args below meth c H locs mc ms Q (F0 m pc ls [.int z]))) →
      W p l e (rmm d mc ms) s m args below meth c s.heap [] 0 0 Q (F0 m 0 ls [])) :
    Met l y (wm y cc maxL ret) (rmm d mc ms) (pW g ws sz av) (qW g ws r) mc ms (va_A ws sz) := by
  refine Met.ofW (cc := cc) (maxL := maxL) (ret := ret) hy rfl ?_
  intro p e s m args below meth c s₁ B hml hv
  obtain ⟨rfl, rfl, hw⟩ := hv
  have hx := B.exec
  have hb := B.bytes
  have hr := B.returns
  have hlocks := B.notSynchronized
  have hts := atoms_spec (ws := wm y cc maxL ret) B.pre
  have hown : s.vm.findClass y.cls = some m.cls := findClass_of_methodNamed B.named
  have hin : y.name = "<init>" → meth.name = "<init>" := fun h => (name_of_methodNamed B.named B.method).1.trans h
  have hl := lv_entry av (n := maxL) hlen
  rw [lg_entry_eq]
  refine body p e s m _ below meth c _ _ (va_A ws s.heap.size) hx hb hml hown (fun w h => hts w (List.mem_cons_of_mem _ h)) hl hw.wd hin ⟨?_, ?_⟩
  · rintro rfl H locs w' pc ls hd w1 h1
    obtain ⟨hK, hP, hD, hS, hA, hN, hT⟩ := w1
    exact W.vret hx hb hr (fun t ht _ => ⟨none, w', rfl, h1, by rw [ht]; exact hP, hD, hS.F ht⟩) hS.2.2 hd
  · rintro z H locs w' ⟨ty, rfl, hn⟩ pc ls hd w1 h1
    obtain ⟨hK, hP, hD, hS, hA, hN, hT⟩ := w1
    exact W.zret hx hb hr hn (fun t ht _ => ⟨_, w', rfl, h1, by rw [ht]; exact hP, hD, hS.F ht⟩) hS.2.2 hd
end CON
end
section
section ROW
variable {p : Program} {l : Launch} {e : Env} {R : Room} {s : State} {m : MethodId} {args : Array Value} {below : List Frame} {meth : Method} {c : Code} {H : Heap} {locs : List Loc} {cells slots : Nat} {Q : State → Prop}
variable {cc : ByteArray} {pc : Nat} {ls : Array Slot} {rest : List Value} {a : Nat} {ws : va_W} {g : GG} {A : Nat → Prop}
theorem ri_iconst (hx : p.tables.exec = Jvm.exec) (hb : c.code = cc) {n : Int} (hdg : decode cc pc = .ok (.iconst n, 1)) (kk : W p l e R s m args below meth c H locs cells slots Q (F0 m (pc + 1) ls (.int (iI n) :: rest))) : W p l e R s m args below meth c H locs cells slots Q (F0 m pc ls rest) := lv_iconst hx hb hdg rfl kk
theorem ri_bipush (hx : p.tables.exec = Jvm.exec) (hb : c.code = cc) {n : Int} (hdg : decode cc pc = .ok (.bipush n, 2)) (hv : (Int8.ofInt n).toInt32 = iI n) (kk : W p l e R s m args below meth c H locs cells slots Q (F0 m (pc + 2) ls (.int (iI n) :: rest))) : W p l e R s m args below meth c H locs cells slots Q (F0 m pc ls rest) := lv_bipush hx hb hdg hv kk
theorem ri_sipush (hx : p.tables.exec = Jvm.exec) (hb : c.code = cc) {n : Int} (hdg : decode cc pc = .ok (.sipush n, 3)) (hv : (Int16.ofInt n).toInt32 = iI n) (kk : W p l e R s m args below meth c H locs cells slots Q (F0 m (pc + 3) ls (.int (iI n) :: rest))) : W p l e R s m args below meth c H locs cells slots Q (F0 m pc ls rest) := lv_sipush hx hb hdg hv kk
theorem ri_ldc (hx : p.tables.exec = Jvm.exec) (hb : c.code = cc) {own : String} {index : Nat} {v : Int32} {n : Int} (hown : s.vm.findClass own = some m.cls) (hts : ∀ w ∈ W0, w.before args s = true) (hc : Jvm.Cond.constant own index v ∈ W0) (hdg : decode cc pc = .ok (.ldc index, 2)) (hn : v = iI n) (kk : W p l e R s m args below meth c H locs cells slots Q (F0 m (pc + 2) ls (.int (iI n) :: rest))) : W p l e R s m args below meth c H locs cells slots Q (F0 m pc ls rest) := lv_ldc hx hb hown (hts _ hc) hdg (hn ▸ kk)
theorem ri_iadd (hx : p.tables.exec = Jvm.exec) (hb : c.code = cc) {a b z : Int} (hdg : decode cc pc = .ok (.iadd, 1)) (h : a + b = z) (kk : W p l e R s m args below meth c H locs cells slots Q (F0 m (pc + 1) ls (.int (iI z) :: rest))) : W p l e R s m args below meth c H locs cells slots Q (F0 m pc ls (.int (iI b) :: .int (iI a) :: rest)) := by
  subst h
  exact lv_iadd hx hb hdg (by rw [iI_add]; exact kk)
theorem ri_isub (hx : p.tables.exec = Jvm.exec) (hb : c.code = cc) {a b z : Int} (hdg : decode cc pc = .ok (.isub, 1)) (h : a - b = z) (kk : W p l e R s m args below meth c H locs cells slots Q (F0 m (pc + 1) ls (.int (iI z) :: rest))) : W p l e R s m args below meth c H locs cells slots Q (F0 m pc ls (.int (iI b) :: .int (iI a) :: rest)) := by
  subst h
  exact lv_isub hx hb hdg (by rw [iI_sub]; exact kk)
theorem ri_imul (hx : p.tables.exec = Jvm.exec) (hb : c.code = cc) {a b z : Int} (hdg : decode cc pc = .ok (.imul, 1)) (h : a * b = z) (kk : W p l e R s m args below meth c H locs cells slots Q (F0 m (pc + 1) ls (.int (iI z) :: rest))) : W p l e R s m args below meth c H locs cells slots Q (F0 m pc ls (.int (iI b) :: .int (iI a) :: rest)) := by
  subst h
  exact lv_imul hx hb hdg (by rw [iI_mul]; exact kk)
theorem iI_ne0 {b : Int} (hb : 0 < b ∧ b ≤ 2147483647) : ¬ iI b = 0 := by
  rw [iI_zero, iI_eq (by omega) (by omega)]
  omega
theorem ri_idiv (hx : p.tables.exec = Jvm.exec) (hb : c.code = cc) {a b z : Int} (hdg : decode cc pc = .ok (.idiv, 1)) (ha : 0 ≤ a ∧ a ≤ 2147483647) (hb0 : 0 < b ∧ b ≤ 2147483647) (h : a / b = z) (kk : W p l e R s m args below meth c H locs cells slots Q (F0 m (pc + 1) ls (.int (iI z) :: rest))) : W p l e R s m args below meth c H locs cells slots Q (F0 m pc ls (.int (iI b) :: .int (iI a) :: rest)) := by
  subst h
  exact lv_idiv hx hb hdg (iI_ne0 hb0) (by rw [iI_div ha hb0]; exact kk)
theorem ri_irem (hx : p.tables.exec = Jvm.exec) (hb : c.code = cc) {a b z : Int} (hdg : decode cc pc = .ok (.irem, 1)) (ha : 0 ≤ a ∧ a ≤ 2147483647) (hb0 : 0 < b ∧ b ≤ 2147483647) (h : a % b = z) (kk : W p l e R s m args below meth c H locs cells slots Q (F0 m (pc + 1) ls (.int (iI z) :: rest))) : W p l e R s m args below meth c H locs cells slots Q (F0 m pc ls (.int (iI b) :: .int (iI a) :: rest)) := by
  subst h
  exact lv_irem hx hb hdg (iI_ne0 hb0) (by rw [iI_rem ha hb0]; exact kk)
theorem ri_iinc (hx : p.tables.exec = Jvm.exec) (hb : c.code = cc) {i nL k : Nat} {n a z : Int} {lv lv' : List (Nat × Value)} (hdg : decode cc pc = .ok (.iinc i n, 3)) (h : lv_has ls nL lv) (hk : lv[k]? = some (i, .int (iI a))) (hz : a + n = z) (hn : i < nL) (hl : (i, Value.int (iI z)) :: lv.filter (fun q => !(q.1 == i) && !(q.1 + 1 == i && q.2.category == 2)) = lv')
    (kk : ∀ ls' : Array Slot, lv_has ls' nL lv' → W p l e R s m args below meth c H locs cells slots Q (F0 m (pc + 3) ls' rest)) : W p l e R s m args below meth c H locs cells slots Q (F0 m pc ls rest) := by
  subst hz
  exact lv_iinc hx hb hdg h hk (iI_add a n) hn hl kk
theorem ri_i2c (hx : p.tables.exec = Jvm.exec) (hb : c.code = cc) {a z : Int} (hdg : decode cc pc = .ok (.i2c, 1)) (h : ((iI a).toUInt32 % 65536).toInt32 = iI z) (kk : W p l e R s m args below meth c H locs cells slots Q (F0 m (pc + 1) ls (.int (iI z) :: rest))) : W p l e R s m args below meth c H locs cells slots Q (F0 m pc ls (.int (iI a) :: rest)) := lv_i2c hx hb hdg h kk
/-! branches -/
theorem ri_icmp_eq (hx : p.tables.exec = Jvm.exec) (hc : c.code = cc) {a b : Int} {off : Int} {tgt : Nat} (hdg : decode cc pc = .ok (.if_icmp .eq off, 3)) (ht : (pc : Int) + off = (tgt : Int)) (ha : -2147483648 ≤ a ∧ a ≤ 2147483647) (hb : -2147483648 ≤ b ∧ b ≤ 2147483647)
    (kt : a = b → W p l e R s m args below meth c H locs cells slots Q (F0 m tgt ls rest)) (kf : a ≠ b → W p l e R s m args below meth c H locs cells slots Q (F0 m (pc + 3) ls rest)) : W p l e R s m args below meth c H locs cells slots Q (F0 m pc ls (.int (iI b) :: .int (iI a) :: rest)) := lv_icmp_eq hx hc hdg ht (fun h => kt ((iI_eq ha hb).mp h)) (fun h => kf (fun q => h ((iI_eq ha hb).mpr q)))
theorem ri_if_eq (hx : p.tables.exec = Jvm.exec) (hc : c.code = cc) {a : Int} {off : Int} {tgt : Nat} (hdg : decode cc pc = .ok (.ifCond .eq off, 3)) (ht : (pc : Int) + off = (tgt : Int)) (ha : -2147483648 ≤ a ∧ a ≤ 2147483647)
    (kt : a = 0 → W p l e R s m args below meth c H locs cells slots Q (F0 m tgt ls rest)) (kf : a ≠ 0 → W p l e R s m args below meth c H locs cells slots Q (F0 m (pc + 3) ls rest)) : W p l e R s m args below meth c H locs cells slots Q (F0 m pc ls (.int (iI a) :: rest)) := by
  have rg0 : -2147483648 ≤ (0 : Int) ∧ (0 : Int) ≤ 2147483647 := by omega
  exact lv_if_eq hx hc hdg ht (fun h => kt ((iI_eq ha rg0).mp h)) (fun h => kf (fun q => h ((iI_eq ha rg0).mpr q)))
theorem ri_icmp_ne (hx : p.tables.exec = Jvm.exec) (hc : c.code = cc) {a b : Int} {off : Int} {tgt : Nat} (hdg : decode cc pc = .ok (.if_icmp .ne off, 3)) (ht : (pc : Int) + off = (tgt : Int)) (ha : -2147483648 ≤ a ∧ a ≤ 2147483647) (hb : -2147483648 ≤ b ∧ b ≤ 2147483647)
    (kt : a ≠ b → W p l e R s m args below meth c H locs cells slots Q (F0 m tgt ls rest)) (kf : a = b → W p l e R s m args below meth c H locs cells slots Q (F0 m (pc + 3) ls rest)) : W p l e R s m args below meth c H locs cells slots Q (F0 m pc ls (.int (iI b) :: .int (iI a) :: rest)) := lv_icmp_ne hx hc hdg ht (fun h => kt (fun q => h ((iI_eq ha hb).mpr q))) (fun h => kf ((iI_eq ha hb).mp h))
theorem ri_if_ne (hx : p.tables.exec = Jvm.exec) (hc : c.code = cc) {a : Int} {off : Int} {tgt : Nat} (hdg : decode cc pc = .ok (.ifCond .ne off, 3)) (ht : (pc : Int) + off = (tgt : Int)) (ha : -2147483648 ≤ a ∧ a ≤ 2147483647)
    (kt : a ≠ 0 → W p l e R s m args below meth c H locs cells slots Q (F0 m tgt ls rest)) (kf : a = 0 → W p l e R s m args below meth c H locs cells slots Q (F0 m (pc + 3) ls rest)) : W p l e R s m args below meth c H locs cells slots Q (F0 m pc ls (.int (iI a) :: rest)) := by
  have rg0 : -2147483648 ≤ (0 : Int) ∧ (0 : Int) ≤ 2147483647 := by omega
  exact lv_if_ne hx hc hdg ht (fun h => kt (fun q => h ((iI_eq ha rg0).mpr q))) (fun h => kf ((iI_eq ha rg0).mp h))
theorem ri_icmp_lt (hx : p.tables.exec = Jvm.exec) (hc : c.code = cc) {a b : Int} {off : Int} {tgt : Nat} (hdg : decode cc pc = .ok (.if_icmp .lt off, 3)) (ht : (pc : Int) + off = (tgt : Int)) (ha : -2147483648 ≤ a ∧ a ≤ 2147483647) (hb : -2147483648 ≤ b ∧ b ≤ 2147483647)
    (kt : a < b → W p l e R s m args below meth c H locs cells slots Q (F0 m tgt ls rest)) (kf : b ≤ a → W p l e R s m args below meth c H locs cells slots Q (F0 m (pc + 3) ls rest)) : W p l e R s m args below meth c H locs cells slots Q (F0 m pc ls (.int (iI b) :: .int (iI a) :: rest)) := lv_icmp_lt hx hc hdg ht (fun h => kt ((iI_lt ha hb).mp h)) (fun h => kf (Int.not_lt.mp (fun q => h ((iI_lt ha hb).mpr q))))
theorem ri_if_lt (hx : p.tables.exec = Jvm.exec) (hc : c.code = cc) {a : Int} {off : Int} {tgt : Nat} (hdg : decode cc pc = .ok (.ifCond .lt off, 3)) (ht : (pc : Int) + off = (tgt : Int)) (ha : -2147483648 ≤ a ∧ a ≤ 2147483647)
    (kt : a < 0 → W p l e R s m args below meth c H locs cells slots Q (F0 m tgt ls rest)) (kf : 0 ≤ a → W p l e R s m args below meth c H locs cells slots Q (F0 m (pc + 3) ls rest)) : W p l e R s m args below meth c H locs cells slots Q (F0 m pc ls (.int (iI a) :: rest)) := by
  have rg0 : -2147483648 ≤ (0 : Int) ∧ (0 : Int) ≤ 2147483647 := by omega
  exact lv_if_lt hx hc hdg ht (fun h => kt ((iI_lt ha rg0).mp h)) (fun h => kf (Int.not_lt.mp (fun q => h ((iI_lt ha rg0).mpr q))))
theorem ri_icmp_le (hx : p.tables.exec = Jvm.exec) (hc : c.code = cc) {a b : Int} {off : Int} {tgt : Nat} (hdg : decode cc pc = .ok (.if_icmp .le off, 3)) (ht : (pc : Int) + off = (tgt : Int)) (ha : -2147483648 ≤ a ∧ a ≤ 2147483647) (hb : -2147483648 ≤ b ∧ b ≤ 2147483647)
    (kt : a ≤ b → W p l e R s m args below meth c H locs cells slots Q (F0 m tgt ls rest)) (kf : b < a → W p l e R s m args below meth c H locs cells slots Q (F0 m (pc + 3) ls rest)) : W p l e R s m args below meth c H locs cells slots Q (F0 m pc ls (.int (iI b) :: .int (iI a) :: rest)) := lv_icmp_le hx hc hdg ht (fun h => kt ((iI_le ha hb).mp h)) (fun h => kf (Int.not_le.mp (fun q => h ((iI_le ha hb).mpr q))))
theorem ri_if_le (hx : p.tables.exec = Jvm.exec) (hc : c.code = cc) {a : Int} {off : Int} {tgt : Nat} (hdg : decode cc pc = .ok (.ifCond .le off, 3)) (ht : (pc : Int) + off = (tgt : Int)) (ha : -2147483648 ≤ a ∧ a ≤ 2147483647)
    (kt : a ≤ 0 → W p l e R s m args below meth c H locs cells slots Q (F0 m tgt ls rest)) (kf : 0 < a → W p l e R s m args below meth c H locs cells slots Q (F0 m (pc + 3) ls rest)) : W p l e R s m args below meth c H locs cells slots Q (F0 m pc ls (.int (iI a) :: rest)) := by
  have rg0 : -2147483648 ≤ (0 : Int) ∧ (0 : Int) ≤ 2147483647 := by omega
  exact lv_if_le hx hc hdg ht (fun h => kt ((iI_le ha rg0).mp h)) (fun h => kf (Int.not_le.mp (fun q => h ((iI_le ha rg0).mpr q))))
theorem ri_icmp_gt (hx : p.tables.exec = Jvm.exec) (hc : c.code = cc) {a b : Int} {off : Int} {tgt : Nat} (hdg : decode cc pc = .ok (.if_icmp .gt off, 3)) (ht : (pc : Int) + off = (tgt : Int)) (ha : -2147483648 ≤ a ∧ a ≤ 2147483647) (hb : -2147483648 ≤ b ∧ b ≤ 2147483647)
    (kt : b < a → W p l e R s m args below meth c H locs cells slots Q (F0 m tgt ls rest)) (kf : a ≤ b → W p l e R s m args below meth c H locs cells slots Q (F0 m (pc + 3) ls rest)) : W p l e R s m args below meth c H locs cells slots Q (F0 m pc ls (.int (iI b) :: .int (iI a) :: rest)) := lv_icmp_gt hx hc hdg ht (fun h => kt ((iI_lt hb ha).mp h)) (fun h => kf (Int.not_lt.mp (fun q => h ((iI_lt hb ha).mpr q))))
theorem ri_if_gt (hx : p.tables.exec = Jvm.exec) (hc : c.code = cc) {a : Int} {off : Int} {tgt : Nat} (hdg : decode cc pc = .ok (.ifCond .gt off, 3)) (ht : (pc : Int) + off = (tgt : Int)) (ha : -2147483648 ≤ a ∧ a ≤ 2147483647)
    (kt : 0 < a → W p l e R s m args below meth c H locs cells slots Q (F0 m tgt ls rest)) (kf : a ≤ 0 → W p l e R s m args below meth c H locs cells slots Q (F0 m (pc + 3) ls rest)) : W p l e R s m args below meth c H locs cells slots Q (F0 m pc ls (.int (iI a) :: rest)) := by
  have rg0 : -2147483648 ≤ (0 : Int) ∧ (0 : Int) ≤ 2147483647 := by omega
  exact lv_if_gt hx hc hdg ht (fun h => kt ((iI_lt rg0 ha).mp h)) (fun h => kf (Int.not_lt.mp (fun q => h ((iI_lt rg0 ha).mpr q))))
theorem ri_icmp_ge (hx : p.tables.exec = Jvm.exec) (hc : c.code = cc) {a b : Int} {off : Int} {tgt : Nat} (hdg : decode cc pc = .ok (.if_icmp .ge off, 3)) (ht : (pc : Int) + off = (tgt : Int)) (ha : -2147483648 ≤ a ∧ a ≤ 2147483647) (hb : -2147483648 ≤ b ∧ b ≤ 2147483647)
    (kt : b ≤ a → W p l e R s m args below meth c H locs cells slots Q (F0 m tgt ls rest)) (kf : a < b → W p l e R s m args below meth c H locs cells slots Q (F0 m (pc + 3) ls rest)) : W p l e R s m args below meth c H locs cells slots Q (F0 m pc ls (.int (iI b) :: .int (iI a) :: rest)) := lv_icmp_ge hx hc hdg ht (fun h => kt ((iI_le hb ha).mp h)) (fun h => kf (Int.not_le.mp (fun q => h ((iI_le hb ha).mpr q))))
theorem ri_if_ge (hx : p.tables.exec = Jvm.exec) (hc : c.code = cc) {a : Int} {off : Int} {tgt : Nat} (hdg : decode cc pc = .ok (.ifCond .ge off, 3)) (ht : (pc : Int) + off = (tgt : Int)) (ha : -2147483648 ≤ a ∧ a ≤ 2147483647)
    (kt : 0 ≤ a → W p l e R s m args below meth c H locs cells slots Q (F0 m tgt ls rest)) (kf : a < 0 → W p l e R s m args below meth c H locs cells slots Q (F0 m (pc + 3) ls rest)) : W p l e R s m args below meth c H locs cells slots Q (F0 m pc ls (.int (iI a) :: rest)) := by
  have rg0 : -2147483648 ≤ (0 : Int) ∧ (0 : Int) ≤ 2147483647 := by omega
  exact lv_if_ge hx hc hdg ht (fun h => kt ((iI_le rg0 ha).mp h)) (fun h => kf (Int.not_le.mp (fun q => h ((iI_le rg0 ha).mpr q))))
theorem ri_ifb_eq (hx : p.tables.exec = Jvm.exec) (hc : c.code = cc) {P : Prop} [Decidable P] {off : Int} {tgt : Nat} (hdg : decode cc pc = .ok (.ifCond .eq off, 3)) (ht : (pc : Int) + off = (tgt : Int))
    (kt : ¬ P → W p l e R s m args below meth c H locs cells slots Q (F0 m tgt ls rest)) (kf : P → W p l e R s m args below meth c H locs cells slots Q (F0 m (pc + 3) ls rest)) : W p l e R s m args below meth c H locs cells slots Q (F0 m pc ls (.int (iI (if P then 1 else 0)) :: rest)) := by
  by_cases h : P
  · rw [if_pos h]
    exact ri_if_eq hx hc hdg ht (by omega) (fun q => absurd q (by omega)) (fun _ => kf h)
  · rw [if_neg h]
    exact ri_if_eq hx hc hdg ht (by omega) (fun _ => kt h) (fun q => absurd rfl q)
theorem ri_ifb_ne (hx : p.tables.exec = Jvm.exec) (hc : c.code = cc) {P : Prop} [Decidable P] {off : Int} {tgt : Nat} (hdg : decode cc pc = .ok (.ifCond .ne off, 3)) (ht : (pc : Int) + off = (tgt : Int))
    (kt : P → W p l e R s m args below meth c H locs cells slots Q (F0 m tgt ls rest)) (kf : ¬ P → W p l e R s m args below meth c H locs cells slots Q (F0 m (pc + 3) ls rest)) : W p l e R s m args below meth c H locs cells slots Q (F0 m pc ls (.int (iI (if P then 1 else 0)) :: rest)) := by
  by_cases h : P
  · rw [if_pos h]
    exact ri_if_ne hx hc hdg ht (by omega) (fun _ => kt h) (fun q => absurd q (by omega))
  · rw [if_neg h]
    exact ri_if_ne hx hc hdg ht (by omega) (fun q => absurd rfl q) (fun _ => kf h)
/-! arrays -/
theorem ri_iald (hx : p.tables.exec = Jvm.exec) (hb : c.code = cc) (w : Wd g A ws s H locs) (q0 : Nat) {n : Nat} {f : Int → Int} (ha : ws[q0]? = some (a, eI g n f)) {j v : Int} (hj : 0 ≤ j ∧ j < n) (hv : f j = v) (hdg : decode cc pc = .ok (.iaload, 1)) (hn : n ≤ 2147483647)
    (kk : W p l e R s m args below meth c H locs cells slots Q (F0 m (pc + 1) ls (.int (iI v) :: rest))) : W p l e R s m args below meth c H locs cells slots Q (F0 m pc ls (.int (iI j) :: .ref a :: rest)) := by
  refine va_iald hx hb w.1 w.2.1 q0 0 ha rfl (ar_in hj hn) hdg ?_
  rw [ar_at (by omega) hv]
  exact kk
theorem Wd.put {H1 : Heap} {locs1 : List Loc} {ws1 : va_W} (w : Wd g A ws s H locs) (hP : va_P g.1 vwCl ws1 H1) (hD : va_D A ws1) (hS : va_S A s.heap H1 locs1) : Wd g A ws1 s H1 locs1 := ⟨w.1, hP, hD, hS, w.2.2.2.2⟩
theorem ri_iast (hx : p.tables.exec = Jvm.exec) (hb : c.code = cc) (w : Wd g A ws s H locs) (q0 : Nat) {n : Nat} {f : Int → Int} (ha : ws[q0]? = some (a, eI g n f)) {j v : Int} (hj : 0 ≤ j ∧ j < n) (hdg : decode cc pc = .ok (.iastore, 1)) (hn : n ≤ 2147483647)
    (kk : ∀ (H1 : Heap) (locs1 : List Loc), Wd g A (ws.set q0 (a, eI g n (up f j v))) s H1 locs1 → W p l e R s m args below meth c H1 locs1 cells slots Q (F0 m (pc + 1) ls rest)) : W p l e R s m args below meth c H locs cells slots Q (F0 m pc ls (.int (iI v) :: .int (iI j) :: .ref a :: rest)) := by
  refine va_iast hx hb w.1 w.2.1 w.2.2.1 w.2.2.2.1 q0 0 ha rfl (ar_in hj hn) hdg (fun H1 locs1 hP hD hS => ?_)
  rw [ar_up (by omega)] at hP hD
  exact kk H1 locs1 (w.put hP hD hS)
theorem ri_zald (hx : p.tables.exec = Jvm.exec) (hb : c.code = cc) (w : Wd g A ws s H locs) (q0 : Nat) {n : Nat} {f : Int → Int} (ha : ws[q0]? = some (a, eZ g n f)) {j v : Int} (hj : 0 ≤ j ∧ j < n) (hv : f j = v) (hdg : decode cc pc = .ok (.baload, 1)) (hn : n ≤ 2147483647)
    (kk : W p l e R s m args below meth c H locs cells slots Q (F0 m (pc + 1) ls (.int (iI v) :: rest))) : W p l e R s m args below meth c H locs cells slots Q (F0 m pc ls (.int (iI j) :: .ref a :: rest)) := by
  refine va_zald hx hb w.1 w.2.1 q0 1 ha rfl (ar_in hj hn) hdg ?_
  rw [ar_at (by omega) hv]
  exact kk
theorem nar_bool {v : Int} (hv : v = 0 ∨ v = 1) : vp_nar .boolean (iI v) = iI v := by rcases hv with rfl | rfl <;> decide
theorem ri_zast (hx : p.tables.exec = Jvm.exec) (hb : c.code = cc) (w : Wd g A ws s H locs) (q0 : Nat) {n : Nat} {f : Int → Int} (ha : ws[q0]? = some (a, eZ g n f)) {j v : Int} (hj : 0 ≤ j ∧ j < n) (hv : v = 0 ∨ v = 1) (hdg : decode cc pc = .ok (.bastore, 1)) (hn : n ≤ 2147483647)
    (kk : ∀ (H1 : Heap) (locs1 : List Loc), Wd g A (ws.set q0 (a, eZ g n (up f j v))) s H1 locs1 → W p l e R s m args below meth c H1 locs1 cells slots Q (F0 m (pc + 1) ls rest)) : W p l e R s m args below meth c H locs cells slots Q (F0 m pc ls (.int (iI v) :: .int (iI j) :: .ref a :: rest)) := by
  refine va_zast hx hb w.1 w.2.1 w.2.2.1 w.2.2.2.1 q0 1 ha rfl (ar_in hj hn) hdg (fun H1 locs1 hP hD hS => ?_)
  rw [nar_bool hv, ar_up (by omega)] at hP hD
  exact kk H1 locs1 (w.put hP hD hS)
theorem ri_cald (hx : p.tables.exec = Jvm.exec) (hb : c.code = cc) (w : Wd g A ws s H locs) (q0 : Nat) {n : Nat} {f : Int → Int} (ha : ws[q0]? = some (a, eC g n f)) {j v : Int} (hj : 0 ≤ j ∧ j < n) (hv : f j = v) (hdg : decode cc pc = .ok (.caload, 1)) (hn : n ≤ 2147483647)
    (kk : W p l e R s m args below meth c H locs cells slots Q (F0 m (pc + 1) ls (.int (iI v) :: rest))) : W p l e R s m args below meth c H locs cells slots Q (F0 m pc ls (.int (iI j) :: .ref a :: rest)) := by
  refine va_cald hx hb w.1 w.2.1 q0 2 ha rfl (ar_in hj hn) hdg ?_
  rw [ar_at (by omega) hv]
  exact kk
theorem nar_char {v : Int} (hv : 0 ≤ v ∧ v ≤ 65535) : vp_nar .char (iI v) = iI v := by
  obtain ⟨n, rfl⟩ := Int.eq_ofNat_of_zero_le hv.1
  rw [iI_nat]
  have h := (pk_charN (q := n) (by omega)).1
  unfold vp_nar
  rw [h]
theorem ri_cast (hx : p.tables.exec = Jvm.exec) (hb : c.code = cc) (w : Wd g A ws s H locs) (q0 : Nat) {n : Nat} {f : Int → Int} (ha : ws[q0]? = some (a, eC g n f)) {j v : Int} (hj : 0 ≤ j ∧ j < n) (hv : 0 ≤ v ∧ v ≤ 65535) (hdg : decode cc pc = .ok (.castore, 1)) (hn : n ≤ 2147483647)
    (kk : ∀ (H1 : Heap) (locs1 : List Loc), Wd g A (ws.set q0 (a, eC g n (up f j v))) s H1 locs1 → W p l e R s m args below meth c H1 locs1 cells slots Q (F0 m (pc + 1) ls rest)) : W p l e R s m args below meth c H locs cells slots Q (F0 m pc ls (.int (iI v) :: .int (iI j) :: .ref a :: rest)) := by
  refine va_cast hx hb w.1 w.2.1 w.2.2.1 w.2.2.2.1 q0 2 ha rfl (ar_in hj hn) hdg (fun H1 locs1 hP hD hS => ?_)
  rw [nar_char hv, ar_up (by omega)] at hP hD
  exact kk H1 locs1 (w.put hP hD hS)
/-! fields -/
def FldOk (C : String) (T : u_T) (N : Nat) (ty : Nat → FieldType) (ci : Nat) : Prop := vwCl[ci]? = some (C, T, N) ∧ (∀ w ∈ u_ws C T N, w ∈ W0) ∧ (∀ k, k < N → parseFieldDescriptor (T k).2.2.1 = some (ty k)) ∧ ∀ a, a < N → ∀ b, b < N → a ≠ b → (T a).2.1 ≠ (T b).2.1
theorem ri_get (hx : p.tables.exec = Jvm.exec) (hb : c.code = cc) {own C : String} {T : u_T} {N ci index : Nat} {ty : Nat → FieldType} (hts : ∀ w ∈ W0, w.before args s = true) (hown : s.vm.findClass own = some m.cls) (w : Wd g A ws s H locs) (hf : FldOk C T N ty ci) (q0 k : Nat) (hlink : Cond.fieldLink own index (T k).1 (T k).2.1 (T k).2.2.1 ∈ W0) {fs : List Value} {v : Value} (he : ws[q0]? = some (a, .inr (ci, fs))) (hv : fs[k]? = some v) (hk : k < N) (hdg : decode cc pc = .ok (.getfield index, 3))
    (kk : W p l e R s m args below meth c H locs cells slots Q (F0 m (pc + 3) ls (v :: rest))) : W p l e R s m args below meth c H locs cells slots Q (F0 m pc ls (.ref a :: rest)) :=
  va_get hx hb hts hf.2.1 hown w.1 w.2.1 q0 he hf.1 k hk (hts _ hlink) (fun _ h => h) hv hdg kk
theorem ri_put (hx : p.tables.exec = Jvm.exec) (hb : c.code = cc) {own C : String} {T : u_T} {N ci index : Nat} {ty : Nat → FieldType} (hts : ∀ w ∈ W0, w.before args s = true) (hown : s.vm.findClass own = some m.cls) (w : Wd g A ws s H locs) (hf : FldOk C T N ty ci) (q0 k : Nat) (hlink : Cond.fieldLink own index (T k).1 (T k).2.1 (T k).2.2.1 ∈ W0) {fs : List Value} {v : Value} (he : ws[q0]? = some (a, .inr (ci, fs))) (hl : k < fs.length) (hk : k < N) (hfin : (T k).2.2.2 = false) (hn : narrow (ty k) v = v) (hfit : fits (ty k) v = true) (hdg : decode cc pc = .ok (.putfield index, 3))
    (kk : ∀ (H1 : Heap) (locs1 : List Loc), Wd g A (ws.set q0 (a, .inr (ci, fs.set k v))) s H1 locs1 → W p l e R s m args below meth c H1 locs1 cells slots Q (F0 m (pc + 3) ls rest)) : W p l e R s m args below meth c H locs cells slots Q (F0 m pc ls (v :: .ref a :: rest)) :=
  va_put hx hb hts hf.2.1 ty hf.2.2.1 hf.2.2.2 hown w.1 w.2.1 w.2.2.1 w.2.2.2.1 q0 he hf.1 k hk (hts _ hlink) (fun _ h => h) hfin (hf.2.2.1 k hk) hn hfit hl hdg (fun H1 locs1 hP hD hS => kk H1 locs1 (w.put hP hD hS))
theorem ri_putF (hx : p.tables.exec = Jvm.exec) (hb : c.code = cc) {own C : String} {T : u_T} {N ci index : Nat} {ty : Nat → FieldType} (hts : ∀ w ∈ W0, w.before args s = true) (hown : s.vm.findClass own = some m.cls) (w : Wd g A ws s H locs) (hf : FldOk C T N ty ci) (q0 k : Nat) (hlink : Cond.fieldLink own index (T k).1 (T k).2.1 (T k).2.2.1 ∈ W0) {fs : List Value} {v : Value} (he : ws[q0]? = some (a, .inr (ci, fs))) (hl : k < fs.length) (hk : k < N) (hfin : (T k).2.2.2 = true) (hin : meth.name = "<init>") (hdecl : (T k).1 = own) (hn : narrow (ty k) v = v) (hfit : fits (ty k) v = true) (hdg : decode cc pc = .ok (.putfield index, 3))
    (kk : ∀ (H1 : Heap) (locs1 : List Loc), Wd g A (ws.set q0 (a, .inr (ci, fs.set k v))) s H1 locs1 → W p l e R s m args below meth c H1 locs1 cells slots Q (F0 m (pc + 3) ls rest)) : W p l e R s m args below meth c H locs cells slots Q (F0 m pc ls (v :: .ref a :: rest)) :=
  va_putF hx hb hts hf.2.1 ty hf.2.2.1 hf.2.2.2 hown w.1 w.2.1 w.2.2.1 w.2.2.2.1 q0 he hf.1 k hk (hts _ hlink) (fun _ h => h) hfin hin hdecl (hf.2.2.1 k hk) hn hfit hl hdg (fun H1 locs1 hP hD hS => kk H1 locs1 (w.put hP hD hS))
theorem fit_int (z : Int32) : narrow .int (.int z) = .int z ∧ fits .int (.int z) = true := ⟨rfl, rfl⟩
/-! tables -/
theorem ri_gets (hx : p.tables.exec = Jvm.exec) (hb : c.code = cc) {own : String} {index : Nat} (hown : s.vm.findClass own = some m.cls) (w : Wd g A ws s H locs) (i : Nat) (hi : i < 6) (hlink : Cond.fieldLinkNest own index "WeakenedPages" (stn i) "[I" "WeakenedPages" ∈ NNl) (hdg : decode cc pc = .ok (.getstatic index, 3))
    (kk : W p l e R s m args below meth c H locs cells slots Q (F0 m (pc + 3) ls (.ref (g.2.2 i) :: rest))) : W p l e R s m args below meth c H locs cells slots Q (F0 m pc ls rest) :=
  va_getsN hx hb (w.2.2.2.2.2.2 i hi).1 w.2.2.2.1 hown (va_Nw.use rfl (w.2.2.2.2.2.1.1 _ hlink)) (fun _ h => h) hdg kk
theorem ri_tld (hx : p.tables.exec = Jvm.exec) (hb : c.code = cc) (w : Wd g A ws s H locs) (i : Nat) (hi : i < 6) {n : Nat} (hn : (stv i).length = n) {j v : Int} (hj : 0 ≤ j ∧ j < n) (hn2 : n ≤ 2147483647) (hv : stf i j = v) (hdg : decode cc pc = .ok (.iaload, 1))
    (kk : W p l e R s m args below meth c H locs cells slots Q (F0 m (pc + 1) ls (.int (iI v) :: rest))) : W p l e R s m args below meth c H locs cells slots Q (F0 m pc ls (.int (iI j) :: .ref (g.2.2 i) :: rest)) := by
  subst hn
  refine va_ti hx hb (w.2.2.2.2.2.2 i hi).2 w.2.2.2.1 (ar_in hj hn2) (v := .int (iI v)) ?_ hdg kk
  rw [iI_clamp (by omega)]
  show Value.int (iI (stf i ((j.toNat : Nat) : Int))) = _
  rw [Int.toNat_of_nonneg hj.1, hv]
/-! Math -/
theorem ri_max {own : String} {index : Nat} (hx : p.tables.exec = Jvm.exec) (hb : c.code = cc) (hml : c.maxLocals = ls.size) (hown : s.vm.findClass own = some m.cls) (hts : ∀ w ∈ W0, w.before args s = true) (hM : Cond.methodLink own index Lib.Math.max.name ∈ W0 ∧ Cond.static Lib.Math.max.name ∈ W0 ∧ Cond.initialized "java/lang/Math" ∈ W0 ∧ Cond.code Lib.Math.max.name Lib.Math.max.code 2 (some .int) ∈ W0) (hf : 1 ≤ R.frames ∧ (rest.map fun v => v.category).sum + 13 ≤ R.locals ∧ cells ≤ R.cells ∧ slots ≤ R.slots) {a b z : Int} (ha : -2147483648 ≤ a ∧ a ≤ 2147483647) (hb2 : -2147483648 ≤ b ∧ b ≤ 2147483647) (hz : (if a < b then b else a) = z) (hdg : decode cc pc = .ok (.invokestatic index, 3))
    (kk : W p l e R s m args below meth c H locs cells slots Q (F0 m (pc + 3) ls (.int (iI z) :: rest))) : W p l e R s m args below meth c H locs cells slots Q (F0 m pc ls (.int (iI b) :: .int (iI a) :: rest)) := by
  refine va_mmax hx hb hml hown (hts _ hM.1) (hts _ hM.2.1) (hts _ hM.2.2.1) (hts _ hM.2.2.2) hf.1 hf.2.1 hf.2.2.1 hf.2.2.2 hdg ?_
  subst hz
  by_cases h : a < b
  · rw [if_pos ((iI_lt ha hb2).mpr h)]
    rw [if_pos h] at kk
    exact kk
  · rw [if_neg (fun q => h ((iI_lt ha hb2).mp q))]
    rw [if_neg h] at kk
    exact kk
theorem ri_min {own : String} {index : Nat} (hx : p.tables.exec = Jvm.exec) (hb : c.code = cc) (hml : c.maxLocals = ls.size) (hown : s.vm.findClass own = some m.cls) (hts : ∀ w ∈ W0, w.before args s = true) (hM : Cond.methodLink own index Lib.Math.min.name ∈ W0 ∧ Cond.static Lib.Math.min.name ∈ W0 ∧ Cond.initialized "java/lang/Math" ∈ W0 ∧ Cond.code Lib.Math.min.name Lib.Math.min.code 2 (some .int) ∈ W0) (hf : 1 ≤ R.frames ∧ (rest.map fun v => v.category).sum + 13 ≤ R.locals ∧ cells ≤ R.cells ∧ slots ≤ R.slots) {a b z : Int} (ha : -2147483648 ≤ a ∧ a ≤ 2147483647) (hb2 : -2147483648 ≤ b ∧ b ≤ 2147483647) (hz : (if b < a then b else a) = z) (hdg : decode cc pc = .ok (.invokestatic index, 3))
    (kk : W p l e R s m args below meth c H locs cells slots Q (F0 m (pc + 3) ls (.int (iI z) :: rest))) : W p l e R s m args below meth c H locs cells slots Q (F0 m pc ls (.int (iI b) :: .int (iI a) :: rest)) := by
  refine va_mmin hx hb hml hown (hts _ hM.1) (hts _ hM.2.1) (hts _ hM.2.2.1) (hts _ hM.2.2.2) hf.1 hf.2.1 hf.2.2.1 hf.2.2.2 hdg ?_
  subst hz
  by_cases h : b < a
  · rw [if_pos ((iI_lt hb2 ha).mpr h)]
    rw [if_pos h] at kk
    exact kk
  · rw [if_neg (fun q => h ((iI_lt hb2 ha).mp q))]
    rw [if_neg h] at kk
    exact kk
theorem ri_abs {own : String} {index : Nat} (hx : p.tables.exec = Jvm.exec) (hb : c.code = cc) (hml : c.maxLocals = ls.size) (hown : s.vm.findClass own = some m.cls) (hts : ∀ w ∈ W0, w.before args s = true) (hM : Cond.methodLink own index Lib.Math.abs.name ∈ W0 ∧ Cond.static Lib.Math.abs.name ∈ W0 ∧ Cond.initialized "java/lang/Math" ∈ W0 ∧ Cond.code Lib.Math.abs.name Lib.Math.abs.code 1 (some .int) ∈ W0) (hf : 1 ≤ R.frames ∧ (rest.map fun v => v.category).sum + 13 ≤ R.locals ∧ cells ≤ R.cells ∧ slots ≤ R.slots) {a z : Int} (ha : -2147483648 ≤ a ∧ a ≤ 2147483647) (hz : (if 0 ≤ a then a else 0 - a) = z) (hdg : decode cc pc = .ok (.invokestatic index, 3))
    (kk : W p l e R s m args below meth c H locs cells slots Q (F0 m (pc + 3) ls (.int (iI z) :: rest))) : W p l e R s m args below meth c H locs cells slots Q (F0 m pc ls (.int (iI a) :: rest)) := by
  refine va_mabs hx hb hml hown (hts _ hM.1) (hts _ hM.2.1) (hts _ hM.2.2.1) (hts _ hM.2.2.2) hf.1 hf.2.1 hf.2.2.1 hf.2.2.2 hdg ?_
  subst hz
  rw [iI_zero]
  by_cases h : 0 ≤ a
  · rw [if_pos ((iI_le (by omega) ha).mpr h)]
    rw [if_pos h] at kk
    exact kk
  · rw [if_neg (fun q => h ((iI_le (by omega) ha).mp q)), iI_sub]
    rw [if_neg h] at kk
    exact kk
theorem nz {v : Int} (h : v = 0 ∨ v = 1) : narrow .boolean (.int (iI v)) = .int (iI v) := by rcases h with rfl | rfl <;> decide
theorem ri_tabIn (hx : p.tables.exec = Jvm.exec) (hb : c.code = cc) {dflt lo hi : Int} {offs : Array Int} {len : Nat} {a v off : Int} {tgt : Nat} (hdg : decode cc pc = .ok (.tableswitch dflt lo hi offs, len)) (hv : a = v) (hr : -2147483648 ≤ v ∧ v ≤ 2147483647) (h1 : ¬ v < lo) (h2 : ¬ hi < v) (ho : offs[(v - lo).toNat]? = some off) (ht : (pc : Int) + off = (tgt : Int))
    (kk : W p l e R s m args below meth c H locs cells slots Q (F0 m tgt ls rest)) : W p l e R s m args below meth c H locs cells slots Q (F0 m pc ls (.int (iI a) :: rest)) := by
  subst hv
  have e := iI_toInt hr
  exact lv_tableIn hx hb hdg (by rw [e]; exact h1) (by rw [e]; exact h2) (by rw [e]; exact ho) ht kk
theorem ri_tabOut (hx : p.tables.exec = Jvm.exec) (hb : c.code = cc) {dflt lo hi : Int} {offs : Array Int} {len : Nat} {a : Int} {tgt : Nat} (hdg : decode cc pc = .ok (.tableswitch dflt lo hi offs, len)) (hr : -2147483648 ≤ a ∧ a ≤ 2147483647) (h : a < lo ∨ hi < a) (ht : (pc : Int) + dflt = (tgt : Int))
    (kk : W p l e R s m args below meth c H locs cells slots Q (F0 m tgt ls rest)) : W p l e R s m args below meth c H locs cells slots Q (F0 m pc ls (.int (iI a) :: rest)) :=
  lv_tableOut hx hb hdg (by rw [iI_toInt hr]; exact h) ht kk
end ROW
end
section
def NmOk (y : MethodName) (n : Nat) : Prop := y.cls ≠ "java/lang/invoke/MethodHandle" ∧ y.cls ≠ "java/lang/invoke/VarHandle" ∧ (parseMethodDescriptor y.desc).map (fun d => d.parameters.length) = some n
def LkV (own : String) (index : Nat) (y : MethodName) (b : ByteArray) (maxL : Nat) (ret : Option FieldType) (n : Nat) : Prop := Cond.methodLink own index y ∈ W0 ∧ Cond.instanceMethod y ∈ W0 ∧ Cond.selects y.cls y y ∈ W0 ∧ Cond.initialized y.cls ∈ W0 ∧ Cond.code y b maxL ret ∈ W0 ∧ NmOk y n
def LkS (own : String) (index : Nat) (y : MethodName) (b : ByteArray) (maxL : Nat) (ret : Option FieldType) (n : Nat) : Prop := Cond.methodLink own index y ∈ W0 ∧ Cond.static y ∈ W0 ∧ Cond.initialized y.cls ∈ W0 ∧ Cond.code y b maxL ret ∈ W0 ∧ NmOk y n
def LkN (own : String) (index : Nat) (y : MethodName) (b : ByteArray) (maxL : Nat) (ret : Option FieldType) (n : Nat) : Prop := Cond.methodLinkNest own index y "WeakenedPages" ∈ NNl ∧ Cond.static y ∈ W0 ∧ Cond.initialized y.cls ∈ W0 ∧ Cond.code y b maxL ret ∈ W0 ∧ NmOk y n
def LkI (own : String) (index : Nat) (y : MethodName) (b : ByteArray) (maxL : Nat) (n : Nat) : Prop := Cond.methodLink own index y ∈ W0 ∧ Cond.instanceMethod y ∈ W0 ∧ Cond.initialized y.cls ∈ W0 ∧ Cond.code y b maxL none ∈ W0 ∧ NmOk y n ∧ y.name = "<init>"
def LkJ (own : String) (index : Nat) (y : MethodName) (b : ByteArray) (maxL : Nat) (n : Nat) : Prop := Cond.methodLinkNest own index y "WeakenedPages" ∈ NNl ∧ Cond.instanceMethod y ∈ W0 ∧ Cond.initialized y.cls ∈ W0 ∧ Cond.code y b maxL none ∈ W0 ∧ NmOk y n ∧ y.name = "<init>"
section CAL
variable {p : Program} {l : Launch} {e : Env} {R : Room} {s : State} {m : MethodId} {args : Array Value} {below : List Frame} {meth : Method} {c : Code} {H : Heap} {locs : List Loc} {cells slots : Nat} {Q : State → Prop}
variable {cc bytes : ByteArray} {nL maxL index n d mc ms : Nat} {own : String} {y : MethodName} {ret : Option FieldType} {b : Addr} {As rest : List Value} {pc : Nat} {ls : Array Slot} {g : GG} {A : Nat → Prop} {ws wc wr : va_W}
theorem cwb (ht : ∀ w ∈ W0, w.before args s = true) (hc : Cond.code y bytes maxL ret ∈ W0) (hi : Cond.initialized y.cls ∈ W0) (hl : Cond.methodLink own index y ∈ W0) (hn : NmOk y n) (hR : d + 1 ≤ R.frames ∧ 8 + (maxL + 11) + 32 * d ≤ R.locals) : CallB R s args own index y bytes maxL ret (wm y bytes maxL ret) (rmm d mc ms) mc ms n :=
  callB_of n ht (good_wm hc) rfl rfl rfl (ht _ hi) (ht _ hl) hn hR
theorem cwn (ht : ∀ w ∈ W0, w.before args s = true) (hN : NN s) (hc : Cond.code y bytes maxL ret ∈ W0) (hi : Cond.initialized y.cls ∈ W0) (hl : Cond.methodLinkNest own index y "WeakenedPages" ∈ NNl) (hn : NmOk y n) (hR : d + 1 ≤ R.frames ∧ 8 + (maxL + 11) + 32 * d ≤ R.locals) : va_CN R s args own index y "WeakenedPages" bytes maxL ret (wm y bytes maxL ret) (rmm d mc ms) mc ms n :=
  va_cnB n ht (good_wm hc) rfl rfl rfl (hN.1 _ hl) (ht _ hi) hn hR
/-- the call's answer, of a callee that changes nothing -/
theorem va_callR {v : Option Value} {a : Array Value} (hr : va_Run p l e R s m args below meth c H locs cells slots 0 0 (F0 m pc ls As) rest (qR v a) (fun _ => False)) (kk : W p l e R s m args below meth c H locs cells slots Q (F0 m (pc + 3) ls (v.toList ++ rest))) : W p l e R s m args below meth c H locs cells slots Q (F0 m pc ls As) := by
  intro T hT X
  obtain ⟨v', st₀, t, T', L, h0, X', hL, e1, e2, ⟨hv, hh⟩, st⟩ := hr T hT X
  cases hv
  obtain ⟨t2, a1, b1⟩ := kk T' (by rw [e1, hh, h0]) (Stand.forget X' (fun q h => (hL q h).elim))
  exact ⟨t2, st t2 a1, b1⟩
/-- of a callee that may change its cells -/
theorem va_callW {r : Option Value → va_W → Prop} {a : Array Value} (w : Wd g A ws s H locs) (isC isR : List Nat) (hC : isC.map (fun i => ws[i]?) = wc.map some) (hR : isR.map (fun i => ws[i]?) = wr.map some) (hn : va_nd isR = true) (hdis : ∀ i ∈ isR, i ∉ isC)
    (hr : va_Run p l e R s m args below meth c H locs cells slots mc ms (F0 m pc ls As) rest (qW g wc r a) (va_A wc H.size)) (kk : ∀ (v : Option Value) (w' : va_W) (H1 : Heap) (locs1 : List Loc), r v w' → Wd g A (wr ++ w') s H1 locs1 → W p l e R s m args below meth c H1 locs1 (cells + mc) (slots + ms) Q (F0 m (pc + 3) ls (v.toList ++ rest))) : W p l e R s m args below meth c H locs cells slots Q (F0 m pc ls As) := by
  intro T hT X
  obtain ⟨v', st₀, t, T', L, h0, X', hL, e1, e2, ⟨v, w', hv, hrw, hP1, hD1, hz, hk⟩, st⟩ := hr T hT X
  cases hv
  subst h0
  have hF := va_free w.2.2.1 w.2.2.2.1 w.2.2.2.2.1 isC hC
  have hS := w.2.2.2.1
  have hS1 : va_S A s.heap t.heap (locs ++ L) := ⟨Nat.le_trans hS.1 hz, fun q h1 h2 => by rw [hk q (Nat.lt_of_lt_of_le h1 hS.1) (fun z => h2 (hF q z))]; exact hS.2.1 q h1 h2, fun q hq => by
    rcases List.mem_append.mp hq with h | h
    · exact hS.2.2 q h
    · exact hF _ (hL q h)⟩
  have w1 := w.join isC isR hC hR hn hdis hk hP1 hD1 hS1
  obtain ⟨t2, a1, b1⟩ := kk _ w' t.heap (locs ++ L) hrw w1 T' e1 X'
  exact ⟨t2, st t2 a1, b1⟩
theorem pR_blind {av : List Value} : FrameBlind (pR g wc av) := fun _ _ _ _ q => ⟨q.1, q.2.blind⟩
theorem pW_blind {av : List Value} {sz : Nat} : FrameBlind (pW g wc sz av) := fun _ _ _ _ q => ⟨q.1, q.2.1, q.2.2.blind⟩
theorem call_recv {ci q0 : Nat} {fs : List Value} {C : String} {T : u_T} {N : Nat} (w : Wd g A ws s H locs) (he : ws[q0]? = some (b, .inr (ci, fs))) (hc : vwCl[ci]? = some (C, T, N)) : ∃ cell : Cell, H[b]? = some cell ∧ cell.vm.isStatics = false ∧ s.vm.findClass C = some cell.cls := va_recv w.1 w.2.1 hc he
/-- calls of methods that change nothing: of an object, static, static of a nest mate -/
theorem call_rV {v : Option Value} (hx : p.tables.exec = Jvm.exec) (hb : c.code = cc) (hml : c.maxLocals = ls.size) (hown : s.vm.findClass own = some m.cls) (hts : ∀ w ∈ W0, w.before args s = true) (w : Wd g A ws s H locs) (hk : LkV own index y bytes maxL ret n) (hM : Met l y (wm y bytes maxL ret) (rmm d 0 0) (pR g wc (.ref b :: As)) (qR v) 0 0 (fun _ => False)) (isC : List Nat) (hn : va_nd isC = true) (hC : isC.map (fun i => ws[i]?) = wc.map some)
    (hv : ∃ cell : Cell, H[b]? = some cell ∧ cell.vm.isStatics = false ∧ s.vm.findClass y.cls = some cell.cls) (hl : As.length = n) {st : List Value} (hst : st = As.reverse ++ .ref b :: rest) (hrm : (rest.map fun v => v.category).sum ≤ 8) (hR : d + 1 ≤ R.frames ∧ 8 + (maxL + 11) + 32 * d ≤ R.locals) (hf : cells + 0 ≤ R.cells ∧ slots + 0 ≤ R.slots) (hdg : decode cc pc = .ok (.invokevirtual index, 3))
    (kk : W p l e R s m args below meth c H locs cells slots Q (F0 m (pc + 3) ls (v.toList ++ rest))) : W p l e R s m args below meth c H locs cells slots Q (F0 m pc ls st) := by
  subst hst
  exact va_callR (va_runV (As := As) (rest := rest) ⟨hx, hb, hml, hown, hts⟩ hM ⟨cwb hts hk.2.2.2.2.1 hk.2.2.2.1 hk.1 hk.2.2.2.2.2 hR, hts _ hk.2.1, hts _ hk.2.2.1⟩ ⟨pR_blind, hv, fun U hU hW => ⟨rfl, w.sub isC hn hC hU hW⟩⟩ rfl hl rfl rfl (lv_room hrm) hdg hf) kk
theorem call_rS {v : Option Value} (hx : p.tables.exec = Jvm.exec) (hb : c.code = cc) (hml : c.maxLocals = ls.size) (hown : s.vm.findClass own = some m.cls) (hts : ∀ w ∈ W0, w.before args s = true) (w : Wd g A ws s H locs) (hk : LkS own index y bytes maxL ret n) (hM : Met l y (wm y bytes maxL ret) (rmm d 0 0) (pR g wc As) (qR v) 0 0 (fun _ => False)) (isC : List Nat) (hn : va_nd isC = true) (hC : isC.map (fun i => ws[i]?) = wc.map some)
    (hl : As.length = n) {st : List Value} (hst : st = As.reverse ++ rest) (hrm : (rest.map fun v => v.category).sum ≤ 8) (hR : d + 1 ≤ R.frames ∧ 8 + (maxL + 11) + 32 * d ≤ R.locals) (hf : cells + 0 ≤ R.cells ∧ slots + 0 ≤ R.slots) (hdg : decode cc pc = .ok (.invokestatic index, 3))
    (kk : W p l e R s m args below meth c H locs cells slots Q (F0 m (pc + 3) ls (v.toList ++ rest))) : W p l e R s m args below meth c H locs cells slots Q (F0 m pc ls st) := by
  subst hst
  exact va_callR (va_runS (As := As) (rest := rest) ⟨hx, hb, hml, hown, hts⟩ hM ⟨cwb hts hk.2.2.2.1 hk.2.2.1 hk.1 hk.2.2.2.2 hR, hts _ hk.2.1⟩ ⟨pR_blind, fun U hU hW => ⟨rfl, w.sub isC hn hC hU hW⟩⟩ rfl hl rfl rfl (lv_room hrm) hdg hf) kk
theorem call_rN {v : Option Value} (hx : p.tables.exec = Jvm.exec) (hb : c.code = cc) (hml : c.maxLocals = ls.size) (hown : s.vm.findClass own = some m.cls) (hts : ∀ w ∈ W0, w.before args s = true) (w : Wd g A ws s H locs) (hk : LkN own index y bytes maxL ret n) (hM : Met l y (wm y bytes maxL ret) (rmm d 0 0) (pR g wc As) (qR v) 0 0 (fun _ => False)) (isC : List Nat) (hn : va_nd isC = true) (hC : isC.map (fun i => ws[i]?) = wc.map some)
    (hl : As.length = n) {st : List Value} (hst : st = As.reverse ++ rest) (hrm : (rest.map fun v => v.category).sum ≤ 8) (hR : d + 1 ≤ R.frames ∧ 8 + (maxL + 11) + 32 * d ≤ R.locals) (hf : cells + 0 ≤ R.cells ∧ slots + 0 ≤ R.slots) (hdg : decode cc pc = .ok (.invokestatic index, 3))
    (kk : W p l e R s m args below meth c H locs cells slots Q (F0 m (pc + 3) ls (v.toList ++ rest))) : W p l e R s m args below meth c H locs cells slots Q (F0 m pc ls st) := by
  subst hst
  exact va_callR (va_runSN (As := As) (rest := rest) ⟨hx, hb, hml, hown, hts⟩ hM ⟨cwn hts w.2.2.2.2.2.1 hk.2.2.2.1 hk.2.2.1 hk.1 hk.2.2.2.2 hR, hts _ hk.2.1, trivial⟩ ⟨pR_blind, fun U hU hW => ⟨rfl, w.sub isC hn hC hU hW⟩⟩ rfl hl rfl rfl (lv_room hrm) hdg hf) kk
/-- calls of methods that may change their cells -/
theorem call_wV {r : Option Value → va_W → Prop} (hx : p.tables.exec = Jvm.exec) (hb : c.code = cc) (hml : c.maxLocals = ls.size) (hown : s.vm.findClass own = some m.cls) (hts : ∀ w ∈ W0, w.before args s = true) (w : Wd g A ws s H locs) (hk : LkV own index y bytes maxL ret n) (hM : ∀ sz : Nat, Met l y (wm y bytes maxL ret) (rmm d mc ms) (pW g wc sz (.ref b :: As)) (qW g wc r) mc ms (va_A wc sz)) (isC isR : List Nat) (hnC : va_nd isC = true) (hC : isC.map (fun i => ws[i]?) = wc.map some) (hRR : isR.map (fun i => ws[i]?) = wr.map some) (hnR : va_nd isR = true) (hdis : ∀ i ∈ isR, i ∉ isC)
    (hv : ∃ cell : Cell, H[b]? = some cell ∧ cell.vm.isStatics = false ∧ s.vm.findClass y.cls = some cell.cls) (hl : As.length = n) {st : List Value} (hst : st = As.reverse ++ .ref b :: rest) (hrm : (rest.map fun v => v.category).sum ≤ 8) (hR : d + 1 ≤ R.frames ∧ 8 + (maxL + 11) + 32 * d ≤ R.locals) (hf : cells + mc ≤ R.cells ∧ slots + ms ≤ R.slots) (hdg : decode cc pc = .ok (.invokevirtual index, 3))
    (kk : ∀ (v : Option Value) (w' : va_W) (H1 : Heap) (locs1 : List Loc), r v w' → Wd g A (wr ++ w') s H1 locs1 → W p l e R s m args below meth c H1 locs1 (cells + mc) (slots + ms) Q (F0 m (pc + 3) ls (v.toList ++ rest))) : W p l e R s m args below meth c H locs cells slots Q (F0 m pc ls st) := by
  subst hst
  exact va_callW w isC isR hC hRR hnR hdis (va_runV (As := As) (rest := rest) ⟨hx, hb, hml, hown, hts⟩ (hM H.size) ⟨cwb hts hk.2.2.2.2.1 hk.2.2.2.1 hk.1 hk.2.2.2.2.2 hR, hts _ hk.2.1, hts _ hk.2.2.1⟩ ⟨pW_blind, hv, fun U hU hW => ⟨rfl, by rw [hU], w.sub isC hnC hC hU hW⟩⟩ rfl hl rfl rfl (lv_room hrm) hdg hf) kk
theorem call_wS {r : Option Value → va_W → Prop} (hx : p.tables.exec = Jvm.exec) (hb : c.code = cc) (hml : c.maxLocals = ls.size) (hown : s.vm.findClass own = some m.cls) (hts : ∀ w ∈ W0, w.before args s = true) (w : Wd g A ws s H locs) (hk : LkS own index y bytes maxL ret n) (hM : ∀ sz : Nat, Met l y (wm y bytes maxL ret) (rmm d mc ms) (pW g wc sz As) (qW g wc r) mc ms (va_A wc sz)) (isC isR : List Nat) (hnC : va_nd isC = true) (hC : isC.map (fun i => ws[i]?) = wc.map some) (hRR : isR.map (fun i => ws[i]?) = wr.map some) (hnR : va_nd isR = true) (hdis : ∀ i ∈ isR, i ∉ isC)
    (hl : As.length = n) {st : List Value} (hst : st = As.reverse ++ rest) (hrm : (rest.map fun v => v.category).sum ≤ 8) (hR : d + 1 ≤ R.frames ∧ 8 + (maxL + 11) + 32 * d ≤ R.locals) (hf : cells + mc ≤ R.cells ∧ slots + ms ≤ R.slots) (hdg : decode cc pc = .ok (.invokestatic index, 3))
    (kk : ∀ (v : Option Value) (w' : va_W) (H1 : Heap) (locs1 : List Loc), r v w' → Wd g A (wr ++ w') s H1 locs1 → W p l e R s m args below meth c H1 locs1 (cells + mc) (slots + ms) Q (F0 m (pc + 3) ls (v.toList ++ rest))) : W p l e R s m args below meth c H locs cells slots Q (F0 m pc ls st) := by
  subst hst
  exact va_callW w isC isR hC hRR hnR hdis (va_runS (As := As) (rest := rest) ⟨hx, hb, hml, hown, hts⟩ (hM H.size) ⟨cwb hts hk.2.2.2.1 hk.2.2.1 hk.1 hk.2.2.2.2 hR, hts _ hk.2.1⟩ ⟨pW_blind, fun U hU hW => ⟨rfl, by rw [hU], w.sub isC hnC hC hU hW⟩⟩ rfl hl rfl rfl (lv_room hrm) hdg hf) kk
theorem call_wI {r : Option Value → va_W → Prop} (hx : p.tables.exec = Jvm.exec) (hb : c.code = cc) (hml : c.maxLocals = ls.size) (hown : s.vm.findClass own = some m.cls) (hts : ∀ w ∈ W0, w.before args s = true) (w : Wd g A ws s H locs) (hk : LkI own index y bytes maxL n) (hM : ∀ sz : Nat, Met l y (wm y bytes maxL none) (rmm d mc ms) (pW g wc sz (.ref b :: As)) (qW g wc r) mc ms (va_A wc sz)) (isC isR : List Nat) (hnC : va_nd isC = true) (hC : isC.map (fun i => ws[i]?) = wc.map some) (hRR : isR.map (fun i => ws[i]?) = wr.map some) (hnR : va_nd isR = true) (hdis : ∀ i ∈ isR, i ∉ isC)
    (hl : As.length = n) {st : List Value} (hst : st = As.reverse ++ .ref b :: rest) (hrm : (rest.map fun v => v.category).sum ≤ 8) (hR : d + 1 ≤ R.frames ∧ 8 + (maxL + 11) + 32 * d ≤ R.locals) (hf : cells + mc ≤ R.cells ∧ slots + ms ≤ R.slots) (hdg : decode cc pc = .ok (.invokespecial index, 3))
    (kk : ∀ (v : Option Value) (w' : va_W) (H1 : Heap) (locs1 : List Loc), r v w' → Wd g A (wr ++ w') s H1 locs1 → W p l e R s m args below meth c H1 locs1 (cells + mc) (slots + ms) Q (F0 m (pc + 3) ls (v.toList ++ rest))) : W p l e R s m args below meth c H locs cells slots Q (F0 m pc ls st) := by
  subst hst
  exact va_callW w isC isR hC hRR hnR hdis (va_runI (As := As) (rest := rest) ⟨hx, hb, hml, hown, hts⟩ (hM H.size) ⟨cwb hts hk.2.2.2.1 hk.2.2.1 hk.1 hk.2.2.2.2.1 hR, hk.2.2.2.2.2, hts _ hk.2.1⟩ ⟨pW_blind, fun U hU hW => ⟨rfl, by rw [hU], w.sub isC hnC hC hU hW⟩⟩ rfl hl rfl rfl (lv_room hrm) hdg hf) kk
theorem call_wJ {r : Option Value → va_W → Prop} (hx : p.tables.exec = Jvm.exec) (hb : c.code = cc) (hml : c.maxLocals = ls.size) (hown : s.vm.findClass own = some m.cls) (hts : ∀ w ∈ W0, w.before args s = true) (w : Wd g A ws s H locs) (hk : LkJ own index y bytes maxL n) (hM : ∀ sz : Nat, Met l y (wm y bytes maxL none) (rmm d mc ms) (pW g wc sz (.ref b :: As)) (qW g wc r) mc ms (va_A wc sz)) (isC isR : List Nat) (hnC : va_nd isC = true) (hC : isC.map (fun i => ws[i]?) = wc.map some) (hRR : isR.map (fun i => ws[i]?) = wr.map some) (hnR : va_nd isR = true) (hdis : ∀ i ∈ isR, i ∉ isC)
    (hl : As.length = n) {st : List Value} (hst : st = As.reverse ++ .ref b :: rest) (hrm : (rest.map fun v => v.category).sum ≤ 8) (hR : d + 1 ≤ R.frames ∧ 8 + (maxL + 11) + 32 * d ≤ R.locals) (hf : cells + mc ≤ R.cells ∧ slots + ms ≤ R.slots) (hdg : decode cc pc = .ok (.invokespecial index, 3))
    (kk : ∀ (v : Option Value) (w' : va_W) (H1 : Heap) (locs1 : List Loc), r v w' → Wd g A (wr ++ w') s H1 locs1 → W p l e R s m args below meth c H1 locs1 (cells + mc) (slots + ms) Q (F0 m (pc + 3) ls (v.toList ++ rest))) : W p l e R s m args below meth c H locs cells slots Q (F0 m pc ls st) := by
  subst hst
  exact va_callW w isC isR hC hRR hnR hdis (va_runIN (As := As) (rest := rest) ⟨hx, hb, hml, hown, hts⟩ (hM H.size) ⟨cwn hts w.2.2.2.2.2.1 hk.2.2.2.1 hk.2.2.1 hk.1 hk.2.2.2.2.1 hR, hk.2.2.2.2.2, hts _ hk.2.1⟩ ⟨pW_blind, fun U hU hW => ⟨rfl, by rw [hU], w.sub isC hnC hC hU hW⟩⟩ rfl hl rfl rfl (lv_room hrm) hdg hf) kk
end CAL
end
section
theorem fld_ws {C : String} {T : u_T} {N : Nat} (h : (u_ws C T N).all (fun w => decide (w ∈ lw_tbl) && goodWord w) = true) : ∀ w ∈ u_ws C T N, w ∈ W0 := by
  intro w hw
  have h1 := List.all_eq_true.mp h w hw
  simp only [Bool.and_eq_true, decide_eq_true_eq] at h1
  exact W0_of h1.1 h1.2
theorem fX0 : FldOk RX0 TX0 2 tyX0 0 := ⟨rfl, fld_ws (by decide +kernel), tyX0_ok, nmX0⟩
theorem fX1 : FldOk RX1 TX1 4 tyX1 1 := ⟨rfl, fld_ws (by decide +kernel), tyX1_ok, nmX1⟩
theorem fX2 : FldOk RX2 TX2 2 tyX2 2 := ⟨rfl, fld_ws (by decide +kernel), tyX2_ok, nmX2⟩
theorem fX3 : FldOk RX3 TX3 7 tyX3 3 := ⟨rfl, fld_ws (by decide +kernel), tyX3_ok, nmX3⟩
theorem fX4 : FldOk RX4 TX4 18 tyX4 4 := ⟨rfl, fld_ws (by decide +kernel), tyX4_ok, nmX4⟩
theorem fX5 : FldOk RX5 TX5 11 tyX5 5 := ⟨rfl, fld_ws (by decide +kernel), tyX5_ok, nmX5⟩
theorem fX6 : FldOk RX6 TX6 15 tyX6 6 := ⟨rfl, fld_ws (by decide +kernel), tyX6_ok, nmX6⟩
theorem lk_RL_9 : LkI RL 9 yX5_init cX5_init 1 0 := ⟨(W0_of k_ml_RL_9 rfl), (W0_of k_inst_yX5_init rfl), (W0_of k_ini_RX5 rfl), (W0_of k_code_yX5_init rfl), ⟨by decide +kernel, by decide +kernel, by decide +kernel⟩, rfl⟩
theorem lk_RX5_9 : LkI RX5 9 yX4_init cX4_init 2 0 := ⟨(W0_of k_ml_RX5_9 rfl), (W0_of k_inst_yX4_init rfl), (W0_of k_ini_RX4 rfl), (W0_of k_code_yX4_init rfl), ⟨by decide +kernel, by decide +kernel, by decide +kernel⟩, rfl⟩
theorem lk_RX4_48 : LkJ RX4 48 yX0_init cX0_init 1 0 := ⟨by simp [NNl], (W0_of k_inst_yX0_init rfl), (W0_of k_ini_RX0 rfl), (W0_of k_code_yX0_init rfl), ⟨by decide +kernel, by decide +kernel, by decide +kernel⟩, rfl⟩
theorem lk_RX4_55 : LkJ RX4 55 yX1_init cX1_init 1 0 := ⟨by simp [NNl], (W0_of k_inst_yX1_init rfl), (W0_of k_ini_RX1 rfl), (W0_of k_code_yX1_init rfl), ⟨by decide +kernel, by decide +kernel, by decide +kernel⟩, rfl⟩
theorem lk_RX5_31 : LkI RX5 31 yX2_init cX2_init 2 0 := ⟨(W0_of k_ml_RX5_31 rfl), (W0_of k_inst_yX2_init rfl), (W0_of k_ini_RX2 rfl), (W0_of k_code_yX2_init rfl), ⟨by decide +kernel, by decide +kernel, by decide +kernel⟩, rfl⟩
theorem lk_RX2_21 : LkI RX2 21 yX4_init cX4_init 2 0 := ⟨(W0_of k_ml_RX2_21 rfl), (W0_of k_inst_yX4_init rfl), (W0_of k_ini_RX4 rfl), (W0_of k_code_yX4_init rfl), ⟨by decide +kernel, by decide +kernel, by decide +kernel⟩, rfl⟩
theorem lk_RX5_38 : LkJ RX5 38 yX3_init cX3_init 1 0 := ⟨by simp [NNl], (W0_of k_inst_yX3_init rfl), (W0_of k_ini_RX3 rfl), (W0_of k_code_yX3_init rfl), ⟨by decide +kernel, by decide +kernel, by decide +kernel⟩, rfl⟩
theorem lk_RL_13 : LkV RL 13 yX5_set cX5_set 3 (some .int) 2 := ⟨(W0_of k_ml_RL_13 rfl), (W0_of k_inst_yX5_set rfl), (W0_of k_sel_yX5_set rfl), (W0_of k_ini_RX5 rfl), (W0_of k_code_yX5_set rfl), ⟨by decide +kernel, by decide +kernel, by decide +kernel⟩⟩
theorem lk_RX5_56 : LkV RX5 56 yX4_copyFrom cX4_copyFrom 3 none 1 := ⟨(W0_of k_ml_RX5_56 rfl), (W0_of k_inst_yX4_copyFrom rfl), (W0_of k_sel_yX4_copyFrom rfl), (W0_of k_ini_RX4 rfl), (W0_of k_code_yX4_copyFrom rfl), ⟨by decide +kernel, by decide +kernel, by decide +kernel⟩⟩
theorem lk_RX4_88 : LkV RX4 88 yX0_copyFrom cX0_copyFrom 2 none 1 := ⟨(W0_of k_ml_RX4_88 rfl), (W0_of k_inst_yX0_copyFrom rfl), (W0_of k_sel_yX0_copyFrom rfl), (W0_of k_ini_RX0 rfl), (W0_of k_code_yX0_copyFrom rfl), ⟨by decide +kernel, by decide +kernel, by decide +kernel⟩⟩
theorem lk_RX4_92 : LkV RX4 92 yX1_copyFrom cX1_copyFrom 2 none 1 := ⟨(W0_of k_ml_RX4_92 rfl), (W0_of k_inst_yX1_copyFrom rfl), (W0_of k_sel_yX1_copyFrom rfl), (W0_of k_ini_RX1 rfl), (W0_of k_code_yX1_copyFrom rfl), ⟨by decide +kernel, by decide +kernel, by decide +kernel⟩⟩
theorem lk_RX5_60 : LkV RX5 60 yX4_changeSetting cX4_changeSetting 4 (some .int) 2 := ⟨(W0_of k_ml_RX5_60 rfl), (W0_of k_inst_yX4_changeSetting rfl), (W0_of k_sel_yX4_changeSetting rfl), (W0_of k_ini_RX4 rfl), (W0_of k_code_yX4_changeSetting rfl), ⟨by decide +kernel, by decide +kernel, by decide +kernel⟩⟩
theorem lk_RX4_179 : LkN RX4 179 yX5_isSetting cX5_isSetting 1 (some .boolean) 1 := ⟨by simp [NNl], (W0_of k_stat_yX5_isSetting rfl), (W0_of k_ini_RX5 rfl), (W0_of k_code_yX5_isSetting rfl), ⟨by decide +kernel, by decide +kernel, by decide +kernel⟩⟩
theorem lk_RX4_188 : LkV RX4 188 yX0_shrinkTo cX0_shrinkTo 2 none 1 := ⟨(W0_of k_ml_RX4_188 rfl), (W0_of k_inst_yX0_shrinkTo rfl), (W0_of k_sel_yX0_shrinkTo rfl), (W0_of k_ini_RX0 rfl), (W0_of k_code_yX0_shrinkTo rfl), ⟨by decide +kernel, by decide +kernel, by decide +kernel⟩⟩
theorem m_RX0_29 : Cond.methodLink RX0 29 Lib.Math.min.name ∈ W0 ∧ Cond.static Lib.Math.min.name ∈ W0 ∧ Cond.initialized "java/lang/Math" ∈ W0 ∧ Cond.code Lib.Math.min.name Lib.Math.min.code 2 (some .int) ∈ W0 := ⟨(W0_of k_ml_RX0_29 rfl), (W0_of k_stat_Lib_Math_min_name rfl), (W0_of k_ini_Math rfl), (W0_of k_code_Lib_Math_min_name rfl)⟩
theorem lk_RX5_64 : LkV RX5 64 yX5_settle cX5_settle 2 (some .int) 1 := ⟨(W0_of k_ml_RX5_64 rfl), (W0_of k_inst_yX5_settle rfl), (W0_of k_sel_yX5_settle rfl), (W0_of k_ini_RX5 rfl), (W0_of k_code_yX5_settle rfl), ⟨by decide +kernel, by decide +kernel, by decide +kernel⟩⟩
theorem lk_RX5_90 : LkV RX5 90 yX2_record cX2_record 4 none 1 := ⟨(W0_of k_ml_RX5_90 rfl), (W0_of k_inst_yX2_record rfl), (W0_of k_sel_yX2_record rfl), (W0_of k_ini_RX2 rfl), (W0_of k_code_yX2_record rfl), ⟨by decide +kernel, by decide +kernel, by decide +kernel⟩⟩
theorem lk_RX2_22 : LkV RX2 22 yX4_copyFrom cX4_copyFrom 3 none 1 := ⟨(W0_of k_ml_RX2_22 rfl), (W0_of k_inst_yX4_copyFrom rfl), (W0_of k_sel_yX4_copyFrom rfl), (W0_of k_ini_RX4 rfl), (W0_of k_code_yX4_copyFrom rfl), ⟨by decide +kernel, by decide +kernel, by decide +kernel⟩⟩
theorem m_RX2_26 : Cond.methodLink RX2 26 Lib.Math.min.name ∈ W0 ∧ Cond.static Lib.Math.min.name ∈ W0 ∧ Cond.initialized "java/lang/Math" ∈ W0 ∧ Cond.code Lib.Math.min.name Lib.Math.min.code 2 (some .int) ∈ W0 := ⟨(W0_of k_ml_RX2_26 rfl), (W0_of k_stat_Lib_Math_min_name rfl), (W0_of k_ini_Math rfl), (W0_of k_code_Lib_Math_min_name rfl)⟩
theorem lk_RL_18 : LkV RL 18 yX5_setKind cX5_setKind 3 (some .int) 2 := ⟨(W0_of k_ml_RL_18 rfl), (W0_of k_inst_yX5_setKind rfl), (W0_of k_sel_yX5_setKind rfl), (W0_of k_ini_RX5 rfl), (W0_of k_code_yX5_setKind rfl), ⟨by decide +kernel, by decide +kernel, by decide +kernel⟩⟩
theorem lk_RX5_68 : LkV RX5 68 yX4_changeKind cX4_changeKind 4 (some .int) 2 := ⟨(W0_of k_ml_RX5_68 rfl), (W0_of k_inst_yX4_changeKind rfl), (W0_of k_sel_yX4_changeKind rfl), (W0_of k_ini_RX4 rfl), (W0_of k_code_yX4_changeKind rfl), ⟨by decide +kernel, by decide +kernel, by decide +kernel⟩⟩
theorem lk_RX4_142 : LkN RX4 142 yX5_isBlock cX5_isBlock 1 (some .boolean) 1 := ⟨by simp [NNl], (W0_of k_stat_yX5_isBlock rfl), (W0_of k_ini_RX5 rfl), (W0_of k_code_yX5_isBlock rfl), ⟨by decide +kernel, by decide +kernel, by decide +kernel⟩⟩
theorem lk_RX4_101 : LkV RX4 101 yX4_isFree cX4_isFree 2 (some .boolean) 1 := ⟨(W0_of k_ml_RX4_101 rfl), (W0_of k_inst_yX4_isFree rfl), (W0_of k_sel_yX4_isFree rfl), (W0_of k_ini_RX4 rfl), (W0_of k_code_yX4_isFree rfl), ⟨by decide +kernel, by decide +kernel, by decide +kernel⟩⟩
theorem lk_RL_22 : LkV RL 22 yX5_mark cX5_mark 3 (some .int) 2 := ⟨(W0_of k_ml_RL_22 rfl), (W0_of k_inst_yX5_mark rfl), (W0_of k_sel_yX5_mark rfl), (W0_of k_ini_RX5 rfl), (W0_of k_code_yX5_mark rfl), ⟨by decide +kernel, by decide +kernel, by decide +kernel⟩⟩
theorem lk_RX5_71 : LkV RX5 71 yX4_changeCall cX4_changeCall 3 (some .int) 2 := ⟨(W0_of k_ml_RX5_71 rfl), (W0_of k_inst_yX4_changeCall rfl), (W0_of k_sel_yX4_changeCall rfl), (W0_of k_ini_RX4 rfl), (W0_of k_code_yX4_changeCall rfl), ⟨by decide +kernel, by decide +kernel, by decide +kernel⟩⟩
theorem lk_RX4_191 : LkV RX4 191 yX4_markedBlocks cX4_markedBlocks 3 (some .int) 0 := ⟨(W0_of k_ml_RX4_191 rfl), (W0_of k_inst_yX4_markedBlocks rfl), (W0_of k_sel_yX4_markedBlocks rfl), (W0_of k_ini_RX4 rfl), (W0_of k_code_yX4_markedBlocks rfl), ⟨by decide +kernel, by decide +kernel, by decide +kernel⟩⟩
theorem lk_RX4_130 : LkV RX4 130 yX4_isMarked cX4_isMarked 2 (some .boolean) 1 := ⟨(W0_of k_ml_RX4_130 rfl), (W0_of k_inst_yX4_isMarked rfl), (W0_of k_sel_yX4_isMarked rfl), (W0_of k_ini_RX4 rfl), (W0_of k_code_yX4_isMarked rfl), ⟨by decide +kernel, by decide +kernel, by decide +kernel⟩⟩
theorem lk_RX4_127 : LkV RX4 127 yX4_isOld cX4_isOld 4 (some .boolean) 1 := ⟨(W0_of k_ml_RX4_127 rfl), (W0_of k_inst_yX4_isOld rfl), (W0_of k_sel_yX4_isOld rfl), (W0_of k_ini_RX4 rfl), (W0_of k_code_yX4_isOld rfl), ⟨by decide +kernel, by decide +kernel, by decide +kernel⟩⟩
theorem lk_RX4_112 : LkV RX4 112 yX4_greatestOfPages cX4_greatestOfPages 5 (some .int) 1 := ⟨(W0_of k_ml_RX4_112 rfl), (W0_of k_inst_yX4_greatestOfPages rfl), (W0_of k_sel_yX4_greatestOfPages rfl), (W0_of k_ini_RX4 rfl), (W0_of k_code_yX4_greatestOfPages rfl), ⟨by decide +kernel, by decide +kernel, by decide +kernel⟩⟩
theorem lk_RX4_115 : LkV RX4 115 yX4_bears cX4_bears 4 (some .int) 1 := ⟨(W0_of k_ml_RX4_115 rfl), (W0_of k_inst_yX4_bears rfl), (W0_of k_sel_yX4_bears rfl), (W0_of k_ini_RX4 rfl), (W0_of k_code_yX4_bears rfl), ⟨by decide +kernel, by decide +kernel, by decide +kernel⟩⟩
theorem lk_RL_27 : LkV RL 27 yX5_write cX5_write 2 (some .int) 1 := ⟨(W0_of k_ml_RL_27 rfl), (W0_of k_inst_yX5_write rfl), (W0_of k_sel_yX5_write rfl), (W0_of k_ini_RX5 rfl), (W0_of k_code_yX5_write rfl), ⟨by decide +kernel, by decide +kernel, by decide +kernel⟩⟩
theorem lk_RX5_75 : LkV RX5 75 yX4_writePage cX4_writePage 3 (some .int) 1 := ⟨(W0_of k_ml_RX5_75 rfl), (W0_of k_inst_yX4_writePage rfl), (W0_of k_sel_yX4_writePage rfl), (W0_of k_ini_RX4 rfl), (W0_of k_code_yX4_writePage rfl), ⟨by decide +kernel, by decide +kernel, by decide +kernel⟩⟩
theorem lk_RX4_105 : LkN RX4 105 yX5_isPage cX5_isPage 1 (some .boolean) 1 := ⟨by simp [NNl], (W0_of k_stat_yX5_isPage rfl), (W0_of k_ini_RX5 rfl), (W0_of k_code_yX5_isPage rfl), ⟨by decide +kernel, by decide +kernel, by decide +kernel⟩⟩
theorem lk_RX4_149 : LkV RX4 149 yX4_blockWithRoom cX4_blockWithRoom 4 (some .int) 0 := ⟨(W0_of k_ml_RX4_149 rfl), (W0_of k_inst_yX4_blockWithRoom rfl), (W0_of k_sel_yX4_blockWithRoom rfl), (W0_of k_ini_RX4 rfl), (W0_of k_code_yX4_blockWithRoom rfl), ⟨by decide +kernel, by decide +kernel, by decide +kernel⟩⟩
theorem lk_RX4_162 : LkV RX4 162 yX4_putInto cX4_putInto 4 none 2 := ⟨(W0_of k_ml_RX4_162 rfl), (W0_of k_inst_yX4_putInto rfl), (W0_of k_sel_yX4_putInto rfl), (W0_of k_ini_RX4 rfl), (W0_of k_code_yX4_putInto rfl), ⟨by decide +kernel, by decide +kernel, by decide +kernel⟩⟩
theorem lk_RX4_145 : LkV RX4 145 yX4_dropPlace cX4_dropPlace 3 none 1 := ⟨(W0_of k_ml_RX4_145 rfl), (W0_of k_inst_yX4_dropPlace rfl), (W0_of k_sel_yX4_dropPlace rfl), (W0_of k_ini_RX4 rfl), (W0_of k_code_yX4_dropPlace rfl), ⟨by decide +kernel, by decide +kernel, by decide +kernel⟩⟩
theorem lk_RX4_194 : LkV RX4 194 yX4_freeBlocks cX4_freeBlocks 3 (some .int) 0 := ⟨(W0_of k_ml_RX4_194 rfl), (W0_of k_inst_yX4_freeBlocks rfl), (W0_of k_sel_yX4_freeBlocks rfl), (W0_of k_ini_RX4 rfl), (W0_of k_code_yX4_freeBlocks rfl), ⟨by decide +kernel, by decide +kernel, by decide +kernel⟩⟩
theorem lk_RX4_197 : LkV RX4 197 yX0_drop cX0_drop 4 none 1 := ⟨(W0_of k_ml_RX4_197 rfl), (W0_of k_inst_yX0_drop rfl), (W0_of k_sel_yX0_drop rfl), (W0_of k_ini_RX0 rfl), (W0_of k_code_yX0_drop rfl), ⟨by decide +kernel, by decide +kernel, by decide +kernel⟩⟩
theorem lk_RX0_38 : LkV RX0 38 yX0_rankOf cX0_rankOf 3 (some .int) 1 := ⟨(W0_of k_ml_RX0_38 rfl), (W0_of k_inst_yX0_rankOf rfl), (W0_of k_sel_yX0_rankOf rfl), (W0_of k_ini_RX0 rfl), (W0_of k_code_yX0_rankOf rfl), ⟨by decide +kernel, by decide +kernel, by decide +kernel⟩⟩
theorem lk_RL_32 : LkV RL 32 yX5_read cX5_read 2 (some .int) 1 := ⟨(W0_of k_ml_RL_32 rfl), (W0_of k_inst_yX5_read rfl), (W0_of k_sel_yX5_read rfl), (W0_of k_ini_RX5 rfl), (W0_of k_code_yX5_read rfl), ⟨by decide +kernel, by decide +kernel, by decide +kernel⟩⟩
theorem lk_RX5_78 : LkV RX5 78 yX4_readPage cX4_readPage 3 (some .int) 1 := ⟨(W0_of k_ml_RX5_78 rfl), (W0_of k_inst_yX4_readPage rfl), (W0_of k_sel_yX4_readPage rfl), (W0_of k_ini_RX4 rfl), (W0_of k_code_yX4_readPage rfl), ⟨by decide +kernel, by decide +kernel, by decide +kernel⟩⟩
theorem lk_RX4_200 : LkV RX4 200 yX4_hasPlace cX4_hasPlace 2 (some .boolean) 1 := ⟨(W0_of k_ml_RX4_200 rfl), (W0_of k_inst_yX4_hasPlace rfl), (W0_of k_sel_yX4_hasPlace rfl), (W0_of k_ini_RX4 rfl), (W0_of k_code_yX4_hasPlace rfl), ⟨by decide +kernel, by decide +kernel, by decide +kernel⟩⟩
theorem lk_RX4_203 : LkV RX4 203 yX0_rankOf cX0_rankOf 3 (some .int) 1 := ⟨(W0_of k_ml_RX4_203 rfl), (W0_of k_inst_yX0_rankOf rfl), (W0_of k_sel_yX0_rankOf rfl), (W0_of k_ini_RX0 rfl), (W0_of k_code_yX0_rankOf rfl), ⟨by decide +kernel, by decide +kernel, by decide +kernel⟩⟩
theorem lk_RX4_156 : LkV RX4 156 yX4_mayRead cX4_mayRead 5 (some .boolean) 1 := ⟨(W0_of k_ml_RX4_156 rfl), (W0_of k_inst_yX4_mayRead rfl), (W0_of k_sel_yX4_mayRead rfl), (W0_of k_ini_RX4 rfl), (W0_of k_code_yX4_mayRead rfl), ⟨by decide +kernel, by decide +kernel, by decide +kernel⟩⟩
theorem lk_RX4_136 : LkV RX4 136 yX4_addedBy cX4_addedBy 5 (some .int) 2 := ⟨(W0_of k_ml_RX4_136 rfl), (W0_of k_inst_yX4_addedBy rfl), (W0_of k_sel_yX4_addedBy rfl), (W0_of k_ini_RX4 rfl), (W0_of k_code_yX4_addedBy rfl), ⟨by decide +kernel, by decide +kernel, by decide +kernel⟩⟩
theorem m_RX4_133 : Cond.methodLink RX4 133 Lib.Math.abs.name ∈ W0 ∧ Cond.static Lib.Math.abs.name ∈ W0 ∧ Cond.initialized "java/lang/Math" ∈ W0 ∧ Cond.code Lib.Math.abs.name Lib.Math.abs.code 1 (some .int) ∈ W0 := ⟨(W0_of k_ml_RX4_133 rfl), (W0_of k_stat_Lib_Math_abs_name rfl), (W0_of k_ini_Math rfl), (W0_of k_code_Lib_Math_abs_name rfl)⟩
theorem lk_RX4_206 : LkV RX4 206 yX4_moveWhole cX4_moveWhole 4 (some .int) 1 := ⟨(W0_of k_ml_RX4_206 rfl), (W0_of k_inst_yX4_moveWhole rfl), (W0_of k_sel_yX4_moveWhole rfl), (W0_of k_ini_RX4 rfl), (W0_of k_code_yX4_moveWhole rfl), ⟨by decide +kernel, by decide +kernel, by decide +kernel⟩⟩
theorem lk_RX4_108 : LkV RX4 108 yX4_pagesIn cX4_pagesIn 5 (some .int) 1 := ⟨(W0_of k_ml_RX4_108 rfl), (W0_of k_inst_yX4_pagesIn rfl), (W0_of k_sel_yX4_pagesIn rfl), (W0_of k_ini_RX4 rfl), (W0_of k_code_yX4_pagesIn rfl), ⟨by decide +kernel, by decide +kernel, by decide +kernel⟩⟩
theorem lk_RX4_170 : LkV RX4 170 yX4_moveLowestPage cX4_moveLowestPage 4 (some .boolean) 1 := ⟨(W0_of k_ml_RX4_170 rfl), (W0_of k_inst_yX4_moveLowestPage rfl), (W0_of k_sel_yX4_moveLowestPage rfl), (W0_of k_ini_RX4 rfl), (W0_of k_code_yX4_moveLowestPage rfl), ⟨by decide +kernel, by decide +kernel, by decide +kernel⟩⟩
theorem lk_RX4_153 : LkV RX4 153 yX4_lowestPlaceWithPage cX4_lowestPlaceWithPage 4 (some .int) 1 := ⟨(W0_of k_ml_RX4_153 rfl), (W0_of k_inst_yX4_lowestPlaceWithPage rfl), (W0_of k_sel_yX4_lowestPlaceWithPage rfl), (W0_of k_ini_RX4 rfl), (W0_of k_code_yX4_lowestPlaceWithPage rfl), ⟨by decide +kernel, by decide +kernel, by decide +kernel⟩⟩
theorem lk_RX4_159 : LkV RX4 159 yX4_readPlace cX4_readPlace 4 none 1 := ⟨(W0_of k_ml_RX4_159 rfl), (W0_of k_inst_yX4_readPlace rfl), (W0_of k_sel_yX4_readPlace rfl), (W0_of k_ini_RX4 rfl), (W0_of k_code_yX4_readPlace rfl), ⟨by decide +kernel, by decide +kernel, by decide +kernel⟩⟩
theorem lk_RX4_173 : LkV RX4 173 yX4_erase cX4_erase 5 none 1 := ⟨(W0_of k_ml_RX4_173 rfl), (W0_of k_inst_yX4_erase rfl), (W0_of k_sel_yX4_erase rfl), (W0_of k_ini_RX4 rfl), (W0_of k_code_yX4_erase rfl), ⟨by decide +kernel, by decide +kernel, by decide +kernel⟩⟩
theorem m_RX4_121 : Cond.methodLink RX4 121 Lib.Math.max.name ∈ W0 ∧ Cond.static Lib.Math.max.name ∈ W0 ∧ Cond.initialized "java/lang/Math" ∈ W0 ∧ Cond.code Lib.Math.max.name Lib.Math.max.code 2 (some .int) ∈ W0 := ⟨(W0_of k_ml_RX4_121 rfl), (W0_of k_stat_Lib_Math_max_name rfl), (W0_of k_ini_Math rfl), (W0_of k_code_Lib_Math_max_name rfl)⟩
theorem lk_RX4_166 : LkV RX4 166 yX1_note cX1_note 5 none 3 := ⟨(W0_of k_ml_RX4_166 rfl), (W0_of k_inst_yX1_note rfl), (W0_of k_sel_yX1_note rfl), (W0_of k_ini_RX1 rfl), (W0_of k_code_yX1_note rfl), ⟨by decide +kernel, by decide +kernel, by decide +kernel⟩⟩
theorem lk_RX4_209 : LkV RX4 209 yX0_putFirst cX0_putFirst 5 none 2 := ⟨(W0_of k_ml_RX4_209 rfl), (W0_of k_inst_yX0_putFirst rfl), (W0_of k_sel_yX0_putFirst rfl), (W0_of k_ini_RX0 rfl), (W0_of k_code_yX0_putFirst rfl), ⟨by decide +kernel, by decide +kernel, by decide +kernel⟩⟩
theorem lk_RX0_25 : LkV RX0 25 yX0_drop cX0_drop 4 none 1 := ⟨(W0_of k_ml_RX0_25 rfl), (W0_of k_inst_yX0_drop rfl), (W0_of k_sel_yX0_drop rfl), (W0_of k_ini_RX0 rfl), (W0_of k_code_yX0_drop rfl), ⟨by decide +kernel, by decide +kernel, by decide +kernel⟩⟩
theorem lk_RX0_35 : LkV RX0 35 yX0_shrinkTo cX0_shrinkTo 2 none 1 := ⟨(W0_of k_ml_RX0_35 rfl), (W0_of k_inst_yX0_shrinkTo rfl), (W0_of k_sel_yX0_shrinkTo rfl), (W0_of k_ini_RX0 rfl), (W0_of k_code_yX0_shrinkTo rfl), ⟨by decide +kernel, by decide +kernel, by decide +kernel⟩⟩
theorem lk_RL_36 : LkV RL 36 yX5_forget cX5_forget 2 (some .int) 1 := ⟨(W0_of k_ml_RL_36 rfl), (W0_of k_inst_yX5_forget rfl), (W0_of k_sel_yX5_forget rfl), (W0_of k_ini_RX5 rfl), (W0_of k_code_yX5_forget rfl), ⟨by decide +kernel, by decide +kernel, by decide +kernel⟩⟩
theorem lk_RX5_81 : LkV RX5 81 yX4_forgetPage cX4_forgetPage 2 (some .int) 1 := ⟨(W0_of k_ml_RX5_81 rfl), (W0_of k_inst_yX4_forgetPage rfl), (W0_of k_sel_yX4_forgetPage rfl), (W0_of k_ini_RX4 rfl), (W0_of k_code_yX4_forgetPage rfl), ⟨by decide +kernel, by decide +kernel, by decide +kernel⟩⟩
theorem lk_RX4_212 : LkV RX4 212 yX4_pagesInAll cX4_pagesInAll 3 (some .int) 0 := ⟨(W0_of k_ml_RX4_212 rfl), (W0_of k_inst_yX4_pagesInAll rfl), (W0_of k_sel_yX4_pagesInAll rfl), (W0_of k_ini_RX4 rfl), (W0_of k_code_yX4_pagesInAll rfl), ⟨by decide +kernel, by decide +kernel, by decide +kernel⟩⟩
theorem lk_RL_40 : LkV RL 40 yX5_moveBlock cX5_moveBlock 2 (some .int) 1 := ⟨(W0_of k_ml_RL_40 rfl), (W0_of k_inst_yX5_moveBlock rfl), (W0_of k_sel_yX5_moveBlock rfl), (W0_of k_ini_RX5 rfl), (W0_of k_code_yX5_moveBlock rfl), ⟨by decide +kernel, by decide +kernel, by decide +kernel⟩⟩
theorem lk_RX5_84 : LkV RX5 84 yX4_moveOnDemand cX4_moveOnDemand 2 (some .int) 1 := ⟨(W0_of k_ml_RX5_84 rfl), (W0_of k_inst_yX4_moveOnDemand rfl), (W0_of k_sel_yX4_moveOnDemand rfl), (W0_of k_ini_RX4 rfl), (W0_of k_code_yX4_moveOnDemand rfl), ⟨by decide +kernel, by decide +kernel, by decide +kernel⟩⟩
theorem lk_RL_44 : LkV RL 44 yX5_pass cX5_pass 2 (some .int) 1 := ⟨(W0_of k_ml_RL_44 rfl), (W0_of k_inst_yX5_pass rfl), (W0_of k_sel_yX5_pass rfl), (W0_of k_ini_RX5 rfl), (W0_of k_code_yX5_pass rfl), ⟨by decide +kernel, by decide +kernel, by decide +kernel⟩⟩
theorem lk_RX5_87 : LkV RX5 87 yX4_passTicks cX4_passTicks 4 (some .int) 1 := ⟨(W0_of k_ml_RX5_87 rfl), (W0_of k_inst_yX4_passTicks rfl), (W0_of k_sel_yX4_passTicks rfl), (W0_of k_ini_RX4 rfl), (W0_of k_code_yX4_passTicks rfl), ⟨by decide +kernel, by decide +kernel, by decide +kernel⟩⟩
theorem lk_RX4_216 : LkV RX4 216 yX4_passOne cX4_passOne 4 (some .int) 0 := ⟨(W0_of k_ml_RX4_216 rfl), (W0_of k_inst_yX4_passOne rfl), (W0_of k_sel_yX4_passOne rfl), (W0_of k_ini_RX4 rfl), (W0_of k_code_yX4_passOne rfl), ⟨by decide +kernel, by decide +kernel, by decide +kernel⟩⟩
theorem lk_RX4_176 : LkV RX4 176 yX4_firstMarked cX4_firstMarked 5 (some .int) 0 := ⟨(W0_of k_ml_RX4_176 rfl), (W0_of k_inst_yX4_firstMarked rfl), (W0_of k_sel_yX4_firstMarked rfl), (W0_of k_ini_RX4 rfl), (W0_of k_code_yX4_firstMarked rfl), ⟨by decide +kernel, by decide +kernel, by decide +kernel⟩⟩
theorem lk_RX4_118 : LkV RX4 118 yX4_hundredths cX4_hundredths 2 (some .int) 1 := ⟨(W0_of k_ml_RX4_118 rfl), (W0_of k_inst_yX4_hundredths rfl), (W0_of k_sel_yX4_hundredths rfl), (W0_of k_ini_RX4 rfl), (W0_of k_code_yX4_hundredths rfl), ⟨by decide +kernel, by decide +kernel, by decide +kernel⟩⟩
theorem lk_RL_48 : LkV RL 48 yX5_type cX5_type 2 (some .int) 1 := ⟨(W0_of k_ml_RL_48 rfl), (W0_of k_inst_yX5_type rfl), (W0_of k_sel_yX5_type rfl), (W0_of k_ini_RX5 rfl), (W0_of k_code_yX5_type rfl), ⟨by decide +kernel, by decide +kernel, by decide +kernel⟩⟩
theorem lk_RX5_93 : LkV RX5 93 yX3_append cX3_append 2 (some .int) 1 := ⟨(W0_of k_ml_RX5_93 rfl), (W0_of k_inst_yX3_append rfl), (W0_of k_sel_yX3_append rfl), (W0_of k_ini_RX3 rfl), (W0_of k_code_yX3_append rfl), ⟨by decide +kernel, by decide +kernel, by decide +kernel⟩⟩
theorem lk_RL_53 : LkV RL 53 yX5_clearText cX5_clearText 1 (some .int) 0 := ⟨(W0_of k_ml_RL_53 rfl), (W0_of k_inst_yX5_clearText rfl), (W0_of k_sel_yX5_clearText rfl), (W0_of k_ini_RX5 rfl), (W0_of k_code_yX5_clearText rfl), ⟨by decide +kernel, by decide +kernel, by decide +kernel⟩⟩
theorem lk_RX5_97 : LkV RX5 97 yX3_empty cX3_empty 2 (some .int) 0 := ⟨(W0_of k_ml_RX5_97 rfl), (W0_of k_inst_yX3_empty rfl), (W0_of k_sel_yX3_empty rfl), (W0_of k_ini_RX3 rfl), (W0_of k_code_yX3_empty rfl), ⟨by decide +kernel, by decide +kernel, by decide +kernel⟩⟩
theorem lk_RL_58 : LkV RL 58 yX5_perform cX5_perform 6 (some .int) 0 := ⟨(W0_of k_ml_RL_58 rfl), (W0_of k_inst_yX5_perform rfl), (W0_of k_sel_yX5_perform rfl), (W0_of k_ini_RX5 rfl), (W0_of k_code_yX5_perform rfl), ⟨by decide +kernel, by decide +kernel, by decide +kernel⟩⟩
theorem lk_RX5_101 : LkV RX5 101 yX3_parse cX3_parse 2 (some .int) 0 := ⟨(W0_of k_ml_RX5_101 rfl), (W0_of k_inst_yX3_parse rfl), (W0_of k_sel_yX3_parse rfl), (W0_of k_ini_RX3 rfl), (W0_of k_code_yX3_parse rfl), ⟨by decide +kernel, by decide +kernel, by decide +kernel⟩⟩
theorem lk_RX3_35 : LkV RX3 35 yX3_parseOrder cX3_parseOrder 4 (some .boolean) 0 := ⟨(W0_of k_ml_RX3_35 rfl), (W0_of k_inst_yX3_parseOrder rfl), (W0_of k_sel_yX3_parseOrder rfl), (W0_of k_ini_RX3 rfl), (W0_of k_code_yX3_parseOrder rfl), ⟨by decide +kernel, by decide +kernel, by decide +kernel⟩⟩
theorem lk_RX3_39 : LkV RX3 39 yX3_parseNumber cX3_parseNumber 5 (some .int) 2 := ⟨(W0_of k_ml_RX3_39 rfl), (W0_of k_inst_yX3_parseNumber rfl), (W0_of k_sel_yX3_parseNumber rfl), (W0_of k_ini_RX3 rfl), (W0_of k_code_yX3_parseNumber rfl), ⟨by decide +kernel, by decide +kernel, by decide +kernel⟩⟩
theorem lk_RX3_43 : LkV RX3 43 yX3_digitAt cX3_digitAt 2 (some .int) 1 := ⟨(W0_of k_ml_RX3_43 rfl), (W0_of k_inst_yX3_digitAt rfl), (W0_of k_sel_yX3_digitAt rfl), (W0_of k_ini_RX3 rfl), (W0_of k_code_yX3_digitAt rfl), ⟨by decide +kernel, by decide +kernel, by decide +kernel⟩⟩
theorem lk_RX5_107 : LkV RX5 107 yX3_timesOf cX3_timesOf 2 (some .int) 1 := ⟨(W0_of k_ml_RX5_107 rfl), (W0_of k_inst_yX3_timesOf rfl), (W0_of k_sel_yX3_timesOf rfl), (W0_of k_ini_RX3 rfl), (W0_of k_code_yX3_timesOf rfl), ⟨by decide +kernel, by decide +kernel, by decide +kernel⟩⟩
theorem lk_RX5_110 : LkV RX5 110 yX5_performOnce cX5_performOnce 4 (some .int) 1 := ⟨(W0_of k_ml_RX5_110 rfl), (W0_of k_inst_yX5_performOnce rfl), (W0_of k_sel_yX5_performOnce rfl), (W0_of k_ini_RX5 rfl), (W0_of k_code_yX5_performOnce rfl), ⟨by decide +kernel, by decide +kernel, by decide +kernel⟩⟩
theorem lk_RX5_117 : LkV RX5 117 yX3_letterOf cX3_letterOf 2 (some .char) 1 := ⟨(W0_of k_ml_RX5_117 rfl), (W0_of k_inst_yX3_letterOf rfl), (W0_of k_sel_yX3_letterOf rfl), (W0_of k_ini_RX3 rfl), (W0_of k_code_yX3_letterOf rfl), ⟨by decide +kernel, by decide +kernel, by decide +kernel⟩⟩
theorem lk_RX5_121 : LkV RX5 121 yX3_argumentOf cX3_argumentOf 2 (some .int) 1 := ⟨(W0_of k_ml_RX5_121 rfl), (W0_of k_inst_yX3_argumentOf rfl), (W0_of k_sel_yX3_argumentOf rfl), (W0_of k_ini_RX3 rfl), (W0_of k_code_yX3_argumentOf rfl), ⟨by decide +kernel, by decide +kernel, by decide +kernel⟩⟩
theorem lk_RX5_113 : LkV RX5 113 yX5_noteRefusal cX5_noteRefusal 4 none 3 := ⟨(W0_of k_ml_RX5_113 rfl), (W0_of k_inst_yX5_noteRefusal rfl), (W0_of k_sel_yX5_noteRefusal rfl), (W0_of k_ini_RX5 rfl), (W0_of k_code_yX5_noteRefusal rfl), ⟨by decide +kernel, by decide +kernel, by decide +kernel⟩⟩
theorem lk_RL_62 : LkV RL 62 yX5_refusal cX5_refusal 2 (some .int) 1 := ⟨(W0_of k_ml_RL_62 rfl), (W0_of k_inst_yX5_refusal rfl), (W0_of k_sel_yX5_refusal rfl), (W0_of k_ini_RX5 rfl), (W0_of k_code_yX5_refusal rfl), ⟨by decide +kernel, by decide +kernel, by decide +kernel⟩⟩
theorem lk_RL_66 : LkV RL 66 yX5_undo cX5_undo 1 (some .int) 0 := ⟨(W0_of k_ml_RL_66 rfl), (W0_of k_inst_yX5_undo rfl), (W0_of k_sel_yX5_undo rfl), (W0_of k_ini_RX5 rfl), (W0_of k_code_yX5_undo rfl), ⟨by decide +kernel, by decide +kernel, by decide +kernel⟩⟩
theorem lk_RX5_127 : LkV RX5 127 yX2_takeLatest cX2_takeLatest 4 none 1 := ⟨(W0_of k_ml_RX5_127 rfl), (W0_of k_inst_yX2_takeLatest rfl), (W0_of k_sel_yX2_takeLatest rfl), (W0_of k_ini_RX2 rfl), (W0_of k_code_yX2_takeLatest rfl), ⟨by decide +kernel, by decide +kernel, by decide +kernel⟩⟩
theorem lk_RL_70 : LkV RL 70 yX5_keep cX5_keep 1 (some .int) 0 := ⟨(W0_of k_ml_RL_70 rfl), (W0_of k_inst_yX5_keep rfl), (W0_of k_sel_yX5_keep rfl), (W0_of k_ini_RX5 rfl), (W0_of k_code_yX5_keep rfl), ⟨by decide +kernel, by decide +kernel, by decide +kernel⟩⟩
theorem lk_RL_74 : LkV RL 74 yX5_restore cX5_restore 1 (some .int) 0 := ⟨(W0_of k_ml_RL_74 rfl), (W0_of k_inst_yX5_restore rfl), (W0_of k_sel_yX5_restore rfl), (W0_of k_ini_RX5 rfl), (W0_of k_code_yX5_restore rfl), ⟨by decide +kernel, by decide +kernel, by decide +kernel⟩⟩
theorem lk_RL_78 : LkV RL 78 yX5_page cX5_page 4 (some .int) 2 := ⟨(W0_of k_ml_RL_78 rfl), (W0_of k_inst_yX5_page rfl), (W0_of k_sel_yX5_page rfl), (W0_of k_ini_RX5 rfl), (W0_of k_code_yX5_page rfl), ⟨by decide +kernel, by decide +kernel, by decide +kernel⟩⟩
theorem lk_RX5_133 : LkS RX5 133 yX5_isPage cX5_isPage 1 (some .boolean) 1 := ⟨(W0_of k_ml_RX5_133 rfl), (W0_of k_stat_yX5_isPage rfl), (W0_of k_ini_RX5 rfl), (W0_of k_code_yX5_isPage rfl), ⟨by decide +kernel, by decide +kernel, by decide +kernel⟩⟩
theorem lk_RX5_141 : LkV RX5 141 yX0_rankOf cX0_rankOf 3 (some .int) 1 := ⟨(W0_of k_ml_RX5_141 rfl), (W0_of k_inst_yX0_rankOf rfl), (W0_of k_sel_yX0_rankOf rfl), (W0_of k_ini_RX0 rfl), (W0_of k_code_yX0_rankOf rfl), ⟨by decide +kernel, by decide +kernel, by decide +kernel⟩⟩
theorem lk_RX5_150 : LkV RX5 150 yX4_hasPlace cX4_hasPlace 2 (some .boolean) 1 := ⟨(W0_of k_ml_RX5_150 rfl), (W0_of k_inst_yX4_hasPlace rfl), (W0_of k_sel_yX4_hasPlace rfl), (W0_of k_ini_RX4 rfl), (W0_of k_code_yX4_hasPlace rfl), ⟨by decide +kernel, by decide +kernel, by decide +kernel⟩⟩
theorem lk_RX5_162 : LkV RX5 162 yX4_readsLeft cX4_readsLeft 7 (some .int) 1 := ⟨(W0_of k_ml_RX5_162 rfl), (W0_of k_inst_yX4_readsLeft rfl), (W0_of k_sel_yX4_readsLeft rfl), (W0_of k_ini_RX4 rfl), (W0_of k_code_yX4_readsLeft rfl), ⟨by decide +kernel, by decide +kernel, by decide +kernel⟩⟩
theorem m_RX4_139 : Cond.methodLink RX4 139 Lib.Math.min.name ∈ W0 ∧ Cond.static Lib.Math.min.name ∈ W0 ∧ Cond.initialized "java/lang/Math" ∈ W0 ∧ Cond.code Lib.Math.min.name Lib.Math.min.code 2 (some .int) ∈ W0 := ⟨(W0_of k_ml_RX4_139 rfl), (W0_of k_stat_Lib_Math_min_name rfl), (W0_of k_ini_Math rfl), (W0_of k_code_Lib_Math_min_name rfl)⟩
theorem lk_RL_82 : LkV RL 82 yX5_block cX5_block 3 (some .int) 2 := ⟨(W0_of k_ml_RL_82 rfl), (W0_of k_inst_yX5_block rfl), (W0_of k_sel_yX5_block rfl), (W0_of k_ini_RX5 rfl), (W0_of k_code_yX5_block rfl), ⟨by decide +kernel, by decide +kernel, by decide +kernel⟩⟩
theorem lk_RX5_165 : LkS RX5 165 yX5_isBlock cX5_isBlock 1 (some .boolean) 1 := ⟨(W0_of k_ml_RX5_165 rfl), (W0_of k_stat_yX5_isBlock rfl), (W0_of k_ini_RX5 rfl), (W0_of k_code_yX5_isBlock rfl), ⟨by decide +kernel, by decide +kernel, by decide +kernel⟩⟩
theorem lk_RX5_174 : LkV RX5 174 yX4_bears cX4_bears 4 (some .int) 1 := ⟨(W0_of k_ml_RX5_174 rfl), (W0_of k_inst_yX4_bears rfl), (W0_of k_sel_yX4_bears rfl), (W0_of k_ini_RX4 rfl), (W0_of k_code_yX4_bears rfl), ⟨by decide +kernel, by decide +kernel, by decide +kernel⟩⟩
theorem lk_RX5_177 : LkV RX5 177 yX4_pagesIn cX4_pagesIn 5 (some .int) 1 := ⟨(W0_of k_ml_RX5_177 rfl), (W0_of k_inst_yX4_pagesIn rfl), (W0_of k_sel_yX4_pagesIn rfl), (W0_of k_ini_RX4 rfl), (W0_of k_code_yX4_pagesIn rfl), ⟨by decide +kernel, by decide +kernel, by decide +kernel⟩⟩
theorem lk_RX5_183 : LkV RX5 183 yX4_greatestOfPages cX4_greatestOfPages 5 (some .int) 1 := ⟨(W0_of k_ml_RX5_183 rfl), (W0_of k_inst_yX4_greatestOfPages rfl), (W0_of k_sel_yX4_greatestOfPages rfl), (W0_of k_ini_RX4 rfl), (W0_of k_code_yX4_greatestOfPages rfl), ⟨by decide +kernel, by decide +kernel, by decide +kernel⟩⟩
theorem lk_RX5_186 : LkV RX5 186 yX4_isMarked cX4_isMarked 2 (some .boolean) 1 := ⟨(W0_of k_ml_RX5_186 rfl), (W0_of k_inst_yX4_isMarked rfl), (W0_of k_sel_yX4_isMarked rfl), (W0_of k_ini_RX4 rfl), (W0_of k_code_yX4_isMarked rfl), ⟨by decide +kernel, by decide +kernel, by decide +kernel⟩⟩
theorem lk_RX5_189 : LkV RX5 189 yX4_isFree cX4_isFree 2 (some .boolean) 1 := ⟨(W0_of k_ml_RX5_189 rfl), (W0_of k_inst_yX4_isFree rfl), (W0_of k_sel_yX4_isFree rfl), (W0_of k_ini_RX4 rfl), (W0_of k_code_yX4_isFree rfl), ⟨by decide +kernel, by decide +kernel, by decide +kernel⟩⟩
theorem lk_RL_86 : LkV RL 86 yX5_place cX5_place 6 (some .int) 3 := ⟨(W0_of k_ml_RL_86 rfl), (W0_of k_inst_yX5_place rfl), (W0_of k_sel_yX5_place rfl), (W0_of k_ini_RX5 rfl), (W0_of k_code_yX5_place rfl), ⟨by decide +kernel, by decide +kernel, by decide +kernel⟩⟩
theorem lk_RL_91 : LkV RL 91 yX5_marked cX5_marked 3 (some .int) 1 := ⟨(W0_of k_ml_RL_91 rfl), (W0_of k_inst_yX5_marked rfl), (W0_of k_sel_yX5_marked rfl), (W0_of k_ini_RX5 rfl), (W0_of k_code_yX5_marked rfl), ⟨by decide +kernel, by decide +kernel, by decide +kernel⟩⟩
theorem lk_RX5_202 : LkV RX5 202 yX4_markedAhead cX4_markedAhead 6 (some .int) 1 := ⟨(W0_of k_ml_RX5_202 rfl), (W0_of k_inst_yX4_markedAhead rfl), (W0_of k_sel_yX4_markedAhead rfl), (W0_of k_ini_RX4 rfl), (W0_of k_code_yX4_markedAhead rfl), ⟨by decide +kernel, by decide +kernel, by decide +kernel⟩⟩
theorem lk_RL_95 : LkV RL 95 yX5_quietIn cX5_quietIn 2 (some .int) 0 := ⟨(W0_of k_ml_RL_95 rfl), (W0_of k_inst_yX5_quietIn rfl), (W0_of k_sel_yX5_quietIn rfl), (W0_of k_ini_RX5 rfl), (W0_of k_code_yX5_quietIn rfl), ⟨by decide +kernel, by decide +kernel, by decide +kernel⟩⟩
theorem lk_RX5_205 : LkV RX5 205 yX4_markedBlocks cX4_markedBlocks 3 (some .int) 0 := ⟨(W0_of k_ml_RX5_205 rfl), (W0_of k_inst_yX4_markedBlocks rfl), (W0_of k_sel_yX4_markedBlocks rfl), (W0_of k_ini_RX4 rfl), (W0_of k_code_yX4_markedBlocks rfl), ⟨by decide +kernel, by decide +kernel, by decide +kernel⟩⟩
theorem lk_RX5_208 : LkV RX5 208 yX4_passOne cX4_passOne 4 (some .int) 0 := ⟨(W0_of k_ml_RX5_208 rfl), (W0_of k_inst_yX4_passOne rfl), (W0_of k_sel_yX4_passOne rfl), (W0_of k_ini_RX4 rfl), (W0_of k_code_yX4_passOne rfl), ⟨by decide +kernel, by decide +kernel, by decide +kernel⟩⟩
theorem lk_RL_99 : LkV RL 99 yX5_erasure cX5_erasure 3 (some .int) 2 := ⟨(W0_of k_ml_RL_99 rfl), (W0_of k_inst_yX5_erasure rfl), (W0_of k_sel_yX5_erasure rfl), (W0_of k_ini_RX5 rfl), (W0_of k_code_yX5_erasure rfl), ⟨by decide +kernel, by decide +kernel, by decide +kernel⟩⟩
theorem lk_RL_103 : LkV RL 103 yX5_count cX5_count 2 (some .int) 1 := ⟨(W0_of k_ml_RL_103 rfl), (W0_of k_inst_yX5_count rfl), (W0_of k_sel_yX5_count rfl), (W0_of k_ini_RX5 rfl), (W0_of k_code_yX5_count rfl), ⟨by decide +kernel, by decide +kernel, by decide +kernel⟩⟩
theorem lk_RX5_227 : LkV RX5 227 yX4_pagesInAll cX4_pagesInAll 3 (some .int) 0 := ⟨(W0_of k_ml_RX5_227 rfl), (W0_of k_inst_yX4_pagesInAll rfl), (W0_of k_sel_yX4_pagesInAll rfl), (W0_of k_ini_RX4 rfl), (W0_of k_code_yX4_pagesInAll rfl), ⟨by decide +kernel, by decide +kernel, by decide +kernel⟩⟩
theorem lk_RX5_230 : LkV RX5 230 yX4_freeBlocks cX4_freeBlocks 3 (some .int) 0 := ⟨(W0_of k_ml_RX5_230 rfl), (W0_of k_inst_yX4_freeBlocks rfl), (W0_of k_sel_yX4_freeBlocks rfl), (W0_of k_ini_RX4 rfl), (W0_of k_code_yX4_freeBlocks rfl), ⟨by decide +kernel, by decide +kernel, by decide +kernel⟩⟩
theorem lk_RX5_246 : LkV RX5 246 yX4_greatestHundredths cX4_greatestHundredths 3 (some .int) 0 := ⟨(W0_of k_ml_RX5_246 rfl), (W0_of k_inst_yX4_greatestHundredths rfl), (W0_of k_sel_yX4_greatestHundredths rfl), (W0_of k_ini_RX4 rfl), (W0_of k_code_yX4_greatestHundredths rfl), ⟨by decide +kernel, by decide +kernel, by decide +kernel⟩⟩
theorem lk_RL_107 : LkV RL 107 yX5_setting cX5_setting 2 (some .int) 1 := ⟨(W0_of k_ml_RL_107 rfl), (W0_of k_inst_yX5_setting rfl), (W0_of k_sel_yX5_setting rfl), (W0_of k_ini_RX5 rfl), (W0_of k_code_yX5_setting rfl), ⟨by decide +kernel, by decide +kernel, by decide +kernel⟩⟩
theorem lk_RX5_252 : LkS RX5 252 yX5_isSetting cX5_isSetting 1 (some .boolean) 1 := ⟨(W0_of k_ml_RX5_252 rfl), (W0_of k_stat_yX5_isSetting rfl), (W0_of k_ini_RX5 rfl), (W0_of k_code_yX5_isSetting rfl), ⟨by decide +kernel, by decide +kernel, by decide +kernel⟩⟩
theorem lk_RL_12 : LkI RL 12 yX6_init cX6_init 2 0 := ⟨(W0_of k_ml_RL_12 rfl), (W0_of k_inst_yX6_init rfl), (W0_of k_ini_RX6 rfl), (W0_of k_code_yX6_init rfl), ⟨by decide +kernel, by decide +kernel, by decide +kernel⟩, rfl⟩
theorem lk_RL_69 : LkV RL 69 yX6_undo cX6_undo 1 (some .int) 0 := ⟨(W0_of k_ml_RL_69 rfl), (W0_of k_inst_yX6_undo rfl), (W0_of k_sel_yX6_undo rfl), (W0_of k_ini_RX6 rfl), (W0_of k_code_yX6_undo rfl), ⟨by decide +kernel, by decide +kernel, by decide +kernel⟩⟩
theorem lk_RX6_42 : LkS RX6 42 yX6_lays cX6_lays 5 none 4 := ⟨(W0_of k_ml_RX6_42 rfl), (W0_of k_stat_yX6_lays rfl), (W0_of k_ini_RX6 rfl), (W0_of k_code_yX6_lays rfl), ⟨by decide +kernel, by decide +kernel, by decide +kernel⟩⟩
theorem lk_RL_73 : LkV RL 73 yX6_keep cX6_keep 1 (some .int) 0 := ⟨(W0_of k_ml_RL_73 rfl), (W0_of k_inst_yX6_keep rfl), (W0_of k_sel_yX6_keep rfl), (W0_of k_ini_RX6 rfl), (W0_of k_code_yX6_keep rfl), ⟨by decide +kernel, by decide +kernel, by decide +kernel⟩⟩
theorem lk_RL_77 : LkV RL 77 yX6_restore cX6_restore 1 (some .int) 0 := ⟨(W0_of k_ml_RL_77 rfl), (W0_of k_inst_yX6_restore rfl), (W0_of k_sel_yX6_restore rfl), (W0_of k_ini_RX6 rfl), (W0_of k_code_yX6_restore rfl), ⟨by decide +kernel, by decide +kernel, by decide +kernel⟩⟩
theorem lk_RX6_46 : LkV RX6 46 yX6_records cX6_records 2 none 0 := ⟨(W0_of k_ml_RX6_46 rfl), (W0_of k_inst_yX6_records rfl), (W0_of k_sel_yX6_records rfl), (W0_of k_ini_RX6 rfl), (W0_of k_code_yX6_records rfl), ⟨by decide +kernel, by decide +kernel, by decide +kernel⟩⟩
theorem lk_RL_17 : LkV RL 17 yX6_set cX6_set 4 (some .int) 2 := ⟨(W0_of k_ml_RL_17 rfl), (W0_of k_inst_yX6_set rfl), (W0_of k_sel_yX6_set rfl), (W0_of k_ini_RX6 rfl), (W0_of k_code_yX6_set rfl), ⟨by decide +kernel, by decide +kernel, by decide +kernel⟩⟩
theorem lk_RX6_34 : LkS RX6 34 yX6_in cX6_in 3 (some .boolean) 3 := ⟨(W0_of k_ml_RX6_34 rfl), (W0_of k_stat_yX6_in rfl), (W0_of k_ini_RX6 rfl), (W0_of k_code_yX6_in rfl), ⟨by decide +kernel, by decide +kernel, by decide +kernel⟩⟩
theorem lk_RX6_145 : LkS RX6 145 yX6_isFor cX6_isFor 2 (some .boolean) 2 := ⟨(W0_of k_ml_RX6_145 rfl), (W0_of k_stat_yX6_isFor rfl), (W0_of k_ini_RX6 rfl), (W0_of k_code_yX6_isFor rfl), ⟨by decide +kernel, by decide +kernel, by decide +kernel⟩⟩
theorem lk_RL_21 : LkV RL 21 yX6_setKind cX6_setKind 4 (some .int) 2 := ⟨(W0_of k_ml_RL_21 rfl), (W0_of k_inst_yX6_setKind rfl), (W0_of k_sel_yX6_setKind rfl), (W0_of k_ini_RX6 rfl), (W0_of k_code_yX6_setKind rfl), ⟨by decide +kernel, by decide +kernel, by decide +kernel⟩⟩
theorem lk_RX6_149 : LkS RX6 149 yX6_isBlock cX6_isBlock 1 (some .boolean) 1 := ⟨(W0_of k_ml_RX6_149 rfl), (W0_of k_stat_yX6_isBlock rfl), (W0_of k_ini_RX6 rfl), (W0_of k_code_yX6_isBlock rfl), ⟨by decide +kernel, by decide +kernel, by decide +kernel⟩⟩
theorem lk_RX6_64 : LkS RX6 64 yX6_isFree cX6_isFree 2 (some .boolean) 2 := ⟨(W0_of k_ml_RX6_64 rfl), (W0_of k_stat_yX6_isFree rfl), (W0_of k_ini_RX6 rfl), (W0_of k_code_yX6_isFree rfl), ⟨by decide +kernel, by decide +kernel, by decide +kernel⟩⟩
theorem lk_RX6_60 : LkS RX6 60 yX6_many cX6_many 5 (some .int) 3 := ⟨(W0_of k_ml_RX6_60 rfl), (W0_of k_stat_yX6_many rfl), (W0_of k_ini_RX6 rfl), (W0_of k_code_yX6_many rfl), ⟨by decide +kernel, by decide +kernel, by decide +kernel⟩⟩
theorem lk_RX6_53 : LkS RX6 53 yX6_holds cX6_holds 2 (some .int) 2 := ⟨(W0_of k_ml_RX6_53 rfl), (W0_of k_stat_yX6_holds rfl), (W0_of k_ini_RX6 rfl), (W0_of k_code_yX6_holds rfl), ⟨by decide +kernel, by decide +kernel, by decide +kernel⟩⟩
theorem lk_RX6_57 : LkS RX6 57 yX6_kind cX6_kind 2 (some .int) 2 := ⟨(W0_of k_ml_RX6_57 rfl), (W0_of k_stat_yX6_kind rfl), (W0_of k_ini_RX6 rfl), (W0_of k_code_yX6_kind rfl), ⟨by decide +kernel, by decide +kernel, by decide +kernel⟩⟩
theorem lk_RL_26 : LkV RL 26 yX6_mark cX6_mark 4 (some .int) 2 := ⟨(W0_of k_ml_RL_26 rfl), (W0_of k_inst_yX6_mark rfl), (W0_of k_sel_yX6_mark rfl), (W0_of k_ini_RX6 rfl), (W0_of k_code_yX6_mark rfl), ⟨by decide +kernel, by decide +kernel, by decide +kernel⟩⟩
theorem lk_RX6_152 : LkS RX6 152 yX6_marks cX6_marks 3 (some .int) 1 := ⟨(W0_of k_ml_RX6_152 rfl), (W0_of k_stat_yX6_marks rfl), (W0_of k_ini_RX6 rfl), (W0_of k_code_yX6_marks rfl), ⟨by decide +kernel, by decide +kernel, by decide +kernel⟩⟩
theorem lk_RX6_81 : LkS RX6 81 yX6_isMarked cX6_isMarked 4 (some .boolean) 2 := ⟨(W0_of k_ml_RX6_81 rfl), (W0_of k_stat_yX6_isMarked rfl), (W0_of k_ini_RX6 rfl), (W0_of k_code_yX6_isMarked rfl), ⟨by decide +kernel, by decide +kernel, by decide +kernel⟩⟩
theorem lk_RX6_78 : LkS RX6 78 yX6_greatest cX6_greatest 4 (some .int) 2 := ⟨(W0_of k_ml_RX6_78 rfl), (W0_of k_stat_yX6_greatest rfl), (W0_of k_ini_RX6 rfl), (W0_of k_code_yX6_greatest rfl), ⟨by decide +kernel, by decide +kernel, by decide +kernel⟩⟩
theorem lk_RX6_72 : LkS RX6 72 yX6_weak cX6_weak 2 (some .int) 2 := ⟨(W0_of k_ml_RX6_72 rfl), (W0_of k_stat_yX6_weak rfl), (W0_of k_ini_RX6 rfl), (W0_of k_code_yX6_weak rfl), ⟨by decide +kernel, by decide +kernel, by decide +kernel⟩⟩
theorem lk_RX6_69 : LkS RX6 69 yX6_bears cX6_bears 4 (some .int) 2 := ⟨(W0_of k_ml_RX6_69 rfl), (W0_of k_stat_yX6_bears rfl), (W0_of k_ini_RX6 rfl), (W0_of k_code_yX6_bears rfl), ⟨by decide +kernel, by decide +kernel, by decide +kernel⟩⟩
theorem lk_RL_31 : LkV RL 31 yX6_write cX6_write 3 (some .int) 1 := ⟨(W0_of k_ml_RL_31 rfl), (W0_of k_inst_yX6_write rfl), (W0_of k_sel_yX6_write rfl), (W0_of k_ini_RX6 rfl), (W0_of k_code_yX6_write rfl), ⟨by decide +kernel, by decide +kernel, by decide +kernel⟩⟩
theorem lk_RX6_155 : LkV RX6 155 yX6_tries cX6_tries 1 none 0 := ⟨(W0_of k_ml_RX6_155 rfl), (W0_of k_inst_yX6_tries rfl), (W0_of k_sel_yX6_tries rfl), (W0_of k_ini_RX6 rfl), (W0_of k_code_yX6_tries rfl), ⟨by decide +kernel, by decide +kernel, by decide +kernel⟩⟩
theorem lk_RX6_158 : LkS RX6 158 yX6_writesOn cX6_writesOn 2 (some .int) 2 := ⟨(W0_of k_ml_RX6_158 rfl), (W0_of k_stat_yX6_writesOn rfl), (W0_of k_ini_RX6 rfl), (W0_of k_code_yX6_writesOn rfl), ⟨by decide +kernel, by decide +kernel, by decide +kernel⟩⟩
theorem lk_RX6_129 : LkS RX6 129 yX6_isPage cX6_isPage 1 (some .boolean) 1 := ⟨(W0_of k_ml_RX6_129 rfl), (W0_of k_stat_yX6_isPage rfl), (W0_of k_ini_RX6 rfl), (W0_of k_code_yX6_isPage rfl), ⟨by decide +kernel, by decide +kernel, by decide +kernel⟩⟩
theorem lk_RX6_133 : LkS RX6 133 yX6_free cX6_free 3 (some .int) 1 := ⟨(W0_of k_ml_RX6_133 rfl), (W0_of k_stat_yX6_free rfl), (W0_of k_ini_RX6 rfl), (W0_of k_code_yX6_free rfl), ⟨by decide +kernel, by decide +kernel, by decide +kernel⟩⟩
theorem lk_RX6_94 : LkS RX6 94 yX6_isOpenFull cX6_isOpenFull 1 (some .boolean) 1 := ⟨(W0_of k_ml_RX6_94 rfl), (W0_of k_stat_yX6_isOpenFull rfl), (W0_of k_ini_RX6 rfl), (W0_of k_code_yX6_isOpenFull rfl), ⟨by decide +kernel, by decide +kernel, by decide +kernel⟩⟩
theorem lk_RX6_90 : LkS RX6 90 yX6_leaves cX6_leaves 4 none 2 := ⟨(W0_of k_ml_RX6_90 rfl), (W0_of k_stat_yX6_leaves rfl), (W0_of k_ini_RX6 rfl), (W0_of k_code_yX6_leaves rfl), ⟨by decide +kernel, by decide +kernel, by decide +kernel⟩⟩
theorem lk_RX6_87 : LkS RX6 87 yX6_buffered cX6_buffered 3 (some .int) 2 := ⟨(W0_of k_ml_RX6_87 rfl), (W0_of k_stat_yX6_buffered rfl), (W0_of k_ini_RX6 rfl), (W0_of k_code_yX6_buffered rfl), ⟨by decide +kernel, by decide +kernel, by decide +kernel⟩⟩
theorem lk_RX6_117 : LkS RX6 117 yX6_gives cX6_gives 4 (some .int) 2 := ⟨(W0_of k_ml_RX6_117 rfl), (W0_of k_stat_yX6_gives rfl), (W0_of k_ini_RX6 rfl), (W0_of k_code_yX6_gives rfl), ⟨by decide +kernel, by decide +kernel, by decide +kernel⟩⟩
theorem lk_RX6_98 : LkS RX6 98 yX6_bestFree cX6_bestFree 3 (some .int) 1 := ⟨(W0_of k_ml_RX6_98 rfl), (W0_of k_stat_yX6_bestFree rfl), (W0_of k_ini_RX6 rfl), (W0_of k_code_yX6_bestFree rfl), ⟨by decide +kernel, by decide +kernel, by decide +kernel⟩⟩
theorem lk_RX6_102 : LkS RX6 102 yX6_placeOf cX6_placeOf 3 (some .int) 2 := ⟨(W0_of k_ml_RX6_102 rfl), (W0_of k_stat_yX6_placeOf rfl), (W0_of k_ini_RX6 rfl), (W0_of k_code_yX6_placeOf rfl), ⟨by decide +kernel, by decide +kernel, by decide +kernel⟩⟩
theorem lk_RX6_161 : LkV RX6 161 yX6_becomes cX6_becomes 2 (some .int) 1 := ⟨(W0_of k_ml_RX6_161 rfl), (W0_of k_inst_yX6_becomes rfl), (W0_of k_sel_yX6_becomes rfl), (W0_of k_ini_RX6 rfl), (W0_of k_code_yX6_becomes rfl), ⟨by decide +kernel, by decide +kernel, by decide +kernel⟩⟩
theorem lk_RL_35 : LkV RL 35 yX6_read cX6_read 3 (some .int) 1 := ⟨(W0_of k_ml_RL_35 rfl), (W0_of k_inst_yX6_read rfl), (W0_of k_sel_yX6_read rfl), (W0_of k_ini_RX6 rfl), (W0_of k_code_yX6_read rfl), ⟨by decide +kernel, by decide +kernel, by decide +kernel⟩⟩
theorem lk_RX6_165 : LkV RX6 165 yX6_readsOn cX6_readsOn 5 (some .int) 2 := ⟨(W0_of k_ml_RX6_165 rfl), (W0_of k_inst_yX6_readsOn rfl), (W0_of k_sel_yX6_readsOn rfl), (W0_of k_ini_RX6 rfl), (W0_of k_code_yX6_readsOn rfl), ⟨by decide +kernel, by decide +kernel, by decide +kernel⟩⟩
theorem lk_RX6_111 : LkS RX6 111 yX6_readsLeft cX6_readsLeft 6 (some .int) 2 := ⟨(W0_of k_ml_RX6_111 rfl), (W0_of k_stat_yX6_readsLeft rfl), (W0_of k_ini_RX6 rfl), (W0_of k_code_yX6_readsLeft rfl), ⟨by decide +kernel, by decide +kernel, by decide +kernel⟩⟩
theorem lk_RX6_75 : LkS RX6 75 yX6_weaker cX6_weaker 4 (some .int) 3 := ⟨(W0_of k_ml_RX6_75 rfl), (W0_of k_stat_yX6_weaker rfl), (W0_of k_ini_RX6 rfl), (W0_of k_code_yX6_weaker rfl), ⟨by decide +kernel, by decide +kernel, by decide +kernel⟩⟩
theorem lk_RX6_136 : LkS RX6 136 yX6_movesAll cX6_movesAll 3 (some .int) 2 := ⟨(W0_of k_ml_RX6_136 rfl), (W0_of k_stat_yX6_movesAll rfl), (W0_of k_ini_RX6 rfl), (W0_of k_code_yX6_movesAll rfl), ⟨by decide +kernel, by decide +kernel, by decide +kernel⟩⟩
theorem lk_RX6_105 : LkS RX6 105 yX6_shuts cX6_shuts 2 none 2 := ⟨(W0_of k_ml_RX6_105 rfl), (W0_of k_stat_yX6_shuts rfl), (W0_of k_ini_RX6 rfl), (W0_of k_code_yX6_shuts rfl), ⟨by decide +kernel, by decide +kernel, by decide +kernel⟩⟩
theorem lk_RX6_108 : LkS RX6 108 yX6_lowestPage cX6_lowestPage 3 (some .int) 2 := ⟨(W0_of k_ml_RX6_108 rfl), (W0_of k_stat_yX6_lowestPage rfl), (W0_of k_ini_RX6 rfl), (W0_of k_code_yX6_lowestPage rfl), ⟨by decide +kernel, by decide +kernel, by decide +kernel⟩⟩
theorem lk_RX6_120 : LkS RX6 120 yX6_moves cX6_moves 3 (some .boolean) 2 := ⟨(W0_of k_ml_RX6_120 rfl), (W0_of k_stat_yX6_moves rfl), (W0_of k_ini_RX6 rfl), (W0_of k_code_yX6_moves rfl), ⟨by decide +kernel, by decide +kernel, by decide +kernel⟩⟩
theorem lk_RX6_114 : LkS RX6 114 yX6_reads cX6_reads 4 none 2 := ⟨(W0_of k_ml_RX6_114 rfl), (W0_of k_stat_yX6_reads rfl), (W0_of k_ini_RX6 rfl), (W0_of k_code_yX6_reads rfl), ⟨by decide +kernel, by decide +kernel, by decide +kernel⟩⟩
theorem lk_RX6_123 : LkS RX6 123 yX6_erases cX6_erases 4 none 2 := ⟨(W0_of k_ml_RX6_123 rfl), (W0_of k_stat_yX6_erases rfl), (W0_of k_ini_RX6 rfl), (W0_of k_code_yX6_erases rfl), ⟨by decide +kernel, by decide +kernel, by decide +kernel⟩⟩
theorem lk_RX6_139 : LkS RX6 139 yX6_fronts cX6_fronts 3 none 2 := ⟨(W0_of k_ml_RX6_139 rfl), (W0_of k_stat_yX6_fronts rfl), (W0_of k_ini_RX6 rfl), (W0_of k_code_yX6_fronts rfl), ⟨by decide +kernel, by decide +kernel, by decide +kernel⟩⟩
theorem lk_RL_39 : LkV RL 39 yX6_forget cX6_forget 2 (some .int) 1 := ⟨(W0_of k_ml_RL_39 rfl), (W0_of k_inst_yX6_forget rfl), (W0_of k_sel_yX6_forget rfl), (W0_of k_ini_RX6 rfl), (W0_of k_code_yX6_forget rfl), ⟨by decide +kernel, by decide +kernel, by decide +kernel⟩⟩
theorem lk_RX6_168 : LkS RX6 168 yX6_placed cX6_placed 3 (some .int) 1 := ⟨(W0_of k_ml_RX6_168 rfl), (W0_of k_stat_yX6_placed rfl), (W0_of k_ini_RX6 rfl), (W0_of k_code_yX6_placed rfl), ⟨by decide +kernel, by decide +kernel, by decide +kernel⟩⟩
theorem lk_RL_43 : LkV RL 43 yX6_moveBlock cX6_moveBlock 3 (some .int) 1 := ⟨(W0_of k_ml_RL_43 rfl), (W0_of k_inst_yX6_moveBlock rfl), (W0_of k_sel_yX6_moveBlock rfl), (W0_of k_ini_RX6 rfl), (W0_of k_code_yX6_moveBlock rfl), ⟨by decide +kernel, by decide +kernel, by decide +kernel⟩⟩
theorem lk_RL_47 : LkV RL 47 yX6_pass cX6_pass 3 (some .int) 1 := ⟨(W0_of k_ml_RL_47 rfl), (W0_of k_inst_yX6_pass rfl), (W0_of k_sel_yX6_pass rfl), (W0_of k_ini_RX6 rfl), (W0_of k_code_yX6_pass rfl), ⟨by decide +kernel, by decide +kernel, by decide +kernel⟩⟩
theorem lk_RX6_171 : LkS RX6 171 yX6_passesOn cX6_passesOn 4 (some .int) 2 := ⟨(W0_of k_ml_RX6_171 rfl), (W0_of k_stat_yX6_passesOn rfl), (W0_of k_ini_RX6 rfl), (W0_of k_code_yX6_passesOn rfl), ⟨by decide +kernel, by decide +kernel, by decide +kernel⟩⟩
theorem lk_RX6_142 : LkS RX6 142 yX6_ticksOn cX6_ticksOn 4 (some .int) 1 := ⟨(W0_of k_ml_RX6_142 rfl), (W0_of k_stat_yX6_ticksOn rfl), (W0_of k_ini_RX6 rfl), (W0_of k_code_yX6_ticksOn rfl), ⟨by decide +kernel, by decide +kernel, by decide +kernel⟩⟩
theorem lk_RX6_126 : LkS RX6 126 yX6_markedAt cX6_markedAt 6 (some .int) 2 := ⟨(W0_of k_ml_RX6_126 rfl), (W0_of k_stat_yX6_markedAt rfl), (W0_of k_ini_RX6 rfl), (W0_of k_code_yX6_markedAt rfl), ⟨by decide +kernel, by decide +kernel, by decide +kernel⟩⟩
theorem lk_RX6_84 : LkS RX6 84 yX6_hundredths cX6_hundredths 2 (some .int) 2 := ⟨(W0_of k_ml_RX6_84 rfl), (W0_of k_stat_yX6_hundredths rfl), (W0_of k_ini_RX6 rfl), (W0_of k_code_yX6_hundredths rfl), ⟨by decide +kernel, by decide +kernel, by decide +kernel⟩⟩
theorem lk_RL_52 : LkV RL 52 yX6_type cX6_type 2 (some .int) 1 := ⟨(W0_of k_ml_RL_52 rfl), (W0_of k_inst_yX6_type rfl), (W0_of k_sel_yX6_type rfl), (W0_of k_ini_RX6 rfl), (W0_of k_code_yX6_type rfl), ⟨by decide +kernel, by decide +kernel, by decide +kernel⟩⟩
theorem lk_RL_57 : LkV RL 57 yX6_clearText cX6_clearText 2 (some .int) 0 := ⟨(W0_of k_ml_RL_57 rfl), (W0_of k_inst_yX6_clearText rfl), (W0_of k_sel_yX6_clearText rfl), (W0_of k_ini_RX6 rfl), (W0_of k_code_yX6_clearText rfl), ⟨by decide +kernel, by decide +kernel, by decide +kernel⟩⟩
theorem lk_RL_61 : LkV RL 61 yX6_perform cX6_perform 4 (some .int) 0 := ⟨(W0_of k_ml_RL_61 rfl), (W0_of k_inst_yX6_perform rfl), (W0_of k_sel_yX6_perform rfl), (W0_of k_ini_RX6 rfl), (W0_of k_code_yX6_perform rfl), ⟨by decide +kernel, by decide +kernel, by decide +kernel⟩⟩
theorem lk_RX6_199 : LkV RX6 199 yX6_isText cX6_isText 2 (some .boolean) 0 := ⟨(W0_of k_ml_RX6_199 rfl), (W0_of k_inst_yX6_isText rfl), (W0_of k_sel_yX6_isText rfl), (W0_of k_ini_RX6 rfl), (W0_of k_code_yX6_isText rfl), ⟨by decide +kernel, by decide +kernel, by decide +kernel⟩⟩
theorem lk_RX6_195 : LkV RX6 195 yX6_isOrder cX6_isOrder 3 (some .boolean) 0 := ⟨(W0_of k_ml_RX6_195 rfl), (W0_of k_inst_yX6_isOrder rfl), (W0_of k_sel_yX6_isOrder rfl), (W0_of k_ini_RX6 rfl), (W0_of k_code_yX6_isOrder rfl), ⟨by decide +kernel, by decide +kernel, by decide +kernel⟩⟩
theorem lk_RX6_186 : LkV RX6 186 yX6_isNumber cX6_isNumber 3 (some .boolean) 2 := ⟨(W0_of k_ml_RX6_186 rfl), (W0_of k_inst_yX6_isNumber rfl), (W0_of k_sel_yX6_isNumber rfl), (W0_of k_ini_RX6 rfl), (W0_of k_code_yX6_isNumber rfl), ⟨by decide +kernel, by decide +kernel, by decide +kernel⟩⟩
theorem lk_RX6_180 : LkV RX6 180 yX6_isAt cX6_isAt 3 (some .boolean) 2 := ⟨(W0_of k_ml_RX6_180 rfl), (W0_of k_inst_yX6_isAt rfl), (W0_of k_sel_yX6_isAt rfl), (W0_of k_ini_RX6 rfl), (W0_of k_code_yX6_isAt rfl), ⟨by decide +kernel, by decide +kernel, by decide +kernel⟩⟩
theorem lk_RX6_192 : LkV RX6 192 yX6_isSign cX6_isSign 3 (some .boolean) 1 := ⟨(W0_of k_ml_RX6_192 rfl), (W0_of k_inst_yX6_isSign rfl), (W0_of k_sel_yX6_isSign rfl), (W0_of k_ini_RX6 rfl), (W0_of k_code_yX6_isSign rfl), ⟨by decide +kernel, by decide +kernel, by decide +kernel⟩⟩
theorem lk_RX6_202 : LkV RX6 202 yX6_doesOnce cX6_doesOnce 3 (some .int) 1 := ⟨(W0_of k_ml_RX6_202 rfl), (W0_of k_inst_yX6_doesOnce rfl), (W0_of k_sel_yX6_doesOnce rfl), (W0_of k_ini_RX6 rfl), (W0_of k_code_yX6_doesOnce rfl), ⟨by decide +kernel, by decide +kernel, by decide +kernel⟩⟩
theorem lk_RL_65 : LkV RL 65 yX6_refusal cX6_refusal 2 (some .int) 1 := ⟨(W0_of k_ml_RL_65 rfl), (W0_of k_inst_yX6_refusal rfl), (W0_of k_sel_yX6_refusal rfl), (W0_of k_ini_RX6 rfl), (W0_of k_code_yX6_refusal rfl), ⟨by decide +kernel, by decide +kernel, by decide +kernel⟩⟩
theorem lk_RL_81 : LkV RL 81 yX6_page cX6_page 4 (some .int) 2 := ⟨(W0_of k_ml_RL_81 rfl), (W0_of k_inst_yX6_page rfl), (W0_of k_sel_yX6_page rfl), (W0_of k_ini_RX6 rfl), (W0_of k_code_yX6_page rfl), ⟨by decide +kernel, by decide +kernel, by decide +kernel⟩⟩
theorem lk_RL_85 : LkV RL 85 yX6_block cX6_block 4 (some .int) 2 := ⟨(W0_of k_ml_RL_85 rfl), (W0_of k_inst_yX6_block rfl), (W0_of k_sel_yX6_block rfl), (W0_of k_ini_RX6 rfl), (W0_of k_code_yX6_block rfl), ⟨by decide +kernel, by decide +kernel, by decide +kernel⟩⟩
theorem lk_RL_90 : LkV RL 90 yX6_place cX6_place 6 (some .int) 3 := ⟨(W0_of k_ml_RL_90 rfl), (W0_of k_inst_yX6_place rfl), (W0_of k_sel_yX6_place rfl), (W0_of k_ini_RX6 rfl), (W0_of k_code_yX6_place rfl), ⟨by decide +kernel, by decide +kernel, by decide +kernel⟩⟩
theorem lk_RL_94 : LkV RL 94 yX6_marked cX6_marked 2 (some .int) 1 := ⟨(W0_of k_ml_RL_94 rfl), (W0_of k_inst_yX6_marked rfl), (W0_of k_sel_yX6_marked rfl), (W0_of k_ini_RX6 rfl), (W0_of k_code_yX6_marked rfl), ⟨by decide +kernel, by decide +kernel, by decide +kernel⟩⟩
theorem lk_RL_98 : LkV RL 98 yX6_quietIn cX6_quietIn 2 (some .int) 0 := ⟨(W0_of k_ml_RL_98 rfl), (W0_of k_inst_yX6_quietIn rfl), (W0_of k_sel_yX6_quietIn rfl), (W0_of k_ini_RX6 rfl), (W0_of k_code_yX6_quietIn rfl), ⟨by decide +kernel, by decide +kernel, by decide +kernel⟩⟩
theorem lk_RL_102 : LkV RL 102 yX6_erasure cX6_erasure 3 (some .int) 2 := ⟨(W0_of k_ml_RL_102 rfl), (W0_of k_inst_yX6_erasure rfl), (W0_of k_sel_yX6_erasure rfl), (W0_of k_ini_RX6 rfl), (W0_of k_code_yX6_erasure rfl), ⟨by decide +kernel, by decide +kernel, by decide +kernel⟩⟩
theorem lk_RL_106 : LkV RL 106 yX6_count cX6_count 2 (some .int) 1 := ⟨(W0_of k_ml_RL_106 rfl), (W0_of k_inst_yX6_count rfl), (W0_of k_sel_yX6_count rfl), (W0_of k_ini_RX6 rfl), (W0_of k_code_yX6_count rfl), ⟨by decide +kernel, by decide +kernel, by decide +kernel⟩⟩
theorem lk_RX6_208 : LkV RX6 208 yX6_weakest cX6_weakest 3 (some .int) 0 := ⟨(W0_of k_ml_RX6_208 rfl), (W0_of k_inst_yX6_weakest rfl), (W0_of k_sel_yX6_weakest rfl), (W0_of k_ini_RX6 rfl), (W0_of k_code_yX6_weakest rfl), ⟨by decide +kernel, by decide +kernel, by decide +kernel⟩⟩
theorem lk_RL_110 : LkV RL 110 yX6_setting cX6_setting 2 (some .int) 1 := ⟨(W0_of k_ml_RL_110 rfl), (W0_of k_inst_yX6_setting rfl), (W0_of k_sel_yX6_setting rfl), (W0_of k_ini_RX6 rfl), (W0_of k_code_yX6_setting rfl), ⟨by decide +kernel, by decide +kernel, by decide +kernel⟩⟩
end
section
/-! the state as whole numbers, laid as the check's rows are: F 0 the tick, 1..5 the settings, 6 the open block, 7 reads, 8 of them quick, 9 moved, 10 erasures, 11 held in the buffer, 12.. the buffer, 16 logged, 17.. the log, 41 + 4b the blocks, 65 + 3k the places, 209 + p reads of pages -/
def fo {α : Type} : Nat → Int → α → (Int → α → α) → α
  | 0, _, a, _ => a
  | n + 1, i, a, f => fo n (i + 1) (f i a) f
theorem fo_s {α : Type} {n : Nat} {i : Int} {a a' X : α} {f : Int → α → α} (h : fo (n + 1) i a f = X) (e : f i a = a') : fo n (i + 1) a' f = X := by rw [← h, ← e]; rfl
def fi : Nat → Int → (Int → Bool) → Int → Int
  | 0, _, _, d => d
  | n + 1, i, p, d => if p i = true then i else fi n (i + 1) p d
theorem fi_t {n : Nat} {i d X : Int} {p : Int → Bool} (h : fi (n + 1) i p d = X) (e : p i = true) : X = i := by rw [← h]; exact if_pos e
theorem fi_f {n : Nat} {i d X : Int} {p : Int → Bool} (h : fi (n + 1) i p d = X) (e : ¬ p i = true) : fi n (i + 1) p d = X := by rw [← h]; exact (if_neg e).symm
def an : Nat → Int → (Int → Bool) → Bool
  | 0, _, _ => false
  | n + 1, i, p => p i || an n (i + 1) p
def r_cut (v : Int) : Int := if v < 20 then 20 else v
def r_bears (F : Int → Int) (b : Int) : Int := r_cut (if F (4 * b + 41) = 0 then 400 - 4 * F (4 * b + 42) else if F (4 * b + 41) = 1 then 200 - 5 * F (4 * b + 42) else 100 - 10 * F (4 * b + 42))
/-- places of a block: 0 those with a page, else those that are t -/
def s_cnt (F : Int → Int) (t k n : Int) : Int := n + (if t = 0 then (if 0 ≤ F (3 * k + 65) then 1 else 0) else if F (3 * k + 65) = t then 1 else 0)
def r_cnt (F : Int → Int) (b t : Int) : Int := fo 8 (8 * b) 0 (s_cnt F t)
abbrev P_free (F : Int → Int) (b : Int) : Prop := F 6 ≠ b ∧ r_cnt F b (-1) = 8
def s_frees (F : Int → Int) (b n : Int) : Int := n + (if P_free F b then 1 else 0)
def r_frees (F : Int → Int) : Int := fo 6 0 0 (s_frees F)
def r_far (k r : Int) : Int := if k < r then r - k else k - r
def r_weaker (F : Int → Int) (k r : Int) : Int := if r_far k r = 0 then 1 else if F (4 * (k / 8) + 41) = 2 then (if r_far k r = 1 then 8 else if r_far k r = 2 then 4 else 2) else (if r_far k r = 1 then 4 else if r_far k r = 2 then 2 else 1)
def s_left (F : Int → Int) (r k n : Int) : Int := if 0 ≤ F (3 * k + 65) ∧ (r_bears F (r / 8) - F (3 * k + 66)) / r_weaker F k r < n then (r_bears F (r / 8) - F (3 * k + 66)) / r_weaker F k r else n
def r_left (F : Int → Int) (r : Int) : Int := if fo 8 (8 * (r / 8)) 99999 (s_left F r) < 0 then 0 else fo 8 (8 * (r / 8)) 99999 (s_left F r)
def s_great (F : Int → Int) (k n : Int) : Int := if 0 ≤ F (3 * k + 65) ∧ n < F (3 * k + 66) then F (3 * k + 66) else n
def r_great (F : Int → Int) (b : Int) : Int := fo 8 (8 * b) 0 (s_great F)
def r_hund (F : Int → Int) (b : Int) : Int := 100 * r_great F b / r_bears F b
def p_old (F : Int → Int) (k : Int) : Bool := decide (0 ≤ F (3 * k + 65) ∧ F 2 ≤ F 0 - F (3 * k + 67))
def r_old (F : Int → Int) (b : Int) : Bool := an 8 (8 * b) (p_old F)
abbrev P_marked (F : Int → Int) (b : Int) : Prop := F (4 * b + 43) = 1 ∨ (r_cnt F b 0 ≠ 0 ∧ (r_old F b = true ∨ F 1 * r_bears F b ≤ 100 * r_great F b))
def s_marks (F : Int → Int) (b n : Int) : Int := n + (if P_marked F b then 1 else 0)
def r_marks (F : Int → Int) : Int := fo 6 0 0 (s_marks F)
def s_ahead (F : Int → Int) (b o n : Int) : Int := n + (if P_marked F o ∧ (r_hund F b < r_hund F o ∨ r_hund F o = r_hund F b ∧ o < b) then 1 else 0)
def r_ahead (F : Int → Int) (b : Int) : Int := fo 6 0 0 (s_ahead F b)
def p_at (F : Int → Int) (r b : Int) : Bool := decide (P_marked F b ∧ r_ahead F b = r)
def r_markedAt (F : Int → Int) (r : Int) : Int := fi 6 0 (p_at F r) (-5)
def p_buf (F : Int → Int) (p k : Int) : Bool := decide (F (k + 12) = p)
def r_buf (F : Int → Int) (p : Int) : Int := fi (F 11).toNat 0 (p_buf F p) (-5)
abbrev P_full (F : Int → Int) : Prop := F 6 = -5 ∨ r_cnt F (F 6) (-1) = 0
def s_best (F : Int → Int) (b n : Int) : Int := if P_free F b ∧ (n = -5 ∨ F (4 * b + 42) < F (4 * n + 42)) then b else n
def r_best (F : Int → Int) : Int := fo 6 0 (-5) (s_best F)
def p_hold (F : Int → Int) (p k : Int) : Bool := decide (F (3 * k + 65) = p)
def r_placeOf (F : Int → Int) (p : Int) : Int := fi 48 0 (p_hold F p) (-5)
def p_page (F : Int → Int) (k : Int) : Bool := decide (0 ≤ F (3 * k + 65))
def r_low (F : Int → Int) (b : Int) : Int := fi 8 (8 * b) (p_page F) (-5)
/-! what changes it -/
def s_leave (k : Int) (G : Int → Int) : Int → Int := up G (k + 12) (G (k + 13))
def r_leaves (F : Int → Int) (p : Int) : Int → Int := if r_buf F p = -5 then F else fo (F 11 - 1 - r_buf F p).toNat (r_buf F p) (up F 11 (F 11 - 1)) s_leave
/-- the buffer's pages one place back, from place n on -/
def r_back : Nat → (Int → Int) → (Int → Int)
  | 0, G => G
  | n + 1, G => r_back n (up G ((n : Int) + 1 + 12) (G ((n : Int) + 1 + 11)))
def r_front1 (G : Int → Int) (p : Int) : Int → Int := up (up (r_back (G 11).toNat G) 12 p) 11 (r_back (G 11).toNat G 11 + 1)
def r_fronts (F : Int → Int) (p : Int) : Int → Int := if r_leaves F p 4 = 0 then r_leaves F p else r_front1 (up (r_leaves F p) 11 (if r_leaves F p 11 = r_leaves F p 4 then r_leaves F p 11 - 1 else r_leaves F p 11)) p
def s_reads (r k : Int) (G : Int → Int) : Int → Int := up G (3 * k + 66) (G (3 * k + 66) + (if 0 ≤ G (3 * k + 65) then r_weaker G k r else 0))
def r_readsA (F : Int → Int) (r : Int) : Int → Int := fo 8 (8 * (r / 8)) F (s_reads r)
def r_reads (F : Int → Int) (r : Int) : Int → Int := up (r_readsA F r) (4 * (r / 8) + 44) (r_readsA F r (4 * (r / 8) + 44) + 1)
def r_opens (F : Int → Int) : Int → Int := if P_full F then up F 6 (r_best F) else F
def r_stales (F : Int → Int) (p : Int) : Int → Int := if r_placeOf F p = -5 then F else up F (3 * r_placeOf F p + 65) (-2)
def p_empty (F : Int → Int) (k : Int) : Bool := decide (F (3 * k + 65) = -1)
def r_spot (F : Int → Int) : Int := fi 8 (8 * F 6) (p_empty F) (-5)
def r_puts (F : Int → Int) (p : Int) : Int → Int := up (up (up F (3 * r_spot F + 65) p) (3 * r_spot F + 66) 0) (3 * r_spot F + 67) (F 0)
def r_gives (F : Int → Int) (p : Int) : Int → Int := r_puts (r_stales (r_opens F) p) p
def r_givesK (F : Int → Int) (p : Int) : Int := r_spot (r_stales (r_opens F) p)
def r_shut (F : Int → Int) (b : Int) : Int → Int := up F 6 (if F 6 = b then -5 else F 6)
abbrev P_moves (G : Int → Int) (b : Int) : Prop := ¬ (r_left G (r_low G b) = 0 ∨ P_full G ∧ r_best G = -5)
def r_moved1 (G : Int → Int) (k : Int) : Int → Int := r_gives (r_reads G k) (r_reads G k (3 * k + 65))
def r_moved (G : Int → Int) (b : Int) : Int → Int := up (r_moved1 G (r_low G b)) 9 (r_moved1 G (r_low G b) 9 + 1)
def r_moves (F : Int → Int) (b : Int) : Int → Int := if P_moves (r_shut F b) b then r_moved (r_shut F b) b else r_shut F b
def s_er (k : Int) (x : Int × (Int → Int)) : Int × (Int → Int) := (if x.1 < x.2 (3 * k + 66) then x.2 (3 * k + 66) else x.1, up (up x.2 (3 * k + 65) (-1)) (3 * k + 66) 0)
def r_erA (F : Int → Int) (b : Int) : Int × (Int → Int) := fo 8 (8 * b) ((0 : Int), F) s_er
def r_erB (G : Int → Int) (b : Int) : Int → Int := up (up (up G (4 * b + 42) (G (4 * b + 42) + 1)) (4 * b + 43) 0) 10 (G 10 + 1)
def r_logs : Nat → (Int → Int) → (Int → Int)
  | 0, G => G
  | n + 1, G => r_logs n (up G ((n : Int) + 1 + 19) (G ((n : Int) + 1 + 19 - 3)))
def r_erC (G : Int → Int) (b w : Int) : Int → Int := up (up (up (up G 17 b) 18 (G 0)) 19 w) 16 (G 16 + (if G 16 < 8 then 1 else 0))
def r_erases (F : Int → Int) (b : Int) : Int → Int := r_erC (r_logs 21 (r_erB (r_erA (r_shut F b) b).2 b)) b (r_erA (r_shut F b) b).1
/-- a block moved as a whole: the pages that are moved, or -4; the state then -/
def r_allL : Nat → (Int → Int) → Int → Int → Int × (Int → Int)
  | 0, F, _, n => (n, F)
  | f + 1, F, b, n => if r_low F b = -5 then (n, F) else if P_moves (r_shut F b) b then r_allL f (r_moves F b) b (n + 1) else (-4, r_moves F b)
def r_all (F : Int → Int) (b : Int) : Int × (Int → Int) := if (r_allL 9 (r_shut F b) b 0).1 < 0 then r_allL 9 (r_shut F b) b 0 else ((r_allL 9 (r_shut F b) b 0).1, r_erases (r_allL 9 (r_shut F b) b 0).2 b)
/-- a tick: pages moved, the state -/
def r_tickL : Nat → (Int → Int) → Int → Int × (Int → Int)
  | 0, F, n => (n, F)
  | f + 1, F, n => if F 3 ≤ n ∨ r_markedAt F 0 = -5 then (n, F) else
      if r_low F (r_markedAt F 0) = -5 then r_tickL f (r_erases F (r_markedAt F 0)) n else
      if P_moves (r_shut F (r_markedAt F 0)) (r_markedAt F 0) then
        (if r_low (r_moves F (r_markedAt F 0)) (r_markedAt F 0) = -5 then r_tickL f (r_erases (r_moves F (r_markedAt F 0)) (r_markedAt F 0)) (n + 1) else r_tickL f (r_moves F (r_markedAt F 0)) (n + 1))
      else (n, r_moves F (r_markedAt F 0))
def r_tick (F : Int → Int) : Int × (Int → Int) := r_tickL 32 (up F 0 (F 0 + 1)) 0
def r_write (F : Int → Int) (p : Int) : Int × (Int → Int) := if p < 0 ∨ 23 < p then (-1, F) else if r_frees F < (if P_full F then 2 else 1) then (-3, F) else (r_givesK (r_leaves F p) p, r_gives (r_leaves F p) p)
def r_read3 (F : Int → Int) (p h : Int) : Int → Int := up (up (up (r_fronts F p) 7 (r_fronts F p 7 + 1)) 8 (r_fronts F p 8 + (if h = 0 then 1 else 0))) (p + 209) (r_fronts F p (p + 209) + 1)
def r_read (F : Int → Int) (p : Int) : Int × (Int → Int) :=
  if p < 0 ∨ 23 < p ∨ r_placeOf F p = -5 then (-1, F) else
  if r_buf F p ≠ -5 then (0, r_read3 F p 0) else
  if r_left F (r_placeOf F p) ≠ 0 then (1, r_read3 (r_reads F (r_placeOf F p)) p 1) else
  if F 5 = 1 ∧ 0 ≤ (r_all F (r_placeOf F p / 8)).1 ∧ 0 < r_left (r_all F (r_placeOf F p / 8)).2 (r_placeOf (r_all F (r_placeOf F p / 8)).2 p) then
    (2, r_read3 (r_reads (r_all F (r_placeOf F p / 8)).2 (r_placeOf (r_all F (r_placeOf F p / 8)).2 p)) p 2) else (-4, F)
def r_passL : Nat → (Int → Int) → Int → Int × (Int → Int)
  | 0, F, n => (n, F)
  | f + 1, F, n => r_passL f (r_tick F).2 (n + (r_tick F).1)
def r_pass (F : Int → Int) (t : Int) : Int × (Int → Int) := if t < 1 ∨ 99 < t then (-2, F) else if 99999 < F 0 + t then (-4, F) else r_passL t.toNat F 0
/-- what holds of a state; every number of it is at most N -/
def WF (N : Int) (F : Int → Int) : Prop :=
  (200000 ≤ N ∧ N ≤ 200000000) ∧ (∀ i, -N ≤ F i ∧ F i ≤ N) ∧
  (10 ≤ F 1 ∧ F 1 ≤ 100 ∧ 1 ≤ F 2 ∧ F 2 ≤ 999 ∧ 0 ≤ F 3 ∧ F 3 ≤ 8 ∧ 0 ≤ F 4 ∧ F 4 ≤ 4 ∧ 0 ≤ F 5 ∧ F 5 ≤ 1) ∧
  (F 6 = -5 ∨ 0 ≤ F 6 ∧ F 6 ≤ 5) ∧ (0 ≤ F 11 ∧ F 11 ≤ F 4) ∧
  (∀ b, 0 ≤ b → b < 6 → 0 ≤ F (4 * b + 41) ∧ F (4 * b + 41) ≤ 2 ∧ 0 ≤ F (4 * b + 42) ∧ 0 ≤ F (4 * b + 43) ∧ F (4 * b + 43) ≤ 1) ∧
  (∀ k, 0 ≤ k → k < 48 → -2 ≤ F (3 * k + 65) ∧ F (3 * k + 65) ≤ 23 ∧ 0 ≤ F (3 * k + 66) ∧ (F (3 * k + 65) = -1 → F (3 * k + 66) = 0) ∧ F (3 * k + 66) ≤ r_bears F (k / 8)) ∧
  (∀ j k, 0 ≤ j → j < 48 → 0 ≤ k → k < 48 → 0 ≤ F (3 * j + 65) → F (3 * j + 65) = F (3 * k + 65) → j = k) ∧
  (∀ k, 0 ≤ k → k < 48 → F (3 * k + 65) = -1 → k % 8 ≠ 7 → F (3 * k + 68) = -1) ∧
  (0 ≤ F 10 ∧ F 16 = if F 10 < 8 then F 10 else 8)
/-- numbers that the machine can add and compare -/
def Bd (F : Int → Int) : Prop := ∀ i, -300000000 ≤ F i ∧ F i ≤ 300000000
theorem Bd.bd {F : Int → Int} (h : Bd F) (i : Int) : -300000000 ≤ F i ∧ F i ≤ 300000000 := h i
theorem Bd.up {F : Int → Int} (h : Bd F) {i v : Int} (hv : -300000000 ≤ v ∧ v ≤ 300000000) : Bd (up F i v) := by
  intro j
  by_cases hj : j = i
  · rw [up_eq hj]; exact hv
  · rw [up_ne hj]; exact h j
theorem WF.b {N : Int} {F : Int → Int} (h : WF N F) : Bd F := fun i => by have := h.2.1 i; have := h.1; omega
theorem WF.nn {N : Int} {F : Int → Int} (h : WF N F) : 200000 ≤ N ∧ N ≤ 200000000 := h.1
theorem WF.bd {N : Int} {F : Int → Int} (h : WF N F) (i : Int) : -200000000 ≤ F i ∧ F i ≤ 200000000 := by have := h.2.1 i; have := h.1; omega
theorem WF.se {N : Int} {F : Int → Int} (h : WF N F) : 10 ≤ F 1 ∧ F 1 ≤ 100 ∧ 1 ≤ F 2 ∧ F 2 ≤ 999 ∧ 0 ≤ F 3 ∧ F 3 ≤ 8 ∧ 0 ≤ F 4 ∧ F 4 ≤ 4 ∧ 0 ≤ F 5 ∧ F 5 ≤ 1 := h.2.2.1
theorem WF.op {N : Int} {F : Int → Int} (h : WF N F) : F 6 = -5 ∨ 0 ≤ F 6 ∧ F 6 ≤ 5 := h.2.2.2.1
theorem WF.he {N : Int} {F : Int → Int} (h : WF N F) : 0 ≤ F 11 ∧ F 11 ≤ F 4 := h.2.2.2.2.1
theorem WF.bl {N : Int} {F : Int → Int} (h : WF N F) {b : Int} (h0 : 0 ≤ b) (h1 : b < 6) : 0 ≤ F (4 * b + 41) ∧ F (4 * b + 41) ≤ 2 ∧ 0 ≤ F (4 * b + 42) ∧ 0 ≤ F (4 * b + 43) ∧ F (4 * b + 43) ≤ 1 := h.2.2.2.2.2.1 b h0 h1
theorem WF.pl {N : Int} {F : Int → Int} (h : WF N F) {k : Int} (h0 : 0 ≤ k) (h1 : k < 48) : -2 ≤ F (3 * k + 65) ∧ F (3 * k + 65) ≤ 23 ∧ 0 ≤ F (3 * k + 66) ∧ (F (3 * k + 65) = -1 → F (3 * k + 66) = 0) ∧ F (3 * k + 66) ≤ r_bears F (k / 8) := h.2.2.2.2.2.2.1 k h0 h1
theorem WF.un {N : Int} {F : Int → Int} (h : WF N F) {j k : Int} (h0 : 0 ≤ j) (h1 : j < 48) (h2 : 0 ≤ k) (h3 : k < 48) (h4 : 0 ≤ F (3 * j + 65)) (h5 : F (3 * j + 65) = F (3 * k + 65)) : j = k := h.2.2.2.2.2.2.2.1 j k h0 h1 h2 h3 h4 h5
theorem WF.fl {N : Int} {F : Int → Int} (h : WF N F) {k : Int} (h0 : 0 ≤ k) (h1 : k < 48) (h2 : F (3 * k + 65) = -1) (h3 : k % 8 ≠ 7) : F (3 * k + 68) = -1 := h.2.2.2.2.2.2.2.2.1 k h0 h1 h2 h3
theorem WF.lo {N : Int} {F : Int → Int} (h : WF N F) : 0 ≤ F 10 ∧ F 16 = if F 10 < 8 then F 10 else 8 := h.2.2.2.2.2.2.2.2.2
theorem cut_rg {v : Int} (h : v ≤ 400) : 20 ≤ r_cut v ∧ r_cut v ≤ 400 := by unfold r_cut; split <;> omega
theorem bears_rg {N : Int} {F : Int → Int} (h : WF N F) {b : Int} (h0 : 0 ≤ b) (h1 : b < 6) : 20 ≤ r_bears F b ∧ r_bears F b ≤ 400 := by
  have hb := h.bl h0 h1
  unfold r_bears
  apply cut_rg
  split
  · omega
  · split <;> omega
theorem fo_le {n : Nat} : ∀ {i a : Int} {f : Int → Int → Int} {lo hi : Int}, lo ≤ a → a ≤ hi → (∀ j x, i ≤ j → j < i + n → lo ≤ x → x ≤ hi → lo ≤ f j x ∧ f j x ≤ hi) → lo ≤ fo n i a f ∧ fo n i a f ≤ hi := by
  induction n with
  | zero => intro i a f lo hi h1 h2 _; exact ⟨h1, h2⟩
  | succ n ih =>
    intro i a f lo hi h1 h2 h3
    have h4 := h3 i a (by omega) (by omega) h1 h2
    exact ih h4.1 h4.2 (fun j x q1 q2 => h3 j x (by omega) (by omega))
/-! bounds of what is told -/
theorem stf_rg (i : Nat) (j : Int) : 0 ≤ stf i j ∧ stf i j ≤ 999 := by
  have key : ∀ (l : List Int), (∀ x ∈ l, 0 ≤ x ∧ x ≤ 999) → ∀ k : Nat, 0 ≤ l.getD k 0 ∧ l.getD k 0 ≤ 999 := by
    intro l hl k
    rw [List.getD_eq_getElem?_getD]
    cases h : l[k]? with
    | none => simp
    | some x => exact hl x (List.mem_of_getElem? h)
  have h5 : ∀ i : Nat, ∀ x ∈ stv i, 0 ≤ x ∧ x ≤ 999 := by
    intro i
    match i with
    | 0 => decide
    | 1 => decide
    | 2 => decide
    | 3 => decide
    | 4 => decide
    | n + 5 => intro x hx; have hx : x ∈ [(4 : Int), 5, 10] := hx; simp at hx; omega
  exact key _ (h5 i) _
theorem fo_add {n : Nat} : ∀ {i a : Int} {f : Int → Int → Int}, (∀ j x, x ≤ f j x ∧ f j x ≤ x + 1) → a ≤ fo n i a f ∧ fo n i a f ≤ a + n := by
  induction n with
  | zero => intro i a f _; exact ⟨Int.le_refl _, by show a ≤ _; omega⟩
  | succ n ih =>
    intro i a f h
    have h1 := h i a
    have h2 := ih (i := i + 1) (a := f i a) (f := f) h
    have h3 : fo (n + 1) i a f = fo n (i + 1) (f i a) f := rfl
    rw [h3]
    omega
theorem cnt_rg (F : Int → Int) (b t : Int) : 0 ≤ r_cnt F b t ∧ r_cnt F b t ≤ 8 := by
  have h := fo_add (n := 8) (i := 8 * b) (a := 0) (f := s_cnt F t) (fun j x => by unfold s_cnt; split <;> (split <;> omega))
  exact ⟨h.1, by have := h.2; unfold r_cnt; omega⟩
theorem frees_rg (F : Int → Int) : 0 ≤ r_frees F ∧ r_frees F ≤ 6 := by
  have h := fo_add (n := 6) (i := 0) (a := 0) (f := s_frees F) (fun j x => by unfold s_frees; split <;> omega)
  exact ⟨h.1, by have := h.2; unfold r_frees; omega⟩
theorem marks_rg (F : Int → Int) : 0 ≤ r_marks F ∧ r_marks F ≤ 6 := by
  have h := fo_add (n := 6) (i := 0) (a := 0) (f := s_marks F) (fun j x => by unfold s_marks; split <;> omega)
  exact ⟨h.1, by have := h.2; unfold r_marks; omega⟩
theorem ahead_rg (F : Int → Int) (b : Int) : 0 ≤ r_ahead F b ∧ r_ahead F b ≤ 6 := by
  have h := fo_add (n := 6) (i := 0) (a := 0) (f := s_ahead F b) (fun j x => by unfold s_ahead; split <;> omega)
  exact ⟨h.1, by have := h.2; unfold r_ahead; omega⟩
theorem weaker_rg (F : Int → Int) (k r : Int) : 1 ≤ r_weaker F k r ∧ r_weaker F k r ≤ 8 := by
  unfold r_weaker
  omega
theorem great_rg {N : Int} {F : Int → Int} (h : WF N F) {b : Int} (h0 : 0 ≤ b) (h1 : b < 6) : 0 ≤ r_great F b ∧ r_great F b ≤ 400 := by
  have hb := bears_rg h h0 h1
  refine fo_le (by omega) (by omega) (fun j x q1 q2 q3 q4 => ?_)
  unfold s_great
  split
  · have := h.pl (k := j) (by omega) (by omega)
    rw [show j / 8 = b from by omega] at this
    omega
  · omega
theorem hund_rg {N : Int} {F : Int → Int} (h : WF N F) {b : Int} (h0 : 0 ≤ b) (h1 : b < 6) : 0 ≤ r_hund F b ∧ r_hund F b ≤ 40000 := by
  have hb := bears_rg h h0 h1
  have hg := great_rg h h0 h1
  unfold r_hund
  refine ⟨Int.ediv_nonneg (by omega) (by omega), ?_⟩
  have h2 : 100 * r_great F b / r_bears F b ≤ 100 * r_great F b := by
    refine Int.ediv_le_self _ (by omega)
  omega
theorem fi_rg {n : Nat} : ∀ {i d : Int} {p : Int → Bool}, fi n i p d = d ∨ (i ≤ fi n i p d ∧ fi n i p d < i + n ∧ p (fi n i p d) = true) := by
  induction n with
  | zero => intro i d p; exact Or.inl rfl
  | succ n ih =>
    intro i d p
    by_cases h : p i = true
    · refine Or.inr ?_
      rw [show fi (n + 1) i p d = i from if_pos h]
      exact ⟨Int.le_refl _, by omega, h⟩
    · rw [show fi (n + 1) i p d = fi n (i + 1) p d from if_neg h]
      rcases ih (i := i + 1) (d := d) (p := p) with h1 | ⟨h1, h2, h3⟩
      · exact Or.inl h1
      · exact Or.inr ⟨by omega, by omega, h3⟩
theorem placeOf_rg (F : Int → Int) (p : Int) : r_placeOf F p = -5 ∨ 0 ≤ r_placeOf F p ∧ r_placeOf F p < 48 := by
  rcases fi_rg (n := 48) (i := 0) (d := -5) (p := p_hold F p) with h | ⟨h1, h2, -⟩
  · exact Or.inl h
  · exact Or.inr ⟨h1, by unfold r_placeOf; omega⟩
theorem low_rg (F : Int → Int) (b : Int) : r_low F b = -5 ∨ 8 * b ≤ r_low F b ∧ r_low F b < 8 * b + 8 ∧ 0 ≤ F (3 * r_low F b + 65) := by
  rcases fi_rg (n := 8) (i := 8 * b) (d := -5) (p := p_page F) with h | ⟨h1, h2, h3⟩
  · exact Or.inl h
  · exact Or.inr ⟨h1, by unfold r_low; omega, by simp only [p_page, decide_eq_true_eq] at h3; exact h3⟩
theorem spot_rg (F : Int → Int) : r_spot F = -5 ∨ 8 * F 6 ≤ r_spot F ∧ r_spot F < 8 * F 6 + 8 ∧ F (3 * r_spot F + 65) = -1 := by
  rcases fi_rg (n := 8) (i := 8 * F 6) (d := -5) (p := p_empty F) with h | ⟨h1, h2, h3⟩
  · exact Or.inl h
  · exact Or.inr ⟨h1, by unfold r_spot; omega, by simp only [p_empty, decide_eq_true_eq] at h3; exact h3⟩
theorem at_rg (F : Int → Int) (r : Int) : r_markedAt F r = -5 ∨ 0 ≤ r_markedAt F r ∧ r_markedAt F r < 6 := by
  rcases fi_rg (n := 6) (i := 0) (d := -5) (p := p_at F r) with h | ⟨h1, h2, -⟩
  · exact Or.inl h
  · exact Or.inr ⟨h1, by unfold r_markedAt; omega⟩
theorem buf_rg (F : Int → Int) (p : Int) : r_buf F p = -5 ∨ 0 ≤ r_buf F p ∧ r_buf F p < F 11 ∧ F (r_buf F p + 12) = p := by
  rcases fi_rg (n := (F 11).toNat) (i := 0) (d := -5) (p := p_buf F p) with h | ⟨h1, h2, h3⟩
  · exact Or.inl h
  · exact Or.inr ⟨h1, by unfold r_buf; omega, by simp only [p_buf, decide_eq_true_eq] at h3; exact h3⟩
theorem best_rg (F : Int → Int) : r_best F = -5 ∨ 0 ≤ r_best F ∧ r_best F < 6 ∧ P_free F (r_best F) := by
  have key : ∀ (n : Nat) (i a : Int), 0 ≤ i → i + n ≤ 6 → (a = -5 ∨ 0 ≤ a ∧ a < 6 ∧ P_free F a) → (fo n i a (s_best F) = -5 ∨ 0 ≤ fo n i a (s_best F) ∧ fo n i a (s_best F) < 6 ∧ P_free F (fo n i a (s_best F))) := by
    intro n
    induction n with
    | zero => intro i a _ _ h; exact h
    | succ n ih =>
      intro i a h0 h1 h
      refine ih (i + 1) _ (by omega) (by omega) ?_
      unfold s_best
      split
      · rename_i h2
        exact Or.inr ⟨by omega, by omega, h2.1⟩
      · exact h
  exact key 6 0 (-5) (by omega) (by omega) (Or.inl rfl)
theorem left_rg (F : Int → Int) (r : Int) : 0 ≤ r_left F r ∧ r_left F r ≤ 99999 := by
  unfold r_left
  have key : ∀ (n : Nat) (i a : Int), a ≤ 99999 → fo n i a (s_left F r) ≤ 99999 := by
    intro n
    induction n with
    | zero => intro i a h; exact h
    | succ n ih =>
      intro i a h
      refine ih _ _ ?_
      unfold s_left
      split <;> omega
  have := key 8 (8 * (r / 8)) 99999 (by omega)
  split <;> omega
theorem an_s {n : Nat} {k o o' : Int} {p : Int → Bool} {B : Prop} (h : (o = 1 ∨ an (n + 1) k p = true) ↔ B) (e : o' = 1 ↔ (o = 1 ∨ p k = true)) : (o' = 1 ∨ an n (k + 1) p = true) ↔ B := by
  rw [← h, e, or_assoc]
  show _ ↔ (o = 1 ∨ (p k || an n (k + 1) p) = true)
  rw [Bool.or_eq_true]
theorem an_0 {k o : Int} {p : Int → Bool} {B : Bool} (h : (o = 1 ∨ an 0 k p = true) ↔ B = true) (ho : o = 0 ∨ o = 1) : o = if B = true then 1 else 0 := by
  by_cases hb : B = true
  · rw [if_pos hb]
    rcases h.mpr hb with h1 | h1
    · exact h1
    · exact absurd h1 (by simp [an])
  · rw [if_neg hb]
    rcases ho with h1 | h1
    · exact h1
    · exact absurd (h.mp (Or.inl h1)) hb
theorem div_rg {a b : Int} (ha : 0 ≤ a) (hb : 0 < b) : 0 ≤ a / b ∧ a / b ≤ a := ⟨Int.ediv_nonneg ha (by omega), Int.ediv_le_self b ha⟩
theorem rem_rg {a b : Int} (_ : 0 ≤ a) (hb : 0 < b) : 0 ≤ a % b ∧ a % b < b := ⟨Int.emod_nonneg a (by omega), Int.emod_lt_of_pos a hb⟩
theorem mul_rg {a b : Int} (ha : 0 ≤ a ∧ a ≤ 1000) (hb : 0 ≤ b ∧ b ≤ 400) : 0 ≤ a * b ∧ a * b ≤ 400000 := by
  refine ⟨Int.mul_nonneg ha.1 hb.1, ?_⟩
  have h1 := Int.mul_le_mul ha.2 hb.2 hb.1 (by omega)
  omega
theorem allL_s {f : Nat} {F : Int → Int} {b n : Int} : r_allL (f + 1) F b n = if r_low F b = -5 then (n, F) else if P_moves (r_shut F b) b then r_allL f (r_moves F b) b (n + 1) else (-4, r_moves F b) := rfl
theorem tickL_s {f : Nat} {F : Int → Int} {n : Int} : r_tickL (f + 1) F n = if F 3 ≤ n ∨ r_markedAt F 0 = -5 then (n, F) else if r_low F (r_markedAt F 0) = -5 then r_tickL f (r_erases F (r_markedAt F 0)) n else if P_moves (r_shut F (r_markedAt F 0)) (r_markedAt F 0) then (if r_low (r_moves F (r_markedAt F 0)) (r_markedAt F 0) = -5 then r_tickL f (r_erases (r_moves F (r_markedAt F 0)) (r_markedAt F 0)) (n + 1) else r_tickL f (r_moves F (r_markedAt F 0)) (n + 1)) else (n, r_moves F (r_markedAt F 0)) := rfl
end
section
/-! the whole object as a book: B 0 the state, 1..4 the history (the latest first), 5 the snapshot, 6 the text, 7 the latest refusal, 8 states in the history, 9 whether there is a snapshot, 10 the text's length, 11 whether an order was refused -/
def upT (T : Nat → Int → Int) (k : Nat) (f : Int → Int) : Nat → Int → Int := fun i => if i = k then f else T i
theorem upT_eq {T : Nat → Int → Int} {k : Nat} {f : Int → Int} : upT T k f k = f := if_pos rfl
theorem upT_ne {T : Nat → Int → Int} {k i : Nat} {f : Int → Int} (h : i ≠ k) : upT T k f i = T i := if_neg h
def b_rec (B : Nat → Int → Int) : Nat → Int → Int := upT (upT (upT (upT (upT B 4 (B 3)) 3 (B 2)) 2 (B 1)) 1 (B 0)) 8 (fun _ => if B 8 0 = 4 then 4 else B 8 0 + 1)
def b_pop (B : Nat → Int → Int) : Nat → Int → Int := upT (upT (upT (upT (upT B 0 (B 1)) 1 (B 2)) 2 (B 3)) 3 (B 4)) 8 (fun _ => B 8 0 - 1)
def act (B : Nat → Int → Int) (x : Int × (Int → Int)) : Int × (Nat → Int → Int) := if x.1 < 0 then (x.1, B) else (x.1, upT (b_rec B) 0 x.2)
theorem act_n {B : Nat → Int → Int} {x : Int × (Int → Int)} (h : x.1 < 0) : act B x = (x.1, B) := if_pos h
theorem act_p {B : Nat → Int → Int} {x : Int × (Int → Int)} (h : 0 ≤ x.1) : act B x = (x.1, upT (b_rec B) 0 x.2) := if_neg (by omega)
abbrev S_ok (w v : Int) : Prop := (w = 0 ∧ 10 ≤ v ∧ v ≤ 100) ∨ (w = 1 ∧ 1 ≤ v ∧ v ≤ 999) ∨ (w = 2 ∧ 0 ≤ v ∧ v ≤ 8) ∨ (w = 3 ∧ 0 ≤ v ∧ v ≤ 4) ∨ (w = 4 ∧ 0 ≤ v ∧ v ≤ 1)
def r_set (F : Int → Int) (w v : Int) : Int → Int := up (up F (w + 1) v) 11 (if up F (w + 1) v 4 < up F (w + 1) v 11 then up F (w + 1) v 4 else up F (w + 1) v 11)
def c_set (B : Nat → Int → Int) (w v : Int) : Int × (Nat → Int → Int) := if w < 0 ∨ 4 < w then (-1, B) else if ¬ S_ok w v then (-2, B) else if B 0 (w + 1) = v then (-5, B) else (B 0 (w + 1), upT (b_rec B) 0 (r_set (B 0) w v))
def c_setKind (B : Nat → Int → Int) (b k : Int) : Int × (Nat → Int → Int) := if b < 0 ∨ 5 < b then (-1, B) else if k < 0 ∨ 2 < k then (-2, B) else if ¬ P_free (B 0) b then (-4, B) else if B 0 (4 * b + 41) = k then (-5, B) else (B 0 (4 * b + 41), upT (b_rec B) 0 (up (B 0) (4 * b + 41) k))
def c_mark (B : Nat → Int → Int) (b i : Int) : Int × (Nat → Int → Int) := if b < 0 ∨ 5 < b then (-1, B) else if P_free (B 0) b then (-4, B) else if B 0 (4 * b + 43) = i then (-5, B) else (r_marks (up (B 0) (4 * b + 43) i), upT (b_rec B) 0 (up (B 0) (4 * b + 43) i))
def c_write (B : Nat → Int → Int) (p : Int) : Int × (Nat → Int → Int) := act B (r_write (B 0) p)
def c_read (B : Nat → Int → Int) (p : Int) : Int × (Nat → Int → Int) := act B (r_read (B 0) p)
def s_placed (F : Int → Int) (b n : Int) : Int := n + r_cnt F b 0
def r_placed (F : Int → Int) : Int := fo 6 0 0 (s_placed F)
def r_forget (F : Int → Int) (p : Int) : Int → Int := r_leaves (up F (3 * r_placeOf F p + 65) (-2)) p
def c_forget (B : Nat → Int → Int) (p : Int) : Int × (Nat → Int → Int) := if p < 0 ∨ 23 < p ∨ r_placeOf (B 0) p = -5 then (-1, B) else (r_placed (r_forget (B 0) p), upT (b_rec B) 0 (r_forget (B 0) p))
def c_moveBlock (B : Nat → Int → Int) (b : Int) : Int × (Nat → Int → Int) := if b < 0 ∨ 5 < b then (-1, B) else if P_free (B 0) b then (-4, B) else act B (r_all (B 0) b)
def c_pass (B : Nat → Int → Int) (t : Int) : Int × (Nat → Int → Int) := act B (r_pass (B 0) t)
def c_type (B : Nat → Int → Int) (c : Int) : Int × (Nat → Int → Int) := if B 10 0 = 60 then (-3, B) else (B 10 0 + 1, upT (upT B 6 (up (B 6) (B 10 0) c)) 10 (fun _ => B 10 0 + 1))
def c_clear (B : Nat → Int → Int) : Int × (Nat → Int → Int) := (B 10 0, upT B 10 (fun _ => 0))
def c_undo (B : Nat → Int → Int) : Int × (Nat → Int → Int) := if B 8 0 = 0 then (-5, B) else (B 8 0 - 1, b_pop B)
def c_keep (B : Nat → Int → Int) : Int × (Nat → Int → Int) := (B 0 0, upT (upT B 5 (B 0)) 9 (fun _ => 1))
def c_restore (B : Nat → Int → Int) : Int × (Nat → Int → Int) := if B 9 0 = 0 then (-5, B) else (B 5 0, upT (b_rec B) 0 (B 5))
def c_refusal (B : Nat → Int → Int) (w : Int) : Int := if w < 0 ∨ 2 < w then -2 else if B 11 0 = 0 then -5 else B 7 w
def c_page (F : Int → Int) (p w : Int) : Int := if p < 0 ∨ 23 < p then -1 else if w < 0 ∨ 5 < w then -2 else if w = 4 then r_buf F p else if w = 5 then F (p + 209) else if r_placeOf F p = -5 then -5 else
  if w = 0 then r_placeOf F p else if w = 1 then F (3 * r_placeOf F p + 66) else if w = 2 then F 0 - F (3 * r_placeOf F p + 67) else r_left F (r_placeOf F p)
def c_block (F : Int → Int) (b w : Int) : Int := if b < 0 ∨ 5 < b then -1 else if w < 0 ∨ 9 < w then -2 else if w = 0 then F (4 * b + 41) else if w = 1 then F (4 * b + 42) else if w = 2 then r_bears F b else if w = 3 then r_cnt F b 0 else if w = 4 then r_cnt F b (-2) else if w = 5 then r_great F b else
  if w = 6 then (if P_marked F b then 1 else 0) else if w = 7 then (if P_free F b then 1 else 0) else if w = 8 then F (4 * b + 44) else F (4 * b + 43)
def c_place (F : Int → Int) (b k w : Int) : Int := if b < 0 ∨ 5 < b ∨ k < 0 ∨ 7 < k then -1 else if w < 0 ∨ 2 < w then -2 else if w = 2 then F (3 * k + 24 * b + 66) else if w = 0 then (if F (3 * k + 24 * b + 65) < 0 then -5 else F (3 * k + 24 * b + 65)) else
  if F (3 * k + 24 * b + 65) = -1 then 0 else if F (3 * k + 24 * b + 65) = -2 then 2 else 1
def c_marked (F : Int → Int) (r : Int) : Int := if r < 0 then -2 else r_markedAt F r
def r_quietL : Nat → (Int → Int) → Int → Int
  | 0, _, _ => -5
  | f + 1, F, t => if r_marks F = 0 then t else r_quietL f (r_tick F).2 (t + 1)
def c_quiet (F : Int → Int) : Int := r_quietL 301 F 0
def c_erasure (F : Int → Int) (k w : Int) : Int := if k < 0 ∨ w < 0 ∨ 2 < w then -2 else if k < F 16 then F (w + 3 * k + 17) else -5
def s_weak (F : Int → Int) (b n : Int) : Int := if n < r_hund F b then r_hund F b else n
def r_weakest (F : Int → Int) : Int := fo 6 0 0 (s_weak F)
def c_count (B : Nat → Int → Int) (w : Int) : Int := if w < 0 ∨ 12 < w then -2 else if w = 0 then B 0 0 else if w = 1 then r_placed (B 0) else if w = 2 then r_frees (B 0) else if w = 3 then B 0 6 else if w = 4 then r_marks (B 0) else if w < 10 then B 0 (w + 2) else if w = 10 then r_weakest (B 0) else if w = 11 then B 8 0 else B 10 0
def c_setting (F : Int → Int) (w : Int) : Int := if w < 0 ∨ 4 < w then -1 else F (w + 1)
/-! texts: t the signs, n how many -/
def d_at (t : Int → Int) (n i : Int) : Int := if i < n ∧ 48 ≤ t i ∧ t i ≤ 57 then t i - 48 else -1
abbrev N_two (t : Int → Int) (n a hi : Int) : Prop := 0 < d_at t n a ∧ 0 ≤ d_at t n (a + 1) ∧ 10 * d_at t n a + d_at t n (a + 1) ≤ hi
def n_val (t : Int → Int) (n a hi : Int) : Int := if N_two t n a hi then 10 * d_at t n a + d_at t n (a + 1) else d_at t n a
def n_end (t : Int → Int) (n a hi : Int) : Int := if N_two t n a hi then a + 2 else a + 1
abbrev O_let (t : Int → Int) (n a : Int) : Prop := a < n ∧ (t a = 114 ∨ t a = 119 ∨ t a = 116)
def o_lo (t : Int → Int) (a : Int) : Int := if t a = 116 then 1 else 0
def o_hi (t : Int → Int) (a : Int) : Int := if t a = 116 then 99 else 23
def o_e1 (t : Int → Int) (n a : Int) : Int := n_end t n (a + 1) (o_hi t a)
abbrev O_num (t : Int → Int) (n a : Int) : Prop := o_lo t a ≤ d_at t n (a + 1)
abbrev O_star (t : Int → Int) (n a : Int) : Prop := t a = 114 ∧ o_e1 t n a < n ∧ t (o_e1 t n a) = 42
abbrev O_rep (t : Int → Int) (n a : Int) : Prop := 1 ≤ d_at t n (o_e1 t n a + 1)
abbrev O_ok (t : Int → Int) (n a : Int) : Prop := O_let t n a ∧ O_num t n a ∧ (O_star t n a → O_rep t n a)
/-- where the order that begins at a ends, or its fault -/
def o_end (t : Int → Int) (n a : Int) : Int := if ¬ O_let t n a then a else if ¬ O_num t n a then a + 1 else if O_star t n a then (if O_rep t n a then n_end t n (o_e1 t n a + 1) 99 else o_e1 t n a + 1) else o_e1 t n a
def o_arg (t : Int → Int) (n a : Int) : Int := n_val t n (a + 1) (o_hi t a)
def o_rep (t : Int → Int) (n a : Int) : Int := if O_star t n a then n_val t n (o_e1 t n a + 1) 99 else 1
/-- the text from a on, k orders behind: (whether it is one, where it stopped, how many orders), and where each begins -/
def t_run (t : Int → Int) (n : Int) : Nat → Int → Int → Int × Int × Int
  | 0, a, k => (0, a, k)
  | f + 1, a, k => if ¬ O_ok t n a then (0, o_end t n a, k) else if o_end t n a < n ∧ t (o_end t n a) = 44 then t_run t n f (o_end t n a + 1) (k + 1) else ((if o_end t n a = n then 1 else 0), o_end t n a, k + 1)
/-- where order i begins -/
def t_at (t : Int → Int) (n : Int) : Nat → Int
  | 0 => 0
  | i + 1 => o_end t n (t_at t n i) + 1
def e_one (F : Int → Int) (c x : Int) : Int × (Int → Int) := if c = 114 then r_read F x else if c = 119 then r_write F x else r_pass F x
/-- an order done m times, d times done: (the error or 0, how often it was done, the state) -/
def e_reps (c x : Int) : Nat → Int → (Int → Int) → Int × Int × (Int → Int)
  | 0, d, F => (0, d, F)
  | m + 1, d, F => if (e_one F c x).1 < 0 then ((e_one F c x).1, d, F) else e_reps c x m (d + 1) (e_one F c x).2
/-- the orders from i on: (the error or 0, the order, how often it was done, the state) -/
def e_all (t : Int → Int) (n : Int) : Nat → Nat → (Int → Int) → Int × Int × Int × (Int → Int)
  | 0, i, F => (0, i, 0, F)
  | f + 1, i, F => if (e_reps (t (t_at t n i)) (o_arg t n (t_at t n i)) (o_rep t n (t_at t n i)).toNat 0 F).1 < 0 then ((e_reps (t (t_at t n i)) (o_arg t n (t_at t n i)) (o_rep t n (t_at t n i)).toNat 0 F).1, i, (e_reps (t (t_at t n i)) (o_arg t n (t_at t n i)) (o_rep t n (t_at t n i)).toNat 0 F).2.1, F)
      else e_all t n f (i + 1) (e_reps (t (t_at t n i)) (o_arg t n (t_at t n i)) (o_rep t n (t_at t n i)).toNat 0 F).2.2
def t_of (B : Nat → Int → Int) : Int × Int × Int := t_run (B 6) (B 10 0) 21 0 0
def p_of (B : Nat → Int → Int) : Int × Int × Int × (Int → Int) := e_all (B 6) (B 10 0) (t_of B).2.2.toNat 0 (B 0)
def c_perform (B : Nat → Int → Int) : Int × (Nat → Int → Int) := if (t_of B).1 = 0 then (-100 - (t_of B).2.1, B) else
  if (p_of B).1 < 0 then (-4, upT (upT B 7 (up (up (up (B 7) 0 (p_of B).2.1) 1 (p_of B).1) 2 (p_of B).2.2.1)) 11 (fun _ => 1)) else ((t_of B).2.2, upT (b_rec B) 0 (p_of B).2.2.2)
/-- what holds of a book -/
def WB (N : Int) (B : Nat → Int → Int) : Prop := WF N (B 0) ∧ (0 ≤ B 8 0 ∧ B 8 0 ≤ 4) ∧ (0 < B 8 0 → WF N (B 1)) ∧ (1 < B 8 0 → WF N (B 2)) ∧ (2 < B 8 0 → WF N (B 3)) ∧ (3 < B 8 0 → WF N (B 4)) ∧
  (B 9 0 = 0 ∨ B 9 0 = 1) ∧ (B 9 0 = 1 → WF N (B 5)) ∧ (0 ≤ B 10 0 ∧ B 10 0 ≤ 60) ∧ (∀ i, 0 ≤ B 6 i ∧ B 6 i ≤ 65535) ∧ (B 11 0 = 0 ∨ B 11 0 = 1) ∧ (∀ i, -300000000 ≤ B 7 i ∧ B 7 i ≤ 300000000)
/-- the history as the check's model lays it: the latest last -/
def h_of (B : Nat → Int → Int) (r : Int) : Int → Int := if r = 0 then B 1 else if r = 1 then B 2 else if r = 2 then B 3 else B 4
def PastOk (B : Nat → Int → Int) (P : Int → Int) : Prop := ∀ r i, 0 ≤ r → r < B 8 0 → 0 ≤ i → i < 233 → P (233 * (B 8 0 - 1 - r) + i) = h_of B r i
/-- the model's cells: X 0 then, 1 back, 2 past, 3 at, 4 value, 5 told, 6 tolds -/
def mo_ws (g : GG) (b : Nat → Nat) (B X : Nat → Int → Int) : va_W := [(b 0, .inr (6, [.ref (b 1), .ref (b 2), .ref (b 3), .ref (b 4), .int (iI (B 8 0)), .ref (b 5), .int (iI (B 9 0)), .ref (b 6), .int (iI (B 10 0)), .int (iI (X 3 0)), .int (iI (X 4 0)), .ref (b 7), .int (iI (X 6 0)), .ref (b 8), .int (iI (B 11 0))])),
  (b 1, eI g 233 (B 0)), (b 2, eI g 233 (X 0)), (b 3, eI g 233 (X 1)), (b 4, eI g 932 (X 2)), (b 5, eI g 233 (B 5)), (b 6, eI g 60 (B 6)), (b 7, eI g 93 (X 5)), (b 8, eI g 3 (B 7))]
/-- a row's content may be told otherwise beyond its places -/
theorem Wd.re {g : GG} {A : Nat → Prop} {ws : va_W} {s : State} {H : Heap} {locs : List Loc} (w : Wd g A ws s H locs) (q : Nat) {a n : Nat} {f f' : Int → Int} (hq : ws[q]? = some (a, eI g n f)) (h : ∀ j : Int, 0 ≤ j → j < n → f j = f' j) : Wd g A (ws.set q (a, eI g n f')) s H locs := by
  obtain ⟨hK, hP, hD, hS, hA, hN, hT⟩ := w
  refine ⟨hK, ?_, hD.set hq, hS, hA, hN, hT⟩
  refine hP.set hD hq ?_ (fun _ _ => rfl)
  have h0 := hP q _ hq
  show H[a]? = some (vp_cell g.2.1.1 (n, .inl (ar f')))
  rw [← ar_congr g.2.1.1 n h]
  exact h0
end
section
set_option maxHeartbeats 4000000 in
set_option maxRecDepth 100000 in
theorem t_X6_in (l : Launch) (g : GG) (v : Int) (lo : Int) (hi : Int) (h1 : -2147483648 ≤ v ∧ v ≤ 2147483647) (h2 : -2147483648 ≤ lo ∧ lo ≤ 2147483647) (h3 : -2147483648 ≤ hi ∧ hi ≤ 2147483647) : Met l yX6_in (wm yX6_in cX6_in 3 (some .boolean)) (rmm 0 0 0) (pR g [] [.int (iI v), .int (iI lo), .int (iI hi)]) (qR (some (.int (iI (if lo ≤ v ∧ v ≤ hi then 1 else 0))))) 0 0 (fun _ => False) := by
  refine met_r (by decide) (Nat.le_of_ble_eq_true rfl) ?_
  intro p e s m args below meth c Q ls hx hb hml hown hts hl w hend
  have hl : lv_has ls 3 [(0, .int (iI v)), (1, .int (iI lo)), (2, .int (iI hi))] := hl
  refine lv_iload_n hx hb dX6_in_0 rfl (lv_at hl 0 rfl) ?_
  refine lv_iload_n hx hb dX6_in_1 rfl (lv_at hl 1 rfl) ?_
  refine ri_icmp_lt (tgt := 14) hx hb dX6_in_2 (by decide) (by omega) (by omega) (fun c1 => ?_) (fun c1 => ?_)
  · refine ri_iconst hx hb dX6_in_14 ?_
    exact hend.2 _ (congrArg (fun z => some (Value.int (iI z))) (show (if lo ≤ v ∧ v ≤ hi then 1 else 0) = 0 from by omega)) ⟨_, rfl, (nz (by omega))⟩ _ _ dX6_in_15
  · refine lv_iload_n hx hb dX6_in_5 rfl (lv_at hl 0 rfl) ?_
    refine lv_iload_n hx hb dX6_in_6 rfl (lv_at hl 2 rfl) ?_
    refine ri_icmp_gt (tgt := 14) hx hb dX6_in_7 (by decide) (by omega) (by omega) (fun c2 => ?_) (fun c2 => ?_)
    · refine ri_iconst hx hb dX6_in_14 ?_
      exact hend.2 _ (congrArg (fun z => some (Value.int (iI z))) (show (if lo ≤ v ∧ v ≤ hi then 1 else 0) = 0 from by omega)) ⟨_, rfl, (nz (by omega))⟩ _ _ dX6_in_15
    · refine ri_iconst hx hb dX6_in_10 ?_
      refine lv_goto (tgt := 15) hx hb dX6_in_11 (by decide) ?_
      exact hend.2 _ (congrArg (fun z => some (Value.int (iI z))) (show (if lo ≤ v ∧ v ≤ hi then 1 else 0) = 1 from by omega)) ⟨_, rfl, (nz (by omega))⟩ _ _ dX6_in_15

set_option maxHeartbeats 4000000 in
set_option maxRecDepth 100000 in
theorem t_X6_isPage (l : Launch) (g : GG) (v : Int) (h1 : -2147483648 ≤ v ∧ v ≤ 2147483647) : Met l yX6_isPage (wm yX6_isPage cX6_isPage 1 (some .boolean)) (rmm 1 0 0) (pR g [] [.int (iI v)]) (qR (some (.int (iI (if 0 ≤ v ∧ v ≤ 23 then 1 else 0))))) 0 0 (fun _ => False) := by
  refine met_r (by decide) (Nat.le_of_ble_eq_true rfl) ?_
  intro p e s m args below meth c Q ls hx hb hml hown hts hl w hend
  have hl : lv_has ls 1 [(0, .int (iI v))] := hl
  refine lv_iload_n hx hb dX6_isPage_0 rfl (lv_at hl 0 rfl) ?_
  refine ri_iconst hx hb dX6_isPage_1 ?_
  refine ri_bipush hx hb dX6_isPage_2 (by decide) ?_
  refine call_rS (As := [.int (iI v), .int (iI 0), .int (iI 23)]) (rest := []) hx hb (hml.trans hl.1.symm) hown hts w lk_RX6_34 (t_X6_in l g v 0 23 (by omega) (by omega) (by omega)) [] rfl rfl rfl rfl (Nat.le_of_ble_eq_true rfl) ⟨Nat.le_of_ble_eq_true rfl, Nat.le_of_ble_eq_true rfl⟩ ⟨Nat.le_of_ble_eq_true rfl, Nat.le_of_ble_eq_true rfl⟩ dX6_isPage_4 ?_
  exact hend.2 _ rfl ⟨_, rfl, (nz (by omega))⟩ _ _ dX6_isPage_7

set_option maxHeartbeats 4000000 in
set_option maxRecDepth 100000 in
theorem t_X6_isBlock (l : Launch) (g : GG) (v : Int) (h1 : -2147483648 ≤ v ∧ v ≤ 2147483647) : Met l yX6_isBlock (wm yX6_isBlock cX6_isBlock 1 (some .boolean)) (rmm 1 0 0) (pR g [] [.int (iI v)]) (qR (some (.int (iI (if 0 ≤ v ∧ v ≤ 5 then 1 else 0))))) 0 0 (fun _ => False) := by
  refine met_r (by decide) (Nat.le_of_ble_eq_true rfl) ?_
  intro p e s m args below meth c Q ls hx hb hml hown hts hl w hend
  have hl : lv_has ls 1 [(0, .int (iI v))] := hl
  refine lv_iload_n hx hb dX6_isBlock_0 rfl (lv_at hl 0 rfl) ?_
  refine ri_iconst hx hb dX6_isBlock_1 ?_
  refine ri_iconst hx hb dX6_isBlock_2 ?_
  refine call_rS (As := [.int (iI v), .int (iI 0), .int (iI 5)]) (rest := []) hx hb (hml.trans hl.1.symm) hown hts w lk_RX6_34 (t_X6_in l g v 0 5 (by omega) (by omega) (by omega)) [] rfl rfl rfl rfl (Nat.le_of_ble_eq_true rfl) ⟨Nat.le_of_ble_eq_true rfl, Nat.le_of_ble_eq_true rfl⟩ ⟨Nat.le_of_ble_eq_true rfl, Nat.le_of_ble_eq_true rfl⟩ dX6_isBlock_3 ?_
  exact hend.2 _ rfl ⟨_, rfl, (nz (by omega))⟩ _ _ dX6_isBlock_6

set_option maxHeartbeats 4000000 in
set_option maxRecDepth 100000 in
theorem t_X6_holds (l : Launch) (g : GG) (s0 : Nat) (F : Int → Int) (k : Int) (i : Int) (hk0 : 0 ≤ k ∧ k < 48) (hi : i = 3 * k + 65) : Met l yX6_holds (wm yX6_holds cX6_holds 2 (some .int)) (rmm 0 0 0) (pR g [(s0, eI g 233 F)] [.ref s0, .int (iI k)]) (qR (some (.int (iI (F i))))) 0 0 (fun _ => False) := by
  refine met_r (by decide) (Nat.le_of_ble_eq_true rfl) ?_
  intro p e s m args below meth c Q ls hx hb hml hown hts hl w hend
  have hl : lv_has ls 2 [(0, .ref s0), (1, .int (iI k))] := hl
  refine lv_aload_n hx hb dX6_holds_0 rfl (lv_at hl 0 rfl) ?_
  refine ri_bipush hx hb dX6_holds_1 (by decide) ?_
  refine ri_iconst hx hb dX6_holds_3 ?_
  refine lv_iload_n hx hb dX6_holds_4 rfl (lv_at hl 1 rfl) ?_
  refine ri_imul (z := 3 * k) hx hb dX6_holds_5 rfl ?_
  refine ri_iadd (z := 3 * k + 65) hx hb dX6_holds_6 (by omega) ?_
  refine ri_iald (v := F i) hx hb w 0 rfl (by omega) (congrArg F hi.symm) dX6_holds_7 (by decide) ?_
  exact hend.2 _ rfl ⟨_, rfl, rfl⟩ _ _ dX6_holds_8

set_option maxHeartbeats 4000000 in
set_option maxRecDepth 100000 in
theorem t_X6_weak (l : Launch) (g : GG) (s0 : Nat) (F : Int → Int) (k : Int) (i : Int) (hk0 : 0 ≤ k ∧ k < 48) (hi : i = 3 * k + 66) : Met l yX6_weak (wm yX6_weak cX6_weak 2 (some .int)) (rmm 0 0 0) (pR g [(s0, eI g 233 F)] [.ref s0, .int (iI k)]) (qR (some (.int (iI (F i))))) 0 0 (fun _ => False) := by
  refine met_r (by decide) (Nat.le_of_ble_eq_true rfl) ?_
  intro p e s m args below meth c Q ls hx hb hml hown hts hl w hend
  have hl : lv_has ls 2 [(0, .ref s0), (1, .int (iI k))] := hl
  refine lv_aload_n hx hb dX6_weak_0 rfl (lv_at hl 0 rfl) ?_
  refine ri_bipush hx hb dX6_weak_1 (by decide) ?_
  refine ri_iconst hx hb dX6_weak_3 ?_
  refine lv_iload_n hx hb dX6_weak_4 rfl (lv_at hl 1 rfl) ?_
  refine ri_imul (z := 3 * k) hx hb dX6_weak_5 rfl ?_
  refine ri_iadd (z := 3 * k + 65) hx hb dX6_weak_6 (by omega) ?_
  refine ri_iconst hx hb dX6_weak_7 ?_
  refine ri_iadd (z := 3 * k + 66) hx hb dX6_weak_8 (by omega) ?_
  refine ri_iald (v := F i) hx hb w 0 rfl (by omega) (congrArg F hi.symm) dX6_weak_9 (by decide) ?_
  exact hend.2 _ rfl ⟨_, rfl, rfl⟩ _ _ dX6_weak_10

set_option maxHeartbeats 4000000 in
set_option maxRecDepth 100000 in
theorem t_X6_kind (l : Launch) (g : GG) (s0 : Nat) (F : Int → Int) (b : Int) (i : Int) (hb0 : 0 ≤ b ∧ b < 6) (hi : i = 4 * b + 41) : Met l yX6_kind (wm yX6_kind cX6_kind 2 (some .int)) (rmm 0 0 0) (pR g [(s0, eI g 233 F)] [.ref s0, .int (iI b)]) (qR (some (.int (iI (F i))))) 0 0 (fun _ => False) := by
  refine met_r (by decide) (Nat.le_of_ble_eq_true rfl) ?_
  intro p e s m args below meth c Q ls hx hb hml hown hts hl w hend
  have hl : lv_has ls 2 [(0, .ref s0), (1, .int (iI b))] := hl
  refine lv_aload_n hx hb dX6_kind_0 rfl (lv_at hl 0 rfl) ?_
  refine ri_bipush hx hb dX6_kind_1 (by decide) ?_
  refine ri_iconst hx hb dX6_kind_3 ?_
  refine lv_iload_n hx hb dX6_kind_4 rfl (lv_at hl 1 rfl) ?_
  refine ri_imul (z := 4 * b) hx hb dX6_kind_5 rfl ?_
  refine ri_iadd (z := 4 * b + 41) hx hb dX6_kind_6 (by omega) ?_
  refine ri_iald (v := F i) hx hb w 0 rfl (by omega) (congrArg F hi.symm) dX6_kind_7 (by decide) ?_
  exact hend.2 _ rfl ⟨_, rfl, rfl⟩ _ _ dX6_kind_8

set_option maxHeartbeats 4000000 in
set_option maxRecDepth 100000 in
theorem t_X6_bears (l : Launch) (g : GG) (s0 : Nat) (N : Int) (F : Int → Int) (b : Int) (hW : WF N F) (hb0 : 0 ≤ b ∧ b < 6) : Met l yX6_bears (wm yX6_bears cX6_bears 4 (some .int)) (rmm 1 0 0) (pR g [(s0, eI g 233 F)] [.ref s0, .int (iI b)]) (qR (some (.int (iI (r_bears F b))))) 0 0 (fun _ => False) := by
  refine met_r (by decide) (Nat.le_of_ble_eq_true rfl) ?_
  intro p e s m args below meth c Q ls hx hb hml hown hts hl w hend
  have hl : lv_has ls 4 [(0, .ref s0), (1, .int (iI b))] := hl
  refine lv_aload_n hx hb dX6_bears_0 rfl (lv_at hl 0 rfl) ?_
  refine ri_bipush hx hb dX6_bears_1 (by decide) ?_
  refine ri_iconst hx hb dX6_bears_3 ?_
  refine lv_iload_n hx hb dX6_bears_4 rfl (lv_at hl 1 rfl) ?_
  refine ri_imul (z := 4 * b) hx hb dX6_bears_5 rfl ?_
  refine ri_iadd (z := 4 * b + 41) hx hb dX6_bears_6 (by omega) ?_
  refine ri_iconst hx hb dX6_bears_7 ?_
  refine ri_iadd (z := 4 * b + 42) hx hb dX6_bears_8 (by omega) ?_
  refine ri_iald (v := F (4 * b + 42)) hx hb w 0 rfl (by omega) (rfl) dX6_bears_9 (by decide) ?_
  have r1 := hW.bd (4 * b + 42)
  refine lv_istore_n (lv' := [(2, .int (iI (F (4 * b + 42)))), (0, .ref s0), (1, .int (iI b))]) hx hb dX6_bears_10 rfl hl (by decide) rfl (fun ls hl => ?_)
  refine lv_aload_n hx hb dX6_bears_11 rfl (lv_at hl 1 rfl) ?_
  refine lv_iload_n hx hb dX6_bears_12 rfl (lv_at hl 2 rfl) ?_
  refine call_rS (As := [.ref s0, .int (iI b)]) (rest := []) hx hb (hml.trans hl.1.symm) hown hts w lk_RX6_57 (t_X6_kind l g s0 F b (4 * b + 41) (by omega) (by omega)) [0] rfl rfl rfl rfl (Nat.le_of_ble_eq_true rfl) ⟨Nat.le_of_ble_eq_true rfl, Nat.le_of_ble_eq_true rfl⟩ ⟨Nat.le_of_ble_eq_true rfl, Nat.le_of_ble_eq_true rfl⟩ dX6_bears_13 ?_
  have r2 := hW.bd (4 * b + 41)
  refine ri_if_ne (tgt := 29) hx hb dX6_bears_16 (by decide) (by omega) (fun c3 => ?_) (fun c3 => ?_)
  · refine lv_aload_n hx hb dX6_bears_29 rfl (lv_at hl 1 rfl) ?_
    refine lv_iload_n hx hb dX6_bears_30 rfl (lv_at hl 2 rfl) ?_
    refine call_rS (As := [.ref s0, .int (iI b)]) (rest := []) hx hb (hml.trans hl.1.symm) hown hts w lk_RX6_57 (t_X6_kind l g s0 F b (4 * b + 41) (by omega) (by omega)) [0] rfl rfl rfl rfl (Nat.le_of_ble_eq_true rfl) ⟨Nat.le_of_ble_eq_true rfl, Nat.le_of_ble_eq_true rfl⟩ ⟨Nat.le_of_ble_eq_true rfl, Nat.le_of_ble_eq_true rfl⟩ dX6_bears_31 ?_
    refine ri_iconst hx hb dX6_bears_34 ?_
    refine ri_icmp_ne (tgt := 48) hx hb dX6_bears_35 (by decide) (by omega) (by omega) (fun c4 => ?_) (fun c4 => ?_)
    · refine ri_bipush hx hb dX6_bears_48 (by decide) ?_
      refine ri_bipush hx hb dX6_bears_50 (by decide) ?_
      refine lv_iload_n hx hb dX6_bears_52 rfl (lv_at hl 0 rfl) ?_
      refine ri_imul (z := 10 * F (4 * b + 42)) hx hb dX6_bears_53 (by omega) ?_
      refine ri_isub (z := 100 - 10 * F (4 * b + 42)) hx hb dX6_bears_54 rfl ?_
      refine lv_istore_n (lv' := [(3, .int (iI (100 - 10 * F (4 * b + 42)))), (2, .int (iI (F (4 * b + 42)))), (0, .ref s0), (1, .int (iI b))]) hx hb dX6_bears_55 rfl hl (by decide) rfl (fun ls hl => ?_)
      refine lv_iload_n hx hb dX6_bears_56 rfl (lv_at hl 0 rfl) ?_
      refine ri_bipush hx hb dX6_bears_57 (by decide) ?_
      refine ri_icmp_ge (tgt := 67) hx hb dX6_bears_59 (by decide) (by omega) (by omega) (fun c5 => ?_) (fun c5 => ?_)
      · refine lv_iload_n hx hb dX6_bears_67 rfl (lv_at hl 0 rfl) ?_
        exact hend.2 _ (congrArg (fun z => some (Value.int (iI z))) (show r_bears F b = 100 - 10 * F (4 * b + 42) from by unfold r_bears; unfold r_cut; omega)) ⟨_, rfl, rfl⟩ _ _ dX6_bears_68
      · refine ri_bipush hx hb dX6_bears_62 (by decide) ?_
        refine lv_goto (tgt := 68) hx hb dX6_bears_64 (by decide) ?_
        exact hend.2 _ (congrArg (fun z => some (Value.int (iI z))) (show r_bears F b = 20 from by unfold r_bears; unfold r_cut; omega)) ⟨_, rfl, rfl⟩ _ _ dX6_bears_68
    · refine ri_sipush hx hb dX6_bears_38 (by decide) ?_
      refine ri_iconst hx hb dX6_bears_41 ?_
      refine lv_iload_n hx hb dX6_bears_42 rfl (lv_at hl 0 rfl) ?_
      refine ri_imul (z := 5 * F (4 * b + 42)) hx hb dX6_bears_43 (by omega) ?_
      refine ri_isub (z := 200 - 5 * F (4 * b + 42)) hx hb dX6_bears_44 rfl ?_
      refine lv_goto (tgt := 55) hx hb dX6_bears_45 (by decide) ?_
      refine lv_istore_n (lv' := [(3, .int (iI (200 - 5 * F (4 * b + 42)))), (2, .int (iI (F (4 * b + 42)))), (0, .ref s0), (1, .int (iI b))]) hx hb dX6_bears_55 rfl hl (by decide) rfl (fun ls hl => ?_)
      refine lv_iload_n hx hb dX6_bears_56 rfl (lv_at hl 0 rfl) ?_
      refine ri_bipush hx hb dX6_bears_57 (by decide) ?_
      refine ri_icmp_ge (tgt := 67) hx hb dX6_bears_59 (by decide) (by omega) (by omega) (fun c6 => ?_) (fun c6 => ?_)
      · refine lv_iload_n hx hb dX6_bears_67 rfl (lv_at hl 0 rfl) ?_
        exact hend.2 _ (congrArg (fun z => some (Value.int (iI z))) (show r_bears F b = 200 - 5 * F (4 * b + 42) from by unfold r_bears; unfold r_cut; omega)) ⟨_, rfl, rfl⟩ _ _ dX6_bears_68
      · refine ri_bipush hx hb dX6_bears_62 (by decide) ?_
        refine lv_goto (tgt := 68) hx hb dX6_bears_64 (by decide) ?_
        exact hend.2 _ (congrArg (fun z => some (Value.int (iI z))) (show r_bears F b = 20 from by unfold r_bears; unfold r_cut; omega)) ⟨_, rfl, rfl⟩ _ _ dX6_bears_68
  · refine ri_sipush hx hb dX6_bears_19 (by decide) ?_
    refine ri_iconst hx hb dX6_bears_22 ?_
    refine lv_iload_n hx hb dX6_bears_23 rfl (lv_at hl 0 rfl) ?_
    refine ri_imul (z := 4 * F (4 * b + 42)) hx hb dX6_bears_24 (by omega) ?_
    refine ri_isub (z := 400 - 4 * F (4 * b + 42)) hx hb dX6_bears_25 rfl ?_
    refine lv_goto (tgt := 55) hx hb dX6_bears_26 (by decide) ?_
    refine lv_istore_n (lv' := [(3, .int (iI (400 - 4 * F (4 * b + 42)))), (2, .int (iI (F (4 * b + 42)))), (0, .ref s0), (1, .int (iI b))]) hx hb dX6_bears_55 rfl hl (by decide) rfl (fun ls hl => ?_)
    refine lv_iload_n hx hb dX6_bears_56 rfl (lv_at hl 0 rfl) ?_
    refine ri_bipush hx hb dX6_bears_57 (by decide) ?_
    refine ri_icmp_ge (tgt := 67) hx hb dX6_bears_59 (by decide) (by omega) (by omega) (fun c7 => ?_) (fun c7 => ?_)
    · refine lv_iload_n hx hb dX6_bears_67 rfl (lv_at hl 0 rfl) ?_
      exact hend.2 _ (congrArg (fun z => some (Value.int (iI z))) (show r_bears F b = 400 - 4 * F (4 * b + 42) from by unfold r_bears; unfold r_cut; omega)) ⟨_, rfl, rfl⟩ _ _ dX6_bears_68
    · refine ri_bipush hx hb dX6_bears_62 (by decide) ?_
      refine lv_goto (tgt := 68) hx hb dX6_bears_64 (by decide) ?_
      exact hend.2 _ (congrArg (fun z => some (Value.int (iI z))) (show r_bears F b = 20 from by unfold r_bears; unfold r_cut; omega)) ⟨_, rfl, rfl⟩ _ _ dX6_bears_68

set_option maxHeartbeats 4000000 in
set_option maxRecDepth 100000 in
theorem t_X6_many (l : Launch) (g : GG) (s0 : Nat) (F : Int → Int) (b : Int) (t : Int) (hB : Bd F) (hb0 : 0 ≤ b ∧ b < 6) (h1 : -2 ≤ t ∧ t ≤ 0) : Met l yX6_many (wm yX6_many cX6_many 5 (some .int)) (rmm 1 0 0) (pR g [(s0, eI g 233 F)] [.ref s0, .int (iI b), .int (iI t)]) (qR (some (.int (iI (r_cnt F b t))))) 0 0 (fun _ => False) := by
  refine met_r (by decide) (Nat.le_of_ble_eq_true rfl) ?_
  intro p e s m args below meth c Q ls hx hb hml hown hts hl w hend
  have hl : lv_has ls 5 [(0, .ref s0), (1, .int (iI b)), (2, .int (iI t))] := hl
  refine ri_iconst hx hb dX6_many_0 ?_
  refine lv_istore_n (lv' := [(3, .int (iI 0)), (0, .ref s0), (1, .int (iI b)), (2, .int (iI t))]) hx hb dX6_many_1 rfl hl (by decide) rfl (fun ls hl => ?_)
  refine ri_bipush hx hb dX6_many_2 (by decide) ?_
  refine lv_iload_n hx hb dX6_many_4 rfl (lv_at hl 2 rfl) ?_
  refine ri_imul (z := 8 * b) hx hb dX6_many_5 rfl ?_
  refine lv_istore (lv' := [(4, .int (iI (8 * b))), (3, .int (iI 0)), (0, .ref s0), (1, .int (iI b)), (2, .int (iI t))]) hx hb dX6_many_6 hl (by decide) rfl (fun ls hl => ?_)
  have L8 : ∀ (n : Nat) (xn xk : Int), (xk + n = 8 * b + 8) → (fo n xk xn (s_cnt F t) = r_cnt F b t) → (8 * b ≤ xk) → ∀ (ls : Array Slot), lv_has ls 5 [(0, .ref s0), (1, .int (iI b)), (2, .int (iI t)), (3, .int (iI xn)), (4, .int (iI xk))] → (∀ (ls : Array Slot), lv_has ls 5 [(3, .int (iI (r_cnt F b t)))] → W p l e (rmm 1 0 0) s m args below meth c s.heap [] 0 0 Q (F0 m 65 ls [])) → W p l e (rmm 1 0 0) s m args below meth c s.heap [] 0 0 Q (F0 m 8 ls []) := by
    intro n
    induction n with
    | zero =>
      intro xn xk hn hX hlo ls hl kk8
      refine lv_iload hx hb dX6_many_8 (lv_at hl 4 rfl) ?_
      refine ri_bipush hx hb dX6_many_10 (by decide) ?_
      refine lv_iload_n hx hb dX6_many_12 rfl (lv_at hl 1 rfl) ?_
      refine ri_imul (z := 8 * b) hx hb dX6_many_13 rfl ?_
      refine ri_bipush hx hb dX6_many_14 (by decide) ?_
      refine ri_iadd (z := 8 * b + 8) hx hb dX6_many_16 rfl ?_
      refine ri_icmp_ge (tgt := 65) hx hb dX6_many_17 (by decide) (by omega) (by omega) (fun c1 => ?_) (fun c1 => ?_)
      · have e0 : xn = r_cnt F b t := hX
        rw [e0] at hl
        exact kk8  ls  (lv_sub hl [3] rfl)
      · exact absurd c1 (by omega)
    | succ n ih8 =>
      intro xn xk hn hX hlo ls hl kk8
      refine lv_iload hx hb dX6_many_8 (lv_at hl 4 rfl) ?_
      refine ri_bipush hx hb dX6_many_10 (by decide) ?_
      refine lv_iload_n hx hb dX6_many_12 rfl (lv_at hl 1 rfl) ?_
      refine ri_imul (z := 8 * b) hx hb dX6_many_13 rfl ?_
      refine ri_bipush hx hb dX6_many_14 (by decide) ?_
      refine ri_iadd (z := 8 * b + 8) hx hb dX6_many_16 rfl ?_
      refine ri_icmp_ge (tgt := 65) hx hb dX6_many_17 (by decide) (by omega) (by omega) (fun c2 => ?_) (fun c2 => ?_)
      · exact absurd c2 (by omega)
      refine lv_iload_n hx hb dX6_many_20 rfl (lv_at hl 3 rfl) ?_
      refine lv_iload_n hx hb dX6_many_21 rfl (lv_at hl 2 rfl) ?_
      refine ri_if_ne (tgt := 42) hx hb dX6_many_22 (by decide) (by omega) (fun c3 => ?_) (fun c3 => ?_)
      · refine lv_aload_n hx hb dX6_many_42 rfl (lv_at hl 0 rfl) ?_
        refine lv_iload hx hb dX6_many_43 (lv_at hl 4 rfl) ?_
        refine call_rS (As := [.ref s0, .int (iI xk)]) (rest := [.int (iI xn)]) hx hb (hml.trans hl.1.symm) hown hts w lk_RX6_53 (t_X6_holds l g s0 F xk (3 * xk + 65) (by omega) (by omega)) [0] rfl rfl rfl rfl (Nat.le_of_ble_eq_true rfl) ⟨Nat.le_of_ble_eq_true rfl, Nat.le_of_ble_eq_true rfl⟩ ⟨Nat.le_of_ble_eq_true rfl, Nat.le_of_ble_eq_true rfl⟩ dX6_many_45 ?_
        have r4 := hB.bd (3 * xk + 65)
        refine lv_iload_n hx hb dX6_many_48 rfl (lv_at hl 2 rfl) ?_
        refine ri_icmp_ne (tgt := 56) hx hb dX6_many_49 (by decide) (by omega) (by omega) (fun c5 => ?_) (fun c5 => ?_)
        · refine ri_iconst hx hb dX6_many_56 ?_
          refine ri_iadd (z := xn) hx hb dX6_many_57 (by omega) ?_
          refine lv_istore_n (lv' := [(3, .int (iI xn)), (0, .ref s0), (1, .int (iI b)), (2, .int (iI t)), (4, .int (iI xk))]) hx hb dX6_many_58 rfl hl (by decide) rfl (fun ls hl => ?_)
          refine ri_iinc (k := 4) (z := xk + 1) (lv' := [(4, .int (iI (xk + 1))), (3, .int (iI xn)), (0, .ref s0), (1, .int (iI b)), (2, .int (iI t))]) hx hb dX6_many_59 hl rfl (by omega) (by decide) rfl (fun ls hl => ?_)
          refine lv_goto (tgt := 8) hx hb dX6_many_62 (by decide) ?_
          exact ih8 xn (xk + 1)  (by omega) (fo_s hX (by unfold s_cnt; first | omega | omega)) (by omega) ls (lv_sub hl [2, 3, 4, 1, 0] rfl) kk8
        · refine ri_iconst hx hb dX6_many_52 ?_
          refine lv_goto (tgt := 57) hx hb dX6_many_53 (by decide) ?_
          refine ri_iadd (z := xn + 1) hx hb dX6_many_57 rfl ?_
          refine lv_istore_n (lv' := [(3, .int (iI (xn + 1))), (0, .ref s0), (1, .int (iI b)), (2, .int (iI t)), (4, .int (iI xk))]) hx hb dX6_many_58 rfl hl (by decide) rfl (fun ls hl => ?_)
          refine ri_iinc (k := 4) (z := xk + 1) (lv' := [(4, .int (iI (xk + 1))), (3, .int (iI (xn + 1))), (0, .ref s0), (1, .int (iI b)), (2, .int (iI t))]) hx hb dX6_many_59 hl rfl (by omega) (by decide) rfl (fun ls hl => ?_)
          refine lv_goto (tgt := 8) hx hb dX6_many_62 (by decide) ?_
          exact ih8 (xn + 1) (xk + 1)  (by omega) (fo_s hX (by unfold s_cnt; first | omega | omega)) (by omega) ls (lv_sub hl [2, 3, 4, 1, 0] rfl) kk8
      · refine lv_aload_n hx hb dX6_many_25 rfl (lv_at hl 0 rfl) ?_
        refine lv_iload hx hb dX6_many_26 (lv_at hl 4 rfl) ?_
        refine call_rS (As := [.ref s0, .int (iI xk)]) (rest := [.int (iI xn)]) hx hb (hml.trans hl.1.symm) hown hts w lk_RX6_53 (t_X6_holds l g s0 F xk (3 * xk + 65) (by omega) (by omega)) [0] rfl rfl rfl rfl (Nat.le_of_ble_eq_true rfl) ⟨Nat.le_of_ble_eq_true rfl, Nat.le_of_ble_eq_true rfl⟩ ⟨Nat.le_of_ble_eq_true rfl, Nat.le_of_ble_eq_true rfl⟩ dX6_many_28 ?_
        have r6 := hB.bd (3 * xk + 65)
        refine ri_if_lt (tgt := 38) hx hb dX6_many_31 (by decide) (by omega) (fun c7 => ?_) (fun c7 => ?_)
        · refine ri_iconst hx hb dX6_many_38 ?_
          refine lv_goto (tgt := 57) hx hb dX6_many_39 (by decide) ?_
          refine ri_iadd (z := xn) hx hb dX6_many_57 (by omega) ?_
          refine lv_istore_n (lv' := [(3, .int (iI xn)), (0, .ref s0), (1, .int (iI b)), (2, .int (iI t)), (4, .int (iI xk))]) hx hb dX6_many_58 rfl hl (by decide) rfl (fun ls hl => ?_)
          refine ri_iinc (k := 4) (z := xk + 1) (lv' := [(4, .int (iI (xk + 1))), (3, .int (iI xn)), (0, .ref s0), (1, .int (iI b)), (2, .int (iI t))]) hx hb dX6_many_59 hl rfl (by omega) (by decide) rfl (fun ls hl => ?_)
          refine lv_goto (tgt := 8) hx hb dX6_many_62 (by decide) ?_
          exact ih8 xn (xk + 1)  (by omega) (fo_s hX (by unfold s_cnt; first | omega | omega)) (by omega) ls (lv_sub hl [2, 3, 4, 1, 0] rfl) kk8
        · refine ri_iconst hx hb dX6_many_34 ?_
          refine lv_goto (tgt := 57) hx hb dX6_many_35 (by decide) ?_
          refine ri_iadd (z := xn + 1) hx hb dX6_many_57 rfl ?_
          refine lv_istore_n (lv' := [(3, .int (iI (xn + 1))), (0, .ref s0), (1, .int (iI b)), (2, .int (iI t)), (4, .int (iI xk))]) hx hb dX6_many_58 rfl hl (by decide) rfl (fun ls hl => ?_)
          refine ri_iinc (k := 4) (z := xk + 1) (lv' := [(4, .int (iI (xk + 1))), (3, .int (iI (xn + 1))), (0, .ref s0), (1, .int (iI b)), (2, .int (iI t))]) hx hb dX6_many_59 hl rfl (by omega) (by decide) rfl (fun ls hl => ?_)
          refine lv_goto (tgt := 8) hx hb dX6_many_62 (by decide) ?_
          exact ih8 (xn + 1) (xk + 1)  (by omega) (fo_s hX (by unfold s_cnt; first | omega | omega)) (by omega) ls (lv_sub hl [2, 3, 4, 1, 0] rfl) kk8
  refine L8 8 0 (8 * b)  (by omega) (rfl) (by omega) ls (lv_sub hl [2, 3, 4, 1, 0] rfl) (fun ls hl => ?_)
  refine lv_iload_n hx hb dX6_many_65 rfl (lv_at hl 0 rfl) ?_
  have r8 := cnt_rg F b t
  exact hend.2 _ rfl ⟨_, rfl, rfl⟩ _ _ dX6_many_66

set_option maxHeartbeats 4000000 in
set_option maxRecDepth 100000 in
theorem t_X6_isFree (l : Launch) (g : GG) (s0 : Nat) (F : Int → Int) (b : Int) (hB : Bd F) (hb0 : 0 ≤ b ∧ b < 6) : Met l yX6_isFree (wm yX6_isFree cX6_isFree 2 (some .boolean)) (rmm 2 0 0) (pR g [(s0, eI g 233 F)] [.ref s0, .int (iI b)]) (qR (some (.int (iI (if P_free F b then 1 else 0))))) 0 0 (fun _ => False) := by
  refine met_r (by decide) (Nat.le_of_ble_eq_true rfl) ?_
  intro p e s m args below meth c Q ls hx hb hml hown hts hl w hend
  have hl : lv_has ls 2 [(0, .ref s0), (1, .int (iI b))] := hl
  refine lv_aload_n hx hb dX6_isFree_0 rfl (lv_at hl 0 rfl) ?_
  refine ri_bipush hx hb dX6_isFree_1 (by decide) ?_
  refine ri_iald (v := F 6) hx hb w 0 rfl (by omega) (rfl) dX6_isFree_3 (by decide) ?_
  have r1 := hB.bd 6
  refine lv_iload_n hx hb dX6_isFree_4 rfl (lv_at hl 1 rfl) ?_
  refine ri_icmp_eq (tgt := 23) hx hb dX6_isFree_5 (by decide) (by omega) (by omega) (fun c2 => ?_) (fun c2 => ?_)
  · refine ri_iconst hx hb dX6_isFree_23 ?_
    exact hend.2 _ (congrArg (fun z => some (Value.int (iI z))) (show (if P_free F b then 1 else 0) = 0 from by omega)) ⟨_, rfl, (nz (by omega))⟩ _ _ dX6_isFree_24
  · refine lv_aload_n hx hb dX6_isFree_8 rfl (lv_at hl 0 rfl) ?_
    refine lv_iload_n hx hb dX6_isFree_9 rfl (lv_at hl 1 rfl) ?_
    refine ri_iconst hx hb dX6_isFree_10 ?_
    refine call_rS (As := [.ref s0, .int (iI b), .int (iI (-1))]) (rest := []) hx hb (hml.trans hl.1.symm) hown hts w lk_RX6_60 (t_X6_many l g s0 F b (-1) (hB) (by omega) (by omega)) [0] rfl rfl rfl rfl (Nat.le_of_ble_eq_true rfl) ⟨Nat.le_of_ble_eq_true rfl, Nat.le_of_ble_eq_true rfl⟩ ⟨Nat.le_of_ble_eq_true rfl, Nat.le_of_ble_eq_true rfl⟩ dX6_isFree_11 ?_
    have r3 := cnt_rg F b (-1)
    refine ri_bipush hx hb dX6_isFree_14 (by decide) ?_
    refine ri_icmp_ne (tgt := 23) hx hb dX6_isFree_16 (by decide) (by omega) (by omega) (fun c4 => ?_) (fun c4 => ?_)
    · refine ri_iconst hx hb dX6_isFree_23 ?_
      exact hend.2 _ (congrArg (fun z => some (Value.int (iI z))) (show (if P_free F b then 1 else 0) = 0 from by omega)) ⟨_, rfl, (nz (by omega))⟩ _ _ dX6_isFree_24
    · refine ri_iconst hx hb dX6_isFree_19 ?_
      refine lv_goto (tgt := 24) hx hb dX6_isFree_20 (by decide) ?_
      exact hend.2 _ (congrArg (fun z => some (Value.int (iI z))) (show (if P_free F b then 1 else 0) = 1 from by omega)) ⟨_, rfl, (nz (by omega))⟩ _ _ dX6_isFree_24

set_option maxHeartbeats 4000000 in
set_option maxRecDepth 100000 in
theorem t_X6_free (l : Launch) (g : GG) (s0 : Nat) (F : Int → Int) (hB : Bd F) : Met l yX6_free (wm yX6_free cX6_free 3 (some .int)) (rmm 3 0 0) (pR g [(s0, eI g 233 F)] [.ref s0]) (qR (some (.int (iI (r_frees F))))) 0 0 (fun _ => False) := by
  refine met_r (by decide) (Nat.le_of_ble_eq_true rfl) ?_
  intro p e s m args below meth c Q ls hx hb hml hown hts hl w hend
  have hl : lv_has ls 3 [(0, .ref s0)] := hl
  refine ri_iconst hx hb dX6_free_0 ?_
  refine lv_istore_n (lv' := [(1, .int (iI 0)), (0, .ref s0)]) hx hb dX6_free_1 rfl hl (by decide) rfl (fun ls hl => ?_)
  refine ri_iconst hx hb dX6_free_2 ?_
  refine lv_istore_n (lv' := [(2, .int (iI 0)), (1, .int (iI 0)), (0, .ref s0)]) hx hb dX6_free_3 rfl hl (by decide) rfl (fun ls hl => ?_)
  have L4 : ∀ (n : Nat) (xn xk : Int), (xk + n = 6) → (fo n xk xn (s_frees F) = r_frees F) → (0 ≤ xk) → ∀ (ls : Array Slot), lv_has ls 3 [(0, .ref s0), (1, .int (iI xn)), (2, .int (iI xk))] → (∀ (ls : Array Slot), lv_has ls 3 [(1, .int (iI (r_frees F)))] → W p l e (rmm 3 0 0) s m args below meth c s.heap [] 0 0 Q (F0 m 32 ls [])) → W p l e (rmm 3 0 0) s m args below meth c s.heap [] 0 0 Q (F0 m 4 ls []) := by
    intro n
    induction n with
    | zero =>
      intro xn xk hn hX hlo ls hl kk4
      refine lv_iload_n hx hb dX6_free_4 rfl (lv_at hl 2 rfl) ?_
      refine ri_bipush hx hb dX6_free_5 (by decide) ?_
      refine ri_icmp_ge (tgt := 32) hx hb dX6_free_7 (by decide) (by omega) (by omega) (fun c1 => ?_) (fun c1 => ?_)
      · have e0 : xn = r_frees F := hX
        rw [e0] at hl
        exact kk4  ls  (lv_sub hl [1] rfl)
      · exact absurd c1 (by omega)
    | succ n ih4 =>
      intro xn xk hn hX hlo ls hl kk4
      refine lv_iload_n hx hb dX6_free_4 rfl (lv_at hl 2 rfl) ?_
      refine ri_bipush hx hb dX6_free_5 (by decide) ?_
      refine ri_icmp_ge (tgt := 32) hx hb dX6_free_7 (by decide) (by omega) (by omega) (fun c2 => ?_) (fun c2 => ?_)
      · exact absurd c2 (by omega)
      refine lv_iload_n hx hb dX6_free_10 rfl (lv_at hl 1 rfl) ?_
      refine lv_aload_n hx hb dX6_free_11 rfl (lv_at hl 0 rfl) ?_
      refine lv_iload_n hx hb dX6_free_12 rfl (lv_at hl 2 rfl) ?_
      refine call_rS (As := [.ref s0, .int (iI xk)]) (rest := [.int (iI xn)]) hx hb (hml.trans hl.1.symm) hown hts w lk_RX6_64 (t_X6_isFree l g s0 F xk (hB) (by omega)) [0] rfl rfl rfl rfl (Nat.le_of_ble_eq_true rfl) ⟨Nat.le_of_ble_eq_true rfl, Nat.le_of_ble_eq_true rfl⟩ ⟨Nat.le_of_ble_eq_true rfl, Nat.le_of_ble_eq_true rfl⟩ dX6_free_13 ?_
      refine ri_ifb_eq (tgt := 23) hx hb dX6_free_16 (by decide) (fun c3 => ?_) (fun c3 => ?_)
      · refine ri_iconst hx hb dX6_free_23 ?_
        refine ri_iadd (z := xn) hx hb dX6_free_24 (by omega) ?_
        refine lv_istore_n (lv' := [(1, .int (iI xn)), (0, .ref s0), (2, .int (iI xk))]) hx hb dX6_free_25 rfl hl (by decide) rfl (fun ls hl => ?_)
        refine ri_iinc (k := 2) (z := xk + 1) (lv' := [(2, .int (iI (xk + 1))), (1, .int (iI xn)), (0, .ref s0)]) hx hb dX6_free_26 hl rfl (by omega) (by decide) rfl (fun ls hl => ?_)
        refine lv_goto (tgt := 4) hx hb dX6_free_29 (by decide) ?_
        exact ih4 xn (xk + 1)  (by omega) (fo_s hX (by unfold s_frees; first | omega | (simp only [if_neg c3]; try omega))) (by omega) ls (lv_sub hl [2, 1, 0] rfl) kk4
      · refine ri_iconst hx hb dX6_free_19 ?_
        refine lv_goto (tgt := 24) hx hb dX6_free_20 (by decide) ?_
        refine ri_iadd (z := xn + 1) hx hb dX6_free_24 rfl ?_
        refine lv_istore_n (lv' := [(1, .int (iI (xn + 1))), (0, .ref s0), (2, .int (iI xk))]) hx hb dX6_free_25 rfl hl (by decide) rfl (fun ls hl => ?_)
        refine ri_iinc (k := 2) (z := xk + 1) (lv' := [(2, .int (iI (xk + 1))), (1, .int (iI (xn + 1))), (0, .ref s0)]) hx hb dX6_free_26 hl rfl (by omega) (by decide) rfl (fun ls hl => ?_)
        refine lv_goto (tgt := 4) hx hb dX6_free_29 (by decide) ?_
        exact ih4 (xn + 1) (xk + 1)  (by omega) (fo_s hX (by unfold s_frees; first | omega | (simp only [if_pos c3]; try omega))) (by omega) ls (lv_sub hl [2, 1, 0] rfl) kk4
  refine L4 6 0 0  (by omega) (rfl) (by omega) ls (lv_sub hl [2, 1, 0] rfl) (fun ls hl => ?_)
  refine lv_iload_n hx hb dX6_free_32 rfl (lv_at hl 0 rfl) ?_
  have r4 := frees_rg F
  exact hend.2 _ rfl ⟨_, rfl, rfl⟩ _ _ dX6_free_33

set_option maxHeartbeats 4000000 in
set_option maxRecDepth 100000 in
theorem t_X6_weaker (l : Launch) (g : GG) (s0 : Nat) (F : Int → Int) (k : Int) (r : Int) (hB : Bd F) (hk0 : 0 ≤ k ∧ k < 48) (h1 : 0 ≤ r ∧ r < 48) : Met l yX6_weaker (wm yX6_weaker cX6_weaker 4 (some .int)) (rmm 1 0 0) (pR g [(s0, eI g 233 F)] [.ref s0, .int (iI k), .int (iI r)]) (qR (some (.int (iI (r_weaker F k r))))) 0 0 (fun _ => False) := by
  refine met_r (by decide) (Nat.le_of_ble_eq_true rfl) ?_
  intro p e s m args below meth c Q ls hx hb hml hown hts hl w hend
  have hl : lv_has ls 4 [(0, .ref s0), (1, .int (iI k)), (2, .int (iI r))] := hl
  refine lv_iload_n hx hb dX6_weaker_0 rfl (lv_at hl 1 rfl) ?_
  refine lv_iload_n hx hb dX6_weaker_1 rfl (lv_at hl 2 rfl) ?_
  refine ri_icmp_ge (tgt := 11) hx hb dX6_weaker_2 (by decide) (by omega) (by omega) (fun c1 => ?_) (fun c1 => ?_)
  · refine lv_iload_n hx hb dX6_weaker_11 rfl (lv_at hl 1 rfl) ?_
    refine lv_iload_n hx hb dX6_weaker_12 rfl (lv_at hl 2 rfl) ?_
    refine ri_isub (z := k - r) hx hb dX6_weaker_13 rfl ?_
    refine lv_istore_n (lv' := [(3, .int (iI (k - r))), (0, .ref s0), (1, .int (iI k)), (2, .int (iI r))]) hx hb dX6_weaker_14 rfl hl (by decide) rfl (fun ls hl => ?_)
    refine lv_iload_n hx hb dX6_weaker_15 rfl (lv_at hl 0 rfl) ?_
    refine ri_if_ne (tgt := 21) hx hb dX6_weaker_16 (by decide) (by omega) (fun c2 => ?_) (fun c2 => ?_)
    · refine lv_iload_n hx hb dX6_weaker_21 rfl (lv_at hl 0 rfl) ?_
      refine ri_iconst hx hb dX6_weaker_22 ?_
      refine ri_icmp_ne (tgt := 30) hx hb dX6_weaker_23 (by decide) (by omega) (by omega) (fun c3 => ?_) (fun c3 => ?_)
      · refine lv_iload_n hx hb dX6_weaker_30 rfl (lv_at hl 0 rfl) ?_
        refine ri_iconst hx hb dX6_weaker_31 ?_
        refine ri_icmp_ne (tgt := 39) hx hb dX6_weaker_32 (by decide) (by omega) (by omega) (fun c4 => ?_) (fun c4 => ?_)
        · refine ri_iconst hx hb dX6_weaker_39 ?_
          refine lv_aload_n hx hb dX6_weaker_40 rfl (lv_at hl 1 rfl) ?_
          refine lv_iload_n hx hb dX6_weaker_41 rfl (lv_at hl 2 rfl) ?_
          refine ri_bipush hx hb dX6_weaker_42 (by decide) ?_
          refine ri_idiv (z := (k / 8)) hx hb dX6_weaker_44 (by omega) (by omega) rfl ?_
          refine call_rS (As := [.ref s0, .int (iI (k / 8))]) (rest := [.int (iI 1)]) hx hb (hml.trans hl.1.symm) hown hts w lk_RX6_57 (t_X6_kind l g s0 F (k / 8) (4 * (k / 8) + 41) (by omega) (by omega)) [0] rfl rfl rfl rfl (Nat.le_of_ble_eq_true rfl) ⟨Nat.le_of_ble_eq_true rfl, Nat.le_of_ble_eq_true rfl⟩ ⟨Nat.le_of_ble_eq_true rfl, Nat.le_of_ble_eq_true rfl⟩ dX6_weaker_45 ?_
          have r5 := hB.bd (4 * (k / 8) + 41)
          refine ri_iconst hx hb dX6_weaker_48 ?_
          refine ri_icmp_ne (tgt := 56) hx hb dX6_weaker_49 (by decide) (by omega) (by omega) (fun c6 => ?_) (fun c6 => ?_)
          · refine ri_iconst hx hb dX6_weaker_56 ?_
            refine ri_imul (z := 1) hx hb dX6_weaker_57 (by omega) ?_
            exact hend.2 _ (congrArg (fun z => some (Value.int (iI z))) (show r_weaker F k r = 1 from by unfold r_weaker; unfold r_far; omega)) ⟨_, rfl, rfl⟩ _ _ dX6_weaker_58
          · refine ri_iconst hx hb dX6_weaker_52 ?_
            refine lv_goto (tgt := 57) hx hb dX6_weaker_53 (by decide) ?_
            refine ri_imul (z := 2) hx hb dX6_weaker_57 (by omega) ?_
            exact hend.2 _ (congrArg (fun z => some (Value.int (iI z))) (show r_weaker F k r = 2 from by unfold r_weaker; unfold r_far; omega)) ⟨_, rfl, rfl⟩ _ _ dX6_weaker_58
        · refine ri_iconst hx hb dX6_weaker_35 ?_
          refine lv_goto (tgt := 40) hx hb dX6_weaker_36 (by decide) ?_
          refine lv_aload_n hx hb dX6_weaker_40 rfl (lv_at hl 1 rfl) ?_
          refine lv_iload_n hx hb dX6_weaker_41 rfl (lv_at hl 2 rfl) ?_
          refine ri_bipush hx hb dX6_weaker_42 (by decide) ?_
          refine ri_idiv (z := (k / 8)) hx hb dX6_weaker_44 (by omega) (by omega) rfl ?_
          refine call_rS (As := [.ref s0, .int (iI (k / 8))]) (rest := [.int (iI 2)]) hx hb (hml.trans hl.1.symm) hown hts w lk_RX6_57 (t_X6_kind l g s0 F (k / 8) (4 * (k / 8) + 41) (by omega) (by omega)) [0] rfl rfl rfl rfl (Nat.le_of_ble_eq_true rfl) ⟨Nat.le_of_ble_eq_true rfl, Nat.le_of_ble_eq_true rfl⟩ ⟨Nat.le_of_ble_eq_true rfl, Nat.le_of_ble_eq_true rfl⟩ dX6_weaker_45 ?_
          have r7 := hB.bd (4 * (k / 8) + 41)
          refine ri_iconst hx hb dX6_weaker_48 ?_
          refine ri_icmp_ne (tgt := 56) hx hb dX6_weaker_49 (by decide) (by omega) (by omega) (fun c8 => ?_) (fun c8 => ?_)
          · refine ri_iconst hx hb dX6_weaker_56 ?_
            refine ri_imul (z := 2) hx hb dX6_weaker_57 (by omega) ?_
            exact hend.2 _ (congrArg (fun z => some (Value.int (iI z))) (show r_weaker F k r = 2 from by unfold r_weaker; unfold r_far; omega)) ⟨_, rfl, rfl⟩ _ _ dX6_weaker_58
          · refine ri_iconst hx hb dX6_weaker_52 ?_
            refine lv_goto (tgt := 57) hx hb dX6_weaker_53 (by decide) ?_
            refine ri_imul (z := 4) hx hb dX6_weaker_57 (by omega) ?_
            exact hend.2 _ (congrArg (fun z => some (Value.int (iI z))) (show r_weaker F k r = 4 from by unfold r_weaker; unfold r_far; omega)) ⟨_, rfl, rfl⟩ _ _ dX6_weaker_58
      · refine ri_iconst hx hb dX6_weaker_26 ?_
        refine lv_goto (tgt := 40) hx hb dX6_weaker_27 (by decide) ?_
        refine lv_aload_n hx hb dX6_weaker_40 rfl (lv_at hl 1 rfl) ?_
        refine lv_iload_n hx hb dX6_weaker_41 rfl (lv_at hl 2 rfl) ?_
        refine ri_bipush hx hb dX6_weaker_42 (by decide) ?_
        refine ri_idiv (z := (k / 8)) hx hb dX6_weaker_44 (by omega) (by omega) rfl ?_
        refine call_rS (As := [.ref s0, .int (iI (k / 8))]) (rest := [.int (iI 4)]) hx hb (hml.trans hl.1.symm) hown hts w lk_RX6_57 (t_X6_kind l g s0 F (k / 8) (4 * (k / 8) + 41) (by omega) (by omega)) [0] rfl rfl rfl rfl (Nat.le_of_ble_eq_true rfl) ⟨Nat.le_of_ble_eq_true rfl, Nat.le_of_ble_eq_true rfl⟩ ⟨Nat.le_of_ble_eq_true rfl, Nat.le_of_ble_eq_true rfl⟩ dX6_weaker_45 ?_
        have r9 := hB.bd (4 * (k / 8) + 41)
        refine ri_iconst hx hb dX6_weaker_48 ?_
        refine ri_icmp_ne (tgt := 56) hx hb dX6_weaker_49 (by decide) (by omega) (by omega) (fun c10 => ?_) (fun c10 => ?_)
        · refine ri_iconst hx hb dX6_weaker_56 ?_
          refine ri_imul (z := 4) hx hb dX6_weaker_57 (by omega) ?_
          exact hend.2 _ (congrArg (fun z => some (Value.int (iI z))) (show r_weaker F k r = 4 from by unfold r_weaker; unfold r_far; omega)) ⟨_, rfl, rfl⟩ _ _ dX6_weaker_58
        · refine ri_iconst hx hb dX6_weaker_52 ?_
          refine lv_goto (tgt := 57) hx hb dX6_weaker_53 (by decide) ?_
          refine ri_imul (z := 8) hx hb dX6_weaker_57 (by omega) ?_
          exact hend.2 _ (congrArg (fun z => some (Value.int (iI z))) (show r_weaker F k r = 8 from by unfold r_weaker; unfold r_far; omega)) ⟨_, rfl, rfl⟩ _ _ dX6_weaker_58
    · refine ri_iconst hx hb dX6_weaker_19 ?_
      exact hend.2 _ (congrArg (fun z => some (Value.int (iI z))) (show r_weaker F k r = 1 from by unfold r_weaker; unfold r_far; omega)) ⟨_, rfl, rfl⟩ _ _ dX6_weaker_20
  · refine lv_iload_n hx hb dX6_weaker_5 rfl (lv_at hl 2 rfl) ?_
    refine lv_iload_n hx hb dX6_weaker_6 rfl (lv_at hl 1 rfl) ?_
    refine ri_isub (z := r - k) hx hb dX6_weaker_7 rfl ?_
    refine lv_goto (tgt := 14) hx hb dX6_weaker_8 (by decide) ?_
    refine lv_istore_n (lv' := [(3, .int (iI (r - k))), (0, .ref s0), (1, .int (iI k)), (2, .int (iI r))]) hx hb dX6_weaker_14 rfl hl (by decide) rfl (fun ls hl => ?_)
    refine lv_iload_n hx hb dX6_weaker_15 rfl (lv_at hl 0 rfl) ?_
    refine ri_if_ne (tgt := 21) hx hb dX6_weaker_16 (by decide) (by omega) (fun c11 => ?_) (fun c11 => ?_)
    · refine lv_iload_n hx hb dX6_weaker_21 rfl (lv_at hl 0 rfl) ?_
      refine ri_iconst hx hb dX6_weaker_22 ?_
      refine ri_icmp_ne (tgt := 30) hx hb dX6_weaker_23 (by decide) (by omega) (by omega) (fun c12 => ?_) (fun c12 => ?_)
      · refine lv_iload_n hx hb dX6_weaker_30 rfl (lv_at hl 0 rfl) ?_
        refine ri_iconst hx hb dX6_weaker_31 ?_
        refine ri_icmp_ne (tgt := 39) hx hb dX6_weaker_32 (by decide) (by omega) (by omega) (fun c13 => ?_) (fun c13 => ?_)
        · refine ri_iconst hx hb dX6_weaker_39 ?_
          refine lv_aload_n hx hb dX6_weaker_40 rfl (lv_at hl 1 rfl) ?_
          refine lv_iload_n hx hb dX6_weaker_41 rfl (lv_at hl 2 rfl) ?_
          refine ri_bipush hx hb dX6_weaker_42 (by decide) ?_
          refine ri_idiv (z := (k / 8)) hx hb dX6_weaker_44 (by omega) (by omega) rfl ?_
          refine call_rS (As := [.ref s0, .int (iI (k / 8))]) (rest := [.int (iI 1)]) hx hb (hml.trans hl.1.symm) hown hts w lk_RX6_57 (t_X6_kind l g s0 F (k / 8) (4 * (k / 8) + 41) (by omega) (by omega)) [0] rfl rfl rfl rfl (Nat.le_of_ble_eq_true rfl) ⟨Nat.le_of_ble_eq_true rfl, Nat.le_of_ble_eq_true rfl⟩ ⟨Nat.le_of_ble_eq_true rfl, Nat.le_of_ble_eq_true rfl⟩ dX6_weaker_45 ?_
          have r14 := hB.bd (4 * (k / 8) + 41)
          refine ri_iconst hx hb dX6_weaker_48 ?_
          refine ri_icmp_ne (tgt := 56) hx hb dX6_weaker_49 (by decide) (by omega) (by omega) (fun c15 => ?_) (fun c15 => ?_)
          · refine ri_iconst hx hb dX6_weaker_56 ?_
            refine ri_imul (z := 1) hx hb dX6_weaker_57 (by omega) ?_
            exact hend.2 _ (congrArg (fun z => some (Value.int (iI z))) (show r_weaker F k r = 1 from by unfold r_weaker; unfold r_far; omega)) ⟨_, rfl, rfl⟩ _ _ dX6_weaker_58
          · refine ri_iconst hx hb dX6_weaker_52 ?_
            refine lv_goto (tgt := 57) hx hb dX6_weaker_53 (by decide) ?_
            refine ri_imul (z := 2) hx hb dX6_weaker_57 (by omega) ?_
            exact hend.2 _ (congrArg (fun z => some (Value.int (iI z))) (show r_weaker F k r = 2 from by unfold r_weaker; unfold r_far; omega)) ⟨_, rfl, rfl⟩ _ _ dX6_weaker_58
        · refine ri_iconst hx hb dX6_weaker_35 ?_
          refine lv_goto (tgt := 40) hx hb dX6_weaker_36 (by decide) ?_
          refine lv_aload_n hx hb dX6_weaker_40 rfl (lv_at hl 1 rfl) ?_
          refine lv_iload_n hx hb dX6_weaker_41 rfl (lv_at hl 2 rfl) ?_
          refine ri_bipush hx hb dX6_weaker_42 (by decide) ?_
          refine ri_idiv (z := (k / 8)) hx hb dX6_weaker_44 (by omega) (by omega) rfl ?_
          refine call_rS (As := [.ref s0, .int (iI (k / 8))]) (rest := [.int (iI 2)]) hx hb (hml.trans hl.1.symm) hown hts w lk_RX6_57 (t_X6_kind l g s0 F (k / 8) (4 * (k / 8) + 41) (by omega) (by omega)) [0] rfl rfl rfl rfl (Nat.le_of_ble_eq_true rfl) ⟨Nat.le_of_ble_eq_true rfl, Nat.le_of_ble_eq_true rfl⟩ ⟨Nat.le_of_ble_eq_true rfl, Nat.le_of_ble_eq_true rfl⟩ dX6_weaker_45 ?_
          have r16 := hB.bd (4 * (k / 8) + 41)
          refine ri_iconst hx hb dX6_weaker_48 ?_
          refine ri_icmp_ne (tgt := 56) hx hb dX6_weaker_49 (by decide) (by omega) (by omega) (fun c17 => ?_) (fun c17 => ?_)
          · refine ri_iconst hx hb dX6_weaker_56 ?_
            refine ri_imul (z := 2) hx hb dX6_weaker_57 (by omega) ?_
            exact hend.2 _ (congrArg (fun z => some (Value.int (iI z))) (show r_weaker F k r = 2 from by unfold r_weaker; unfold r_far; omega)) ⟨_, rfl, rfl⟩ _ _ dX6_weaker_58
          · refine ri_iconst hx hb dX6_weaker_52 ?_
            refine lv_goto (tgt := 57) hx hb dX6_weaker_53 (by decide) ?_
            refine ri_imul (z := 4) hx hb dX6_weaker_57 (by omega) ?_
            exact hend.2 _ (congrArg (fun z => some (Value.int (iI z))) (show r_weaker F k r = 4 from by unfold r_weaker; unfold r_far; omega)) ⟨_, rfl, rfl⟩ _ _ dX6_weaker_58
      · refine ri_iconst hx hb dX6_weaker_26 ?_
        refine lv_goto (tgt := 40) hx hb dX6_weaker_27 (by decide) ?_
        refine lv_aload_n hx hb dX6_weaker_40 rfl (lv_at hl 1 rfl) ?_
        refine lv_iload_n hx hb dX6_weaker_41 rfl (lv_at hl 2 rfl) ?_
        refine ri_bipush hx hb dX6_weaker_42 (by decide) ?_
        refine ri_idiv (z := (k / 8)) hx hb dX6_weaker_44 (by omega) (by omega) rfl ?_
        refine call_rS (As := [.ref s0, .int (iI (k / 8))]) (rest := [.int (iI 4)]) hx hb (hml.trans hl.1.symm) hown hts w lk_RX6_57 (t_X6_kind l g s0 F (k / 8) (4 * (k / 8) + 41) (by omega) (by omega)) [0] rfl rfl rfl rfl (Nat.le_of_ble_eq_true rfl) ⟨Nat.le_of_ble_eq_true rfl, Nat.le_of_ble_eq_true rfl⟩ ⟨Nat.le_of_ble_eq_true rfl, Nat.le_of_ble_eq_true rfl⟩ dX6_weaker_45 ?_
        have r18 := hB.bd (4 * (k / 8) + 41)
        refine ri_iconst hx hb dX6_weaker_48 ?_
        refine ri_icmp_ne (tgt := 56) hx hb dX6_weaker_49 (by decide) (by omega) (by omega) (fun c19 => ?_) (fun c19 => ?_)
        · refine ri_iconst hx hb dX6_weaker_56 ?_
          refine ri_imul (z := 4) hx hb dX6_weaker_57 (by omega) ?_
          exact hend.2 _ (congrArg (fun z => some (Value.int (iI z))) (show r_weaker F k r = 4 from by unfold r_weaker; unfold r_far; omega)) ⟨_, rfl, rfl⟩ _ _ dX6_weaker_58
        · refine ri_iconst hx hb dX6_weaker_52 ?_
          refine lv_goto (tgt := 57) hx hb dX6_weaker_53 (by decide) ?_
          refine ri_imul (z := 8) hx hb dX6_weaker_57 (by omega) ?_
          exact hend.2 _ (congrArg (fun z => some (Value.int (iI z))) (show r_weaker F k r = 8 from by unfold r_weaker; unfold r_far; omega)) ⟨_, rfl, rfl⟩ _ _ dX6_weaker_58
    · refine ri_iconst hx hb dX6_weaker_19 ?_
      exact hend.2 _ (congrArg (fun z => some (Value.int (iI z))) (show r_weaker F k r = 1 from by unfold r_weaker; unfold r_far; omega)) ⟨_, rfl, rfl⟩ _ _ dX6_weaker_20

set_option maxHeartbeats 4000000 in
set_option maxRecDepth 100000 in
theorem t_X6_placeOf (l : Launch) (g : GG) (s0 : Nat) (F : Int → Int) (v : Int) (hB : Bd F) (h1 : -2147483648 ≤ v ∧ v ≤ 2147483647) : Met l yX6_placeOf (wm yX6_placeOf cX6_placeOf 3 (some .int)) (rmm 1 0 0) (pR g [(s0, eI g 233 F)] [.ref s0, .int (iI v)]) (qR (some (.int (iI (r_placeOf F v))))) 0 0 (fun _ => False) := by
  refine met_r (by decide) (Nat.le_of_ble_eq_true rfl) ?_
  intro p e s m args below meth c Q ls hx hb hml hown hts hl w hend
  have hl : lv_has ls 3 [(0, .ref s0), (1, .int (iI v))] := hl
  refine ri_iconst hx hb dX6_placeOf_0 ?_
  refine lv_istore_n (lv' := [(2, .int (iI 0)), (0, .ref s0), (1, .int (iI v))]) hx hb dX6_placeOf_1 rfl hl (by decide) rfl (fun ls hl => ?_)
  have L2 : ∀ (n : Nat) (xk : Int), (xk + n = 48) → (fi n xk (p_hold F v) (-5) = r_placeOf F v) → (0 ≤ xk) → ∀ (ls : Array Slot), lv_has ls 3 [(0, .ref s0), (1, .int (iI v)), (2, .int (iI xk))] → (∀ (hZ : r_placeOf F v = -5) (ls : Array Slot), lv_has ls 3 [] → W p l e (rmm 1 0 0) s m args below meth c s.heap [] 0 0 Q (F0 m 25 ls [])) → W p l e (rmm 1 0 0) s m args below meth c s.heap [] 0 0 Q (F0 m 2 ls []) := by
    intro n
    induction n with
    | zero =>
      intro xk hn hV hlo ls hl kk2
      refine lv_iload_n hx hb dX6_placeOf_2 rfl (lv_at hl 2 rfl) ?_
      refine ri_bipush hx hb dX6_placeOf_3 (by decide) ?_
      refine ri_icmp_ge (tgt := 25) hx hb dX6_placeOf_5 (by decide) (by omega) (by omega) (fun c1 => ?_) (fun c1 => ?_)
      · exact kk2 hV.symm ls  (lv_sub hl [] rfl)
      · exact absurd c1 (by omega)
    | succ n ih2 =>
      intro xk hn hV hlo ls hl kk2
      refine lv_iload_n hx hb dX6_placeOf_2 rfl (lv_at hl 2 rfl) ?_
      refine ri_bipush hx hb dX6_placeOf_3 (by decide) ?_
      refine ri_icmp_ge (tgt := 25) hx hb dX6_placeOf_5 (by decide) (by omega) (by omega) (fun c2 => ?_) (fun c2 => ?_)
      · exact absurd c2 (by omega)
      refine lv_aload_n hx hb dX6_placeOf_8 rfl (lv_at hl 0 rfl) ?_
      refine lv_iload_n hx hb dX6_placeOf_9 rfl (lv_at hl 2 rfl) ?_
      refine call_rS (As := [.ref s0, .int (iI xk)]) (rest := []) hx hb (hml.trans hl.1.symm) hown hts w lk_RX6_53 (t_X6_holds l g s0 F xk (3 * xk + 65) (by omega) (by omega)) [0] rfl rfl rfl rfl (Nat.le_of_ble_eq_true rfl) ⟨Nat.le_of_ble_eq_true rfl, Nat.le_of_ble_eq_true rfl⟩ ⟨Nat.le_of_ble_eq_true rfl, Nat.le_of_ble_eq_true rfl⟩ dX6_placeOf_10 ?_
      have r3 := hB.bd (3 * xk + 65)
      refine lv_iload_n hx hb dX6_placeOf_13 rfl (lv_at hl 1 rfl) ?_
      refine ri_icmp_ne (tgt := 19) hx hb dX6_placeOf_14 (by decide) (by omega) (by omega) (fun c4 => ?_) (fun c4 => ?_)
      · refine ri_iinc (k := 2) (z := xk + 1) (lv' := [(2, .int (iI (xk + 1))), (0, .ref s0), (1, .int (iI v))]) hx hb dX6_placeOf_19 hl rfl (by omega) (by decide) rfl (fun ls hl => ?_)
        refine lv_goto (tgt := 2) hx hb dX6_placeOf_22 (by decide) ?_
        exact ih2 (xk + 1)  (by omega) (fi_f hV (by simp only [p_hold, decide_eq_true_eq]; first | omega | (intro hh; exact absurd hh.1 (by assumption)) | (intro hh; exact absurd hh.2 (by assumption)))) (by omega) ls (lv_sub hl [1, 2, 0] rfl) kk2
      · refine lv_iload_n hx hb dX6_placeOf_17 rfl (lv_at hl 2 rfl) ?_
        exact hend.2 _ (congrArg (fun z => some (Value.int (iI z))) (show r_placeOf F v = xk from by exact fi_t hV (by simp only [p_hold, decide_eq_true_eq]; first | omega | exact ⟨by assumption, by assumption⟩))) ⟨_, rfl, rfl⟩ _ _ dX6_placeOf_18
  refine L2 48 0  (by omega) (rfl) (by omega) ls (lv_sub hl [1, 2, 0] rfl) (fun hZ ls hl => ?_)
  refine ri_bipush hx hb dX6_placeOf_25 (by decide) ?_
  exact hend.2 _ (congrArg (fun z => some (Value.int (iI z))) (show r_placeOf F v = -5 from by exact hZ)) ⟨_, rfl, rfl⟩ _ _ dX6_placeOf_27

set_option maxHeartbeats 4000000 in
set_option maxRecDepth 100000 in
theorem t_X6_lowestPage (l : Launch) (g : GG) (s0 : Nat) (F : Int → Int) (b : Int) (hB : Bd F) (hb0 : 0 ≤ b ∧ b < 6) : Met l yX6_lowestPage (wm yX6_lowestPage cX6_lowestPage 3 (some .int)) (rmm 1 0 0) (pR g [(s0, eI g 233 F)] [.ref s0, .int (iI b)]) (qR (some (.int (iI (r_low F b))))) 0 0 (fun _ => False) := by
  refine met_r (by decide) (Nat.le_of_ble_eq_true rfl) ?_
  intro p e s m args below meth c Q ls hx hb hml hown hts hl w hend
  have hl : lv_has ls 3 [(0, .ref s0), (1, .int (iI b))] := hl
  refine ri_bipush hx hb dX6_lowestPage_0 (by decide) ?_
  refine lv_iload_n hx hb dX6_lowestPage_2 rfl (lv_at hl 1 rfl) ?_
  refine ri_imul (z := 8 * b) hx hb dX6_lowestPage_3 rfl ?_
  refine lv_istore_n (lv' := [(2, .int (iI (8 * b))), (0, .ref s0), (1, .int (iI b))]) hx hb dX6_lowestPage_4 rfl hl (by decide) rfl (fun ls hl => ?_)
  have L5 : ∀ (n : Nat) (xk : Int), (xk + n = 8 * b + 8) → (fi n xk (p_page F) (-5) = r_low F b) → (8 * b ≤ xk) → ∀ (ls : Array Slot), lv_has ls 3 [(0, .ref s0), (1, .int (iI b)), (2, .int (iI xk))] → (∀ (hZ : r_low F b = -5) (ls : Array Slot), lv_has ls 3 [] → W p l e (rmm 1 0 0) s m args below meth c s.heap [] 0 0 Q (F0 m 32 ls [])) → W p l e (rmm 1 0 0) s m args below meth c s.heap [] 0 0 Q (F0 m 5 ls []) := by
    intro n
    induction n with
    | zero =>
      intro xk hn hV hlo ls hl kk5
      refine lv_iload_n hx hb dX6_lowestPage_5 rfl (lv_at hl 2 rfl) ?_
      refine ri_bipush hx hb dX6_lowestPage_6 (by decide) ?_
      refine lv_iload_n hx hb dX6_lowestPage_8 rfl (lv_at hl 1 rfl) ?_
      refine ri_imul (z := 8 * b) hx hb dX6_lowestPage_9 rfl ?_
      refine ri_bipush hx hb dX6_lowestPage_10 (by decide) ?_
      refine ri_iadd (z := 8 * b + 8) hx hb dX6_lowestPage_12 rfl ?_
      refine ri_icmp_ge (tgt := 32) hx hb dX6_lowestPage_13 (by decide) (by omega) (by omega) (fun c1 => ?_) (fun c1 => ?_)
      · exact kk5 hV.symm ls  (lv_sub hl [] rfl)
      · exact absurd c1 (by omega)
    | succ n ih5 =>
      intro xk hn hV hlo ls hl kk5
      refine lv_iload_n hx hb dX6_lowestPage_5 rfl (lv_at hl 2 rfl) ?_
      refine ri_bipush hx hb dX6_lowestPage_6 (by decide) ?_
      refine lv_iload_n hx hb dX6_lowestPage_8 rfl (lv_at hl 1 rfl) ?_
      refine ri_imul (z := 8 * b) hx hb dX6_lowestPage_9 rfl ?_
      refine ri_bipush hx hb dX6_lowestPage_10 (by decide) ?_
      refine ri_iadd (z := 8 * b + 8) hx hb dX6_lowestPage_12 rfl ?_
      refine ri_icmp_ge (tgt := 32) hx hb dX6_lowestPage_13 (by decide) (by omega) (by omega) (fun c2 => ?_) (fun c2 => ?_)
      · exact absurd c2 (by omega)
      refine lv_aload_n hx hb dX6_lowestPage_16 rfl (lv_at hl 0 rfl) ?_
      refine lv_iload_n hx hb dX6_lowestPage_17 rfl (lv_at hl 2 rfl) ?_
      refine call_rS (As := [.ref s0, .int (iI xk)]) (rest := []) hx hb (hml.trans hl.1.symm) hown hts w lk_RX6_53 (t_X6_holds l g s0 F xk (3 * xk + 65) (by omega) (by omega)) [0] rfl rfl rfl rfl (Nat.le_of_ble_eq_true rfl) ⟨Nat.le_of_ble_eq_true rfl, Nat.le_of_ble_eq_true rfl⟩ ⟨Nat.le_of_ble_eq_true rfl, Nat.le_of_ble_eq_true rfl⟩ dX6_lowestPage_18 ?_
      have r3 := hB.bd (3 * xk + 65)
      refine ri_if_lt (tgt := 26) hx hb dX6_lowestPage_21 (by decide) (by omega) (fun c4 => ?_) (fun c4 => ?_)
      · refine ri_iinc (k := 2) (z := xk + 1) (lv' := [(2, .int (iI (xk + 1))), (0, .ref s0), (1, .int (iI b))]) hx hb dX6_lowestPage_26 hl rfl (by omega) (by decide) rfl (fun ls hl => ?_)
        refine lv_goto (tgt := 5) hx hb dX6_lowestPage_29 (by decide) ?_
        exact ih5 (xk + 1)  (by omega) (fi_f hV (by simp only [p_page, decide_eq_true_eq]; first | omega | (intro hh; exact absurd hh.1 (by assumption)) | (intro hh; exact absurd hh.2 (by assumption)))) (by omega) ls (lv_sub hl [1, 2, 0] rfl) kk5
      · refine lv_iload_n hx hb dX6_lowestPage_24 rfl (lv_at hl 2 rfl) ?_
        exact hend.2 _ (congrArg (fun z => some (Value.int (iI z))) (show r_low F b = xk from by exact fi_t hV (by simp only [p_page, decide_eq_true_eq]; first | omega | exact ⟨by assumption, by assumption⟩))) ⟨_, rfl, rfl⟩ _ _ dX6_lowestPage_25
  refine L5 8 (8 * b)  (by omega) (rfl) (by omega) ls (lv_sub hl [1, 2, 0] rfl) (fun hZ ls hl => ?_)
  refine ri_bipush hx hb dX6_lowestPage_32 (by decide) ?_
  exact hend.2 _ (congrArg (fun z => some (Value.int (iI z))) (show r_low F b = -5 from by exact hZ)) ⟨_, rfl, rfl⟩ _ _ dX6_lowestPage_34

set_option maxHeartbeats 4000000 in
set_option maxRecDepth 100000 in
theorem t_X6_buffered (l : Launch) (g : GG) (s0 : Nat) (N : Int) (F : Int → Int) (v : Int) (hW : WF N F) (h1 : -2147483648 ≤ v ∧ v ≤ 2147483647) : Met l yX6_buffered (wm yX6_buffered cX6_buffered 3 (some .int)) (rmm 0 0 0) (pR g [(s0, eI g 233 F)] [.ref s0, .int (iI v)]) (qR (some (.int (iI (r_buf F v))))) 0 0 (fun _ => False) := by
  have he := hW.he
  have hs := hW.se
  refine met_r (by decide) (Nat.le_of_ble_eq_true rfl) ?_
  intro p e s m args below meth c Q ls hx hb hml hown hts hl w hend
  have hl : lv_has ls 3 [(0, .ref s0), (1, .int (iI v))] := hl
  refine ri_iconst hx hb dX6_buffered_0 ?_
  refine lv_istore_n (lv' := [(2, .int (iI 0)), (0, .ref s0), (1, .int (iI v))]) hx hb dX6_buffered_1 rfl hl (by decide) rfl (fun ls hl => ?_)
  have L2 : ∀ (n : Nat) (xk : Int), (xk + n = F 11) → (fi n xk (p_buf F v) (-5) = r_buf F v) → (0 ≤ xk) → ∀ (ls : Array Slot), lv_has ls 3 [(0, .ref s0), (1, .int (iI v)), (2, .int (iI xk))] → (∀ (hZ : r_buf F v = -5) (ls : Array Slot), lv_has ls 3 [] → W p l e (rmm 0 0 0) s m args below meth c s.heap [] 0 0 Q (F0 m 28 ls [])) → W p l e (rmm 0 0 0) s m args below meth c s.heap [] 0 0 Q (F0 m 2 ls []) := by
    intro n
    induction n with
    | zero =>
      intro xk hn hV hlo ls hl kk2
      refine lv_iload_n hx hb dX6_buffered_2 rfl (lv_at hl 2 rfl) ?_
      refine lv_aload_n hx hb dX6_buffered_3 rfl (lv_at hl 0 rfl) ?_
      refine ri_bipush hx hb dX6_buffered_4 (by decide) ?_
      refine ri_iald (v := F 11) hx hb w 0 rfl (by omega) (rfl) dX6_buffered_6 (by decide) ?_
      have r1 := hW.bd 11
      refine ri_icmp_ge (tgt := 28) hx hb dX6_buffered_7 (by decide) (by omega) (by omega) (fun c2 => ?_) (fun c2 => ?_)
      · exact kk2 hV.symm ls  (lv_sub hl [] rfl)
      · exact absurd c2 (by omega)
    | succ n ih2 =>
      intro xk hn hV hlo ls hl kk2
      refine lv_iload_n hx hb dX6_buffered_2 rfl (lv_at hl 2 rfl) ?_
      refine lv_aload_n hx hb dX6_buffered_3 rfl (lv_at hl 0 rfl) ?_
      refine ri_bipush hx hb dX6_buffered_4 (by decide) ?_
      refine ri_iald (v := F 11) hx hb w 0 rfl (by omega) (rfl) dX6_buffered_6 (by decide) ?_
      have r3 := hW.bd 11
      refine ri_icmp_ge (tgt := 28) hx hb dX6_buffered_7 (by decide) (by omega) (by omega) (fun c4 => ?_) (fun c4 => ?_)
      · exact absurd c4 (by omega)
      refine lv_aload_n hx hb dX6_buffered_10 rfl (lv_at hl 0 rfl) ?_
      refine ri_bipush hx hb dX6_buffered_11 (by decide) ?_
      refine lv_iload_n hx hb dX6_buffered_13 rfl (lv_at hl 2 rfl) ?_
      refine ri_iadd (z := xk + 12) hx hb dX6_buffered_14 (by omega) ?_
      refine ri_iald (v := F (xk + 12)) hx hb w 0 rfl (by omega) (rfl) dX6_buffered_15 (by decide) ?_
      have r5 := hW.bd (xk + 12)
      refine lv_iload_n hx hb dX6_buffered_16 rfl (lv_at hl 1 rfl) ?_
      refine ri_icmp_ne (tgt := 22) hx hb dX6_buffered_17 (by decide) (by omega) (by omega) (fun c6 => ?_) (fun c6 => ?_)
      · refine ri_iinc (k := 2) (z := xk + 1) (lv' := [(2, .int (iI (xk + 1))), (0, .ref s0), (1, .int (iI v))]) hx hb dX6_buffered_22 hl rfl (by omega) (by decide) rfl (fun ls hl => ?_)
        refine lv_goto (tgt := 2) hx hb dX6_buffered_25 (by decide) ?_
        exact ih2 (xk + 1)  (by omega) (fi_f hV (by simp only [p_buf, decide_eq_true_eq]; first | omega | (intro hh; exact absurd hh.1 (by assumption)) | (intro hh; exact absurd hh.2 (by assumption)))) (by omega) ls (lv_sub hl [1, 2, 0] rfl) kk2
      · refine lv_iload_n hx hb dX6_buffered_20 rfl (lv_at hl 2 rfl) ?_
        exact hend.2 _ (congrArg (fun z => some (Value.int (iI z))) (show r_buf F v = xk from by exact fi_t hV (by simp only [p_buf, decide_eq_true_eq]; first | omega | exact ⟨by assumption, by assumption⟩))) ⟨_, rfl, rfl⟩ _ _ dX6_buffered_21
  refine L2 (F 11).toNat 0  (by omega) (rfl) (by omega) ls (lv_sub hl [1, 2, 0] rfl) (fun hZ ls hl => ?_)
  refine ri_bipush hx hb dX6_buffered_28 (by decide) ?_
  exact hend.2 _ (congrArg (fun z => some (Value.int (iI z))) (show r_buf F v = -5 from by exact hZ)) ⟨_, rfl, rfl⟩ _ _ dX6_buffered_30

set_option maxHeartbeats 4000000 in
set_option maxRecDepth 100000 in
theorem t_X6_isOpenFull (l : Launch) (g : GG) (s0 : Nat) (N : Int) (F : Int → Int) (hW : WF N F) : Met l yX6_isOpenFull (wm yX6_isOpenFull cX6_isOpenFull 1 (some .boolean)) (rmm 2 0 0) (pR g [(s0, eI g 233 F)] [.ref s0]) (qR (some (.int (iI (if P_full F then 1 else 0))))) 0 0 (fun _ => False) := by
  have ho := hW.op
  refine met_r (by decide) (Nat.le_of_ble_eq_true rfl) ?_
  intro p e s m args below meth c Q ls hx hb hml hown hts hl w hend
  have hl : lv_has ls 1 [(0, .ref s0)] := hl
  refine lv_aload_n hx hb dX6_isOpenFull_0 rfl (lv_at hl 0 rfl) ?_
  refine ri_bipush hx hb dX6_isOpenFull_1 (by decide) ?_
  refine ri_iald (v := F 6) hx hb w 0 rfl (by omega) (rfl) dX6_isOpenFull_3 (by decide) ?_
  have r1 := hW.bd 6
  refine ri_bipush hx hb dX6_isOpenFull_4 (by decide) ?_
  refine ri_icmp_eq (tgt := 21) hx hb dX6_isOpenFull_6 (by decide) (by omega) (by omega) (fun c2 => ?_) (fun c2 => ?_)
  · refine ri_iconst hx hb dX6_isOpenFull_21 ?_
    refine lv_goto (tgt := 26) hx hb dX6_isOpenFull_22 (by decide) ?_
    exact hend.2 _ (congrArg (fun z => some (Value.int (iI z))) (show (if P_full F then 1 else 0) = 1 from by omega)) ⟨_, rfl, (nz (by omega))⟩ _ _ dX6_isOpenFull_26
  · refine lv_aload_n hx hb dX6_isOpenFull_9 rfl (lv_at hl 0 rfl) ?_
    refine lv_aload_n hx hb dX6_isOpenFull_10 rfl (lv_at hl 0 rfl) ?_
    refine ri_bipush hx hb dX6_isOpenFull_11 (by decide) ?_
    refine ri_iald (v := F 6) hx hb w 0 rfl (by omega) (rfl) dX6_isOpenFull_13 (by decide) ?_
    refine ri_iconst hx hb dX6_isOpenFull_14 ?_
    refine call_rS (As := [.ref s0, .int (iI (F 6)), .int (iI (-1))]) (rest := []) hx hb (hml.trans hl.1.symm) hown hts w lk_RX6_60 (t_X6_many l g s0 F (F 6) (-1) (hW.b) (by omega) (by omega)) [0] rfl rfl rfl rfl (Nat.le_of_ble_eq_true rfl) ⟨Nat.le_of_ble_eq_true rfl, Nat.le_of_ble_eq_true rfl⟩ ⟨Nat.le_of_ble_eq_true rfl, Nat.le_of_ble_eq_true rfl⟩ dX6_isOpenFull_15 ?_
    have r3 := cnt_rg F (F 6) (-1)
    refine ri_if_ne (tgt := 25) hx hb dX6_isOpenFull_18 (by decide) (by omega) (fun c4 => ?_) (fun c4 => ?_)
    · refine ri_iconst hx hb dX6_isOpenFull_25 ?_
      exact hend.2 _ (congrArg (fun z => some (Value.int (iI z))) (show (if P_full F then 1 else 0) = 0 from by omega)) ⟨_, rfl, (nz (by omega))⟩ _ _ dX6_isOpenFull_26
    · refine ri_iconst hx hb dX6_isOpenFull_21 ?_
      refine lv_goto (tgt := 26) hx hb dX6_isOpenFull_22 (by decide) ?_
      exact hend.2 _ (congrArg (fun z => some (Value.int (iI z))) (show (if P_full F then 1 else 0) = 1 from by omega)) ⟨_, rfl, (nz (by omega))⟩ _ _ dX6_isOpenFull_26
end
section
set_option maxHeartbeats 4000000 in
set_option maxRecDepth 100000 in
theorem t_X6_readsLeft (l : Launch) (g : GG) (s0 : Nat) (N : Int) (F : Int → Int) (r : Int) (hW : WF N F) (h1 : 0 ≤ r ∧ r < 48) : Met l yX6_readsLeft (wm yX6_readsLeft cX6_readsLeft 6 (some .int)) (rmm 2 0 0) (pR g [(s0, eI g 233 F)] [.ref s0, .int (iI r)]) (qR (some (.int (iI (r_left F r))))) 0 0 (fun _ => False) := by
  refine met_r (by decide) (Nat.le_of_ble_eq_true rfl) ?_
  intro p e s m args below meth c Q ls hx hb hml hown hts hl w hend
  have hl : lv_has ls 6 [(0, .ref s0), (1, .int (iI r))] := hl
  refine lv_iload_n hx hb dX6_readsLeft_0 rfl (lv_at hl 1 rfl) ?_
  refine ri_bipush hx hb dX6_readsLeft_1 (by decide) ?_
  refine ri_idiv (z := (r / 8)) hx hb dX6_readsLeft_3 (by omega) (by omega) rfl ?_
  refine lv_istore_n (lv' := [(2, .int (iI (r / 8))), (0, .ref s0), (1, .int (iI r))]) hx hb dX6_readsLeft_4 rfl hl (by decide) rfl (fun ls hl => ?_)
  refine ri_ldc (n := 99999) hx hb hown hts (W0_of k_const_RX6_68 rfl) dX6_readsLeft_5 (by decide) ?_
  refine lv_istore_n (lv' := [(3, .int (iI 99999)), (2, .int (iI (r / 8))), (0, .ref s0), (1, .int (iI r))]) hx hb dX6_readsLeft_7 rfl hl (by decide) rfl (fun ls hl => ?_)
  refine ri_bipush hx hb dX6_readsLeft_8 (by decide) ?_
  refine lv_iload_n hx hb dX6_readsLeft_10 rfl (lv_at hl 1 rfl) ?_
  refine ri_imul (z := 8 * (r / 8)) hx hb dX6_readsLeft_11 rfl ?_
  refine lv_istore (lv' := [(4, .int (iI (8 * (r / 8)))), (3, .int (iI 99999)), (2, .int (iI (r / 8))), (0, .ref s0), (1, .int (iI r))]) hx hb dX6_readsLeft_12 hl (by decide) rfl (fun ls hl => ?_)
  have L14 : ∀ (n : Nat) (xn xk : Int), (xk + n = 8 * (r / 8) + 8) → (fo n xk xn (s_left F r) = (fo 8 (8 * (r / 8)) 99999 (s_left F r))) → (8 * (r / 8) ≤ xk) → (-200000000 ≤ xn ∧ xn ≤ 200000000) → ∀ (ls : Array Slot), lv_has ls 6 [(0, .ref s0), (1, .int (iI r)), (2, .int (iI (r / 8))), (3, .int (iI xn)), (4, .int (iI xk))] → (∀ (hrx76 : -200000000 ≤ (fo 8 (8 * (r / 8)) 99999 (s_left F r)) ∧ (fo 8 (8 * (r / 8)) 99999 (s_left F r)) ≤ 200000000) (ls : Array Slot), lv_has ls 6 [(3, .int (iI (fo 8 (8 * (r / 8)) 99999 (s_left F r))))] → W p l e (rmm 2 0 0) s m args below meth c s.heap [] 0 0 Q (F0 m 76 ls [])) → W p l e (rmm 2 0 0) s m args below meth c s.heap [] 0 0 Q (F0 m 14 ls []) := by
    intro n
    induction n with
    | zero =>
      intro xn xk hn hX hlo hrg ls hl kk14
      refine lv_iload hx hb dX6_readsLeft_14 (lv_at hl 4 rfl) ?_
      refine ri_bipush hx hb dX6_readsLeft_16 (by decide) ?_
      refine lv_iload_n hx hb dX6_readsLeft_18 rfl (lv_at hl 2 rfl) ?_
      refine ri_imul (z := 8 * (r / 8)) hx hb dX6_readsLeft_19 rfl ?_
      refine ri_bipush hx hb dX6_readsLeft_20 (by decide) ?_
      refine ri_iadd (z := 8 * (r / 8) + 8) hx hb dX6_readsLeft_22 rfl ?_
      refine ri_icmp_ge (tgt := 76) hx hb dX6_readsLeft_23 (by decide) (by omega) (by omega) (fun c1 => ?_) (fun c1 => ?_)
      · have e0 : xn = (fo 8 (8 * (r / 8)) 99999 (s_left F r)) := hX
        rw [e0] at hl
        exact kk14 (by have hz : xn = (fo 8 (8 * (r / 8)) 99999 (s_left F r)) := hX; rw [hz] at hrg; exact hrg) ls  (lv_sub hl [3] rfl)
      · exact absurd c1 (by omega)
    | succ n ih14 =>
      intro xn xk hn hX hlo hrg ls hl kk14
      have hp := hW.pl (k := xk) (by omega) (by omega)
      rw [show xk / 8 = r / 8 from by omega] at hp
      refine lv_iload hx hb dX6_readsLeft_14 (lv_at hl 4 rfl) ?_
      refine ri_bipush hx hb dX6_readsLeft_16 (by decide) ?_
      refine lv_iload_n hx hb dX6_readsLeft_18 rfl (lv_at hl 2 rfl) ?_
      refine ri_imul (z := 8 * (r / 8)) hx hb dX6_readsLeft_19 rfl ?_
      refine ri_bipush hx hb dX6_readsLeft_20 (by decide) ?_
      refine ri_iadd (z := 8 * (r / 8) + 8) hx hb dX6_readsLeft_22 rfl ?_
      refine ri_icmp_ge (tgt := 76) hx hb dX6_readsLeft_23 (by decide) (by omega) (by omega) (fun c2 => ?_) (fun c2 => ?_)
      · exact absurd c2 (by omega)
      refine lv_aload_n hx hb dX6_readsLeft_26 rfl (lv_at hl 0 rfl) ?_
      refine lv_iload_n hx hb dX6_readsLeft_27 rfl (lv_at hl 2 rfl) ?_
      refine call_rS (As := [.ref s0, .int (iI (r / 8))]) (rest := []) hx hb (hml.trans hl.1.symm) hown hts w lk_RX6_69 (t_X6_bears l g s0 _ F (r / 8) (hW) (by omega)) [0] rfl rfl rfl rfl (Nat.le_of_ble_eq_true rfl) ⟨Nat.le_of_ble_eq_true rfl, Nat.le_of_ble_eq_true rfl⟩ ⟨Nat.le_of_ble_eq_true rfl, Nat.le_of_ble_eq_true rfl⟩ dX6_readsLeft_28 ?_
      have r3 := bears_rg hW (b := (r / 8)) (by omega) (by omega)
      refine lv_aload_n hx hb dX6_readsLeft_31 rfl (lv_at hl 0 rfl) ?_
      refine lv_iload hx hb dX6_readsLeft_32 (lv_at hl 4 rfl) ?_
      refine call_rS (As := [.ref s0, .int (iI xk)]) (rest := [.int (iI (r_bears F (r / 8)))]) hx hb (hml.trans hl.1.symm) hown hts w lk_RX6_72 (t_X6_weak l g s0 F xk (3 * xk + 66) (by omega) (by omega)) [0] rfl rfl rfl rfl (Nat.le_of_ble_eq_true rfl) ⟨Nat.le_of_ble_eq_true rfl, Nat.le_of_ble_eq_true rfl⟩ ⟨Nat.le_of_ble_eq_true rfl, Nat.le_of_ble_eq_true rfl⟩ dX6_readsLeft_34 ?_
      have r4 := hW.bd (3 * xk + 66)
      refine ri_isub (z := r_bears F (r / 8) - F (3 * xk + 66)) hx hb dX6_readsLeft_37 rfl ?_
      refine lv_aload_n hx hb dX6_readsLeft_38 rfl (lv_at hl 0 rfl) ?_
      refine lv_iload hx hb dX6_readsLeft_39 (lv_at hl 4 rfl) ?_
      refine lv_iload_n hx hb dX6_readsLeft_41 rfl (lv_at hl 1 rfl) ?_
      refine call_rS (As := [.ref s0, .int (iI xk), .int (iI r)]) (rest := [.int (iI (r_bears F (r / 8) - F (3 * xk + 66)))]) hx hb (hml.trans hl.1.symm) hown hts w lk_RX6_75 (t_X6_weaker l g s0 F xk r (hW.b) (by omega) (by omega)) [0] rfl rfl rfl rfl (Nat.le_of_ble_eq_true rfl) ⟨Nat.le_of_ble_eq_true rfl, Nat.le_of_ble_eq_true rfl⟩ ⟨Nat.le_of_ble_eq_true rfl, Nat.le_of_ble_eq_true rfl⟩ dX6_readsLeft_42 ?_
      have r5 := weaker_rg F xk r
      refine ri_idiv (z := ((r_bears F (r / 8) - F (3 * xk + 66)) / r_weaker F xk r)) hx hb dX6_readsLeft_45 (by omega) (by omega) rfl ?_
      have r6 := div_rg (a := r_bears F (r / 8) - F (3 * xk + 66)) (b := r_weaker F xk r) (by omega) (by omega)
      refine lv_istore (lv' := [(5, .int (iI ((r_bears F (r / 8) - F (3 * xk + 66)) / r_weaker F xk r))), (0, .ref s0), (1, .int (iI r)), (2, .int (iI (r / 8))), (3, .int (iI xn)), (4, .int (iI xk))]) hx hb dX6_readsLeft_46 hl (by decide) rfl (fun ls hl => ?_)
      refine lv_aload_n hx hb dX6_readsLeft_48 rfl (lv_at hl 1 rfl) ?_
      refine lv_iload hx hb dX6_readsLeft_49 (lv_at hl 5 rfl) ?_
      refine call_rS (As := [.ref s0, .int (iI xk)]) (rest := []) hx hb (hml.trans hl.1.symm) hown hts w lk_RX6_53 (t_X6_holds l g s0 F xk (3 * xk + 65) (by omega) (by omega)) [0] rfl rfl rfl rfl (Nat.le_of_ble_eq_true rfl) ⟨Nat.le_of_ble_eq_true rfl, Nat.le_of_ble_eq_true rfl⟩ ⟨Nat.le_of_ble_eq_true rfl, Nat.le_of_ble_eq_true rfl⟩ dX6_readsLeft_51 ?_
      have r7 := hW.bd (3 * xk + 65)
      refine ri_if_lt (tgt := 68) hx hb dX6_readsLeft_54 (by decide) (by omega) (fun c8 => ?_) (fun c8 => ?_)
      · refine lv_iload_n hx hb dX6_readsLeft_68 rfl (lv_at hl 4 rfl) ?_
        refine lv_istore_n (lv' := [(3, .int (iI xn)), (5, .int (iI ((r_bears F (r / 8) - F (3 * xk + 66)) / r_weaker F xk r))), (0, .ref s0), (1, .int (iI r)), (2, .int (iI (r / 8))), (4, .int (iI xk))]) hx hb dX6_readsLeft_69 rfl hl (by decide) rfl (fun ls hl => ?_)
        refine ri_iinc (k := 5) (z := xk + 1) (lv' := [(4, .int (iI (xk + 1))), (3, .int (iI xn)), (5, .int (iI ((r_bears F (r / 8) - F (3 * xk + 66)) / r_weaker F xk r))), (0, .ref s0), (1, .int (iI r)), (2, .int (iI (r / 8)))]) hx hb dX6_readsLeft_70 hl rfl (by omega) (by decide) rfl (fun ls hl => ?_)
        refine lv_goto (tgt := 14) hx hb dX6_readsLeft_73 (by decide) ?_
        exact ih14 xn (xk + 1)  (by omega) (fo_s hX (by unfold s_left; omega)) (by omega) (by omega) ls (lv_sub hl [3, 4, 5, 1, 0] rfl) kk14
      · refine lv_iload hx hb dX6_readsLeft_57 (lv_at hl 0 rfl) ?_
        refine lv_iload_n hx hb dX6_readsLeft_59 rfl (lv_at hl 4 rfl) ?_
        refine ri_icmp_ge (tgt := 68) hx hb dX6_readsLeft_60 (by decide) (by omega) (by omega) (fun c9 => ?_) (fun c9 => ?_)
        · refine lv_iload_n hx hb dX6_readsLeft_68 rfl (lv_at hl 4 rfl) ?_
          refine lv_istore_n (lv' := [(3, .int (iI xn)), (5, .int (iI ((r_bears F (r / 8) - F (3 * xk + 66)) / r_weaker F xk r))), (0, .ref s0), (1, .int (iI r)), (2, .int (iI (r / 8))), (4, .int (iI xk))]) hx hb dX6_readsLeft_69 rfl hl (by decide) rfl (fun ls hl => ?_)
          refine ri_iinc (k := 5) (z := xk + 1) (lv' := [(4, .int (iI (xk + 1))), (3, .int (iI xn)), (5, .int (iI ((r_bears F (r / 8) - F (3 * xk + 66)) / r_weaker F xk r))), (0, .ref s0), (1, .int (iI r)), (2, .int (iI (r / 8)))]) hx hb dX6_readsLeft_70 hl rfl (by omega) (by decide) rfl (fun ls hl => ?_)
          refine lv_goto (tgt := 14) hx hb dX6_readsLeft_73 (by decide) ?_
          exact ih14 xn (xk + 1)  (by omega) (fo_s hX (by unfold s_left; omega)) (by omega) (by omega) ls (lv_sub hl [3, 4, 5, 1, 0] rfl) kk14
        · refine lv_iload hx hb dX6_readsLeft_63 (lv_at hl 0 rfl) ?_
          refine lv_goto (tgt := 69) hx hb dX6_readsLeft_65 (by decide) ?_
          refine lv_istore_n (lv' := [(3, .int (iI ((r_bears F (r / 8) - F (3 * xk + 66)) / r_weaker F xk r))), (5, .int (iI ((r_bears F (r / 8) - F (3 * xk + 66)) / r_weaker F xk r))), (0, .ref s0), (1, .int (iI r)), (2, .int (iI (r / 8))), (4, .int (iI xk))]) hx hb dX6_readsLeft_69 rfl hl (by decide) rfl (fun ls hl => ?_)
          refine ri_iinc (k := 5) (z := xk + 1) (lv' := [(4, .int (iI (xk + 1))), (3, .int (iI ((r_bears F (r / 8) - F (3 * xk + 66)) / r_weaker F xk r))), (5, .int (iI ((r_bears F (r / 8) - F (3 * xk + 66)) / r_weaker F xk r))), (0, .ref s0), (1, .int (iI r)), (2, .int (iI (r / 8)))]) hx hb dX6_readsLeft_70 hl rfl (by omega) (by decide) rfl (fun ls hl => ?_)
          refine lv_goto (tgt := 14) hx hb dX6_readsLeft_73 (by decide) ?_
          exact ih14 ((r_bears F (r / 8) - F (3 * xk + 66)) / r_weaker F xk r) (xk + 1)  (by omega) (fo_s hX (by unfold s_left; omega)) (by omega) (by omega) ls (lv_sub hl [3, 4, 5, 1, 0] rfl) kk14
  refine L14 8 99999 (8 * (r / 8))  (by omega) (rfl) (by omega) (by omega) ls (lv_sub hl [3, 4, 2, 1, 0] rfl) (fun hrx76 ls hl => ?_)
  refine lv_iload_n hx hb dX6_readsLeft_76 rfl (lv_at hl 0 rfl) ?_
  refine ri_if_ge (tgt := 84) hx hb dX6_readsLeft_77 (by decide) (by omega) (fun c10 => ?_) (fun c10 => ?_)
  · refine lv_iload_n hx hb dX6_readsLeft_84 rfl (lv_at hl 0 rfl) ?_
    exact hend.2 _ (congrArg (fun z => some (Value.int (iI z))) (show r_left F r = (fo 8 (8 * (r / 8)) 99999 (s_left F r)) from by unfold r_left; omega)) ⟨_, rfl, rfl⟩ _ _ dX6_readsLeft_85
  · refine ri_iconst hx hb dX6_readsLeft_80 ?_
    refine lv_goto (tgt := 85) hx hb dX6_readsLeft_81 (by decide) ?_
    exact hend.2 _ (congrArg (fun z => some (Value.int (iI z))) (show r_left F r = 0 from by unfold r_left; omega)) ⟨_, rfl, rfl⟩ _ _ dX6_readsLeft_85

set_option maxHeartbeats 4000000 in
set_option maxRecDepth 100000 in
theorem t_X6_greatest (l : Launch) (g : GG) (s0 : Nat) (N : Int) (F : Int → Int) (b : Int) (hW : WF N F) (hb0 : 0 ≤ b ∧ b < 6) : Met l yX6_greatest (wm yX6_greatest cX6_greatest 4 (some .int)) (rmm 1 0 0) (pR g [(s0, eI g 233 F)] [.ref s0, .int (iI b)]) (qR (some (.int (iI (r_great F b))))) 0 0 (fun _ => False) := by
  refine met_r (by decide) (Nat.le_of_ble_eq_true rfl) ?_
  intro p e s m args below meth c Q ls hx hb hml hown hts hl w hend
  have hl : lv_has ls 4 [(0, .ref s0), (1, .int (iI b))] := hl
  refine ri_iconst hx hb dX6_greatest_0 ?_
  refine lv_istore_n (lv' := [(2, .int (iI 0)), (0, .ref s0), (1, .int (iI b))]) hx hb dX6_greatest_1 rfl hl (by decide) rfl (fun ls hl => ?_)
  refine ri_bipush hx hb dX6_greatest_2 (by decide) ?_
  refine lv_iload_n hx hb dX6_greatest_4 rfl (lv_at hl 2 rfl) ?_
  refine ri_imul (z := 8 * b) hx hb dX6_greatest_5 rfl ?_
  refine lv_istore_n (lv' := [(3, .int (iI (8 * b))), (2, .int (iI 0)), (0, .ref s0), (1, .int (iI b))]) hx hb dX6_greatest_6 rfl hl (by decide) rfl (fun ls hl => ?_)
  have L7 : ∀ (n : Nat) (xn xk : Int), (xk + n = 8 * b + 8) → (fo n xk xn (s_great F) = r_great F b) → (8 * b ≤ xk) → (0 ≤ xn ∧ xn ≤ 200000000) → ∀ (ls : Array Slot), lv_has ls 4 [(0, .ref s0), (1, .int (iI b)), (2, .int (iI xn)), (3, .int (iI xk))] → (∀ (hrx51 : 0 ≤ r_great F b ∧ r_great F b ≤ 200000000) (ls : Array Slot), lv_has ls 4 [(2, .int (iI (r_great F b)))] → W p l e (rmm 1 0 0) s m args below meth c s.heap [] 0 0 Q (F0 m 51 ls [])) → W p l e (rmm 1 0 0) s m args below meth c s.heap [] 0 0 Q (F0 m 7 ls []) := by
    intro n
    induction n with
    | zero =>
      intro xn xk hn hX hlo hrg ls hl kk7
      refine lv_iload_n hx hb dX6_greatest_7 rfl (lv_at hl 3 rfl) ?_
      refine ri_bipush hx hb dX6_greatest_8 (by decide) ?_
      refine lv_iload_n hx hb dX6_greatest_10 rfl (lv_at hl 1 rfl) ?_
      refine ri_imul (z := 8 * b) hx hb dX6_greatest_11 rfl ?_
      refine ri_bipush hx hb dX6_greatest_12 (by decide) ?_
      refine ri_iadd (z := 8 * b + 8) hx hb dX6_greatest_14 rfl ?_
      refine ri_icmp_ge (tgt := 51) hx hb dX6_greatest_15 (by decide) (by omega) (by omega) (fun c1 => ?_) (fun c1 => ?_)
      · have e0 : xn = r_great F b := hX
        rw [e0] at hl
        exact kk7 (by have hz : xn = r_great F b := hX; rw [hz] at hrg; exact hrg) ls  (lv_sub hl [2] rfl)
      · exact absurd c1 (by omega)
    | succ n ih7 =>
      intro xn xk hn hX hlo hrg ls hl kk7
      have hp := hW.pl (k := xk) (by omega) (by omega)
      refine lv_iload_n hx hb dX6_greatest_7 rfl (lv_at hl 3 rfl) ?_
      refine ri_bipush hx hb dX6_greatest_8 (by decide) ?_
      refine lv_iload_n hx hb dX6_greatest_10 rfl (lv_at hl 1 rfl) ?_
      refine ri_imul (z := 8 * b) hx hb dX6_greatest_11 rfl ?_
      refine ri_bipush hx hb dX6_greatest_12 (by decide) ?_
      refine ri_iadd (z := 8 * b + 8) hx hb dX6_greatest_14 rfl ?_
      refine ri_icmp_ge (tgt := 51) hx hb dX6_greatest_15 (by decide) (by omega) (by omega) (fun c2 => ?_) (fun c2 => ?_)
      · exact absurd c2 (by omega)
      refine lv_aload_n hx hb dX6_greatest_18 rfl (lv_at hl 0 rfl) ?_
      refine lv_iload_n hx hb dX6_greatest_19 rfl (lv_at hl 3 rfl) ?_
      refine call_rS (As := [.ref s0, .int (iI xk)]) (rest := []) hx hb (hml.trans hl.1.symm) hown hts w lk_RX6_53 (t_X6_holds l g s0 F xk (3 * xk + 65) (by omega) (by omega)) [0] rfl rfl rfl rfl (Nat.le_of_ble_eq_true rfl) ⟨Nat.le_of_ble_eq_true rfl, Nat.le_of_ble_eq_true rfl⟩ ⟨Nat.le_of_ble_eq_true rfl, Nat.le_of_ble_eq_true rfl⟩ dX6_greatest_20 ?_
      have r3 := hW.bd (3 * xk + 65)
      refine ri_if_lt (tgt := 43) hx hb dX6_greatest_23 (by decide) (by omega) (fun c4 => ?_) (fun c4 => ?_)
      · refine lv_iload_n hx hb dX6_greatest_43 rfl (lv_at hl 2 rfl) ?_
        refine lv_istore_n (lv' := [(2, .int (iI xn)), (0, .ref s0), (1, .int (iI b)), (3, .int (iI xk))]) hx hb dX6_greatest_44 rfl hl (by decide) rfl (fun ls hl => ?_)
        refine ri_iinc (k := 3) (z := xk + 1) (lv' := [(3, .int (iI (xk + 1))), (2, .int (iI xn)), (0, .ref s0), (1, .int (iI b))]) hx hb dX6_greatest_45 hl rfl (by omega) (by decide) rfl (fun ls hl => ?_)
        refine lv_goto (tgt := 7) hx hb dX6_greatest_48 (by decide) ?_
        exact ih7 xn (xk + 1)  (by omega) (fo_s hX (by unfold s_great; first | omega | omega)) (by omega) (by omega) ls (lv_sub hl [2, 3, 1, 0] rfl) kk7
      · refine lv_aload_n hx hb dX6_greatest_26 rfl (lv_at hl 0 rfl) ?_
        refine lv_iload_n hx hb dX6_greatest_27 rfl (lv_at hl 3 rfl) ?_
        refine call_rS (As := [.ref s0, .int (iI xk)]) (rest := []) hx hb (hml.trans hl.1.symm) hown hts w lk_RX6_72 (t_X6_weak l g s0 F xk (3 * xk + 66) (by omega) (by omega)) [0] rfl rfl rfl rfl (Nat.le_of_ble_eq_true rfl) ⟨Nat.le_of_ble_eq_true rfl, Nat.le_of_ble_eq_true rfl⟩ ⟨Nat.le_of_ble_eq_true rfl, Nat.le_of_ble_eq_true rfl⟩ dX6_greatest_28 ?_
        have r5 := hW.bd (3 * xk + 66)
        refine lv_iload_n hx hb dX6_greatest_31 rfl (lv_at hl 2 rfl) ?_
        refine ri_icmp_le (tgt := 43) hx hb dX6_greatest_32 (by decide) (by omega) (by omega) (fun c6 => ?_) (fun c6 => ?_)
        · refine lv_iload_n hx hb dX6_greatest_43 rfl (lv_at hl 2 rfl) ?_
          refine lv_istore_n (lv' := [(2, .int (iI xn)), (0, .ref s0), (1, .int (iI b)), (3, .int (iI xk))]) hx hb dX6_greatest_44 rfl hl (by decide) rfl (fun ls hl => ?_)
          refine ri_iinc (k := 3) (z := xk + 1) (lv' := [(3, .int (iI (xk + 1))), (2, .int (iI xn)), (0, .ref s0), (1, .int (iI b))]) hx hb dX6_greatest_45 hl rfl (by omega) (by decide) rfl (fun ls hl => ?_)
          refine lv_goto (tgt := 7) hx hb dX6_greatest_48 (by decide) ?_
          exact ih7 xn (xk + 1)  (by omega) (fo_s hX (by unfold s_great; first | omega | omega)) (by omega) (by omega) ls (lv_sub hl [2, 3, 1, 0] rfl) kk7
        · refine lv_aload_n hx hb dX6_greatest_35 rfl (lv_at hl 0 rfl) ?_
          refine lv_iload_n hx hb dX6_greatest_36 rfl (lv_at hl 3 rfl) ?_
          refine call_rS (As := [.ref s0, .int (iI xk)]) (rest := []) hx hb (hml.trans hl.1.symm) hown hts w lk_RX6_72 (t_X6_weak l g s0 F xk (3 * xk + 66) (by omega) (by omega)) [0] rfl rfl rfl rfl (Nat.le_of_ble_eq_true rfl) ⟨Nat.le_of_ble_eq_true rfl, Nat.le_of_ble_eq_true rfl⟩ ⟨Nat.le_of_ble_eq_true rfl, Nat.le_of_ble_eq_true rfl⟩ dX6_greatest_37 ?_
          refine lv_goto (tgt := 44) hx hb dX6_greatest_40 (by decide) ?_
          refine lv_istore_n (lv' := [(2, .int (iI (F (3 * xk + 66)))), (0, .ref s0), (1, .int (iI b)), (3, .int (iI xk))]) hx hb dX6_greatest_44 rfl hl (by decide) rfl (fun ls hl => ?_)
          refine ri_iinc (k := 3) (z := xk + 1) (lv' := [(3, .int (iI (xk + 1))), (2, .int (iI (F (3 * xk + 66)))), (0, .ref s0), (1, .int (iI b))]) hx hb dX6_greatest_45 hl rfl (by omega) (by decide) rfl (fun ls hl => ?_)
          refine lv_goto (tgt := 7) hx hb dX6_greatest_48 (by decide) ?_
          exact ih7 (F (3 * xk + 66)) (xk + 1)  (by omega) (fo_s hX (by unfold s_great; first | omega | omega)) (by omega) (by omega) ls (lv_sub hl [2, 3, 1, 0] rfl) kk7
  refine L7 8 0 (8 * b)  (by omega) (rfl) (by omega) (by omega) ls (lv_sub hl [2, 3, 1, 0] rfl) (fun hrx51 ls hl => ?_)
  refine lv_iload_n hx hb dX6_greatest_51 rfl (lv_at hl 0 rfl) ?_
  have r7 := great_rg hW (b := b) (by omega) (by omega)
  exact hend.2 _ rfl ⟨_, rfl, rfl⟩ _ _ dX6_greatest_52

set_option maxHeartbeats 4000000 in
set_option maxRecDepth 100000 in
theorem t_X6_hundredths (l : Launch) (g : GG) (s0 : Nat) (N : Int) (F : Int → Int) (b : Int) (hW : WF N F) (hb0 : 0 ≤ b ∧ b < 6) : Met l yX6_hundredths (wm yX6_hundredths cX6_hundredths 2 (some .int)) (rmm 2 0 0) (pR g [(s0, eI g 233 F)] [.ref s0, .int (iI b)]) (qR (some (.int (iI (r_hund F b))))) 0 0 (fun _ => False) := by
  refine met_r (by decide) (Nat.le_of_ble_eq_true rfl) ?_
  intro p e s m args below meth c Q ls hx hb hml hown hts hl w hend
  have hl : lv_has ls 2 [(0, .ref s0), (1, .int (iI b))] := hl
  refine ri_bipush hx hb dX6_hundredths_0 (by decide) ?_
  refine lv_aload_n hx hb dX6_hundredths_2 rfl (lv_at hl 0 rfl) ?_
  refine lv_iload_n hx hb dX6_hundredths_3 rfl (lv_at hl 1 rfl) ?_
  refine call_rS (As := [.ref s0, .int (iI b)]) (rest := [.int (iI 100)]) hx hb (hml.trans hl.1.symm) hown hts w lk_RX6_78 (t_X6_greatest l g s0 _ F b (hW) (by omega)) [0] rfl rfl rfl rfl (Nat.le_of_ble_eq_true rfl) ⟨Nat.le_of_ble_eq_true rfl, Nat.le_of_ble_eq_true rfl⟩ ⟨Nat.le_of_ble_eq_true rfl, Nat.le_of_ble_eq_true rfl⟩ dX6_hundredths_4 ?_
  have r1 := great_rg hW (b := b) (by omega) (by omega)
  refine ri_imul (z := 100 * r_great F b) hx hb dX6_hundredths_7 (by omega) ?_
  refine lv_aload_n hx hb dX6_hundredths_8 rfl (lv_at hl 0 rfl) ?_
  refine lv_iload_n hx hb dX6_hundredths_9 rfl (lv_at hl 1 rfl) ?_
  refine call_rS (As := [.ref s0, .int (iI b)]) (rest := [.int (iI (100 * r_great F b))]) hx hb (hml.trans hl.1.symm) hown hts w lk_RX6_69 (t_X6_bears l g s0 _ F b (hW) (by omega)) [0] rfl rfl rfl rfl (Nat.le_of_ble_eq_true rfl) ⟨Nat.le_of_ble_eq_true rfl, Nat.le_of_ble_eq_true rfl⟩ ⟨Nat.le_of_ble_eq_true rfl, Nat.le_of_ble_eq_true rfl⟩ dX6_hundredths_10 ?_
  have r2 := bears_rg hW (b := b) (by omega) (by omega)
  refine ri_idiv (z := ((100 * r_great F b) / r_bears F b)) hx hb dX6_hundredths_13 (by omega) (by omega) rfl ?_
  have r3 := div_rg (a := 100 * r_great F b) (b := r_bears F b) (by omega) (by omega)
  exact hend.2 _ (congrArg (fun z => some (Value.int (iI z))) (show r_hund F b = ((100 * r_great F b) / r_bears F b) from by unfold r_hund; rfl)) ⟨_, rfl, rfl⟩ _ _ dX6_hundredths_14

set_option maxHeartbeats 4000000 in
set_option maxRecDepth 100000 in
theorem t_X6_isMarked (l : Launch) (g : GG) (s0 : Nat) (N : Int) (F : Int → Int) (b : Int) (hW : WF N F) (hb0 : 0 ≤ b ∧ b < 6) : Met l yX6_isMarked (wm yX6_isMarked cX6_isMarked 4 (some .boolean)) (rmm 3 0 0) (pR g [(s0, eI g 233 F)] [.ref s0, .int (iI b)]) (qR (some (.int (iI (if P_marked F b then 1 else 0))))) 0 0 (fun _ => False) := by
  have hs := hW.se
  refine met_r (by decide) (Nat.le_of_ble_eq_true rfl) ?_
  intro p e s m args below meth c Q ls hx hb hml hown hts hl w hend
  have hl : lv_has ls 4 [(0, .ref s0), (1, .int (iI b))] := hl
  refine lv_aload_n hx hb dX6_isMarked_0 rfl (lv_at hl 0 rfl) ?_
  refine ri_bipush hx hb dX6_isMarked_1 (by decide) ?_
  refine ri_iconst hx hb dX6_isMarked_3 ?_
  refine lv_iload_n hx hb dX6_isMarked_4 rfl (lv_at hl 1 rfl) ?_
  refine ri_imul (z := 4 * b) hx hb dX6_isMarked_5 rfl ?_
  refine ri_iadd (z := 4 * b + 41) hx hb dX6_isMarked_6 (by omega) ?_
  refine ri_iconst hx hb dX6_isMarked_7 ?_
  refine ri_iadd (z := 4 * b + 43) hx hb dX6_isMarked_8 (by omega) ?_
  refine ri_iald (v := F (4 * b + 43)) hx hb w 0 rfl (by omega) (rfl) dX6_isMarked_9 (by decide) ?_
  have r1 := hW.bd (4 * b + 43)
  refine ri_iconst hx hb dX6_isMarked_10 ?_
  refine ri_icmp_ne (tgt := 16) hx hb dX6_isMarked_11 (by decide) (by omega) (by omega) (fun c2 => ?_) (fun c2 => ?_)
  · refine lv_aload_n hx hb dX6_isMarked_16 rfl (lv_at hl 0 rfl) ?_
    refine lv_iload_n hx hb dX6_isMarked_17 rfl (lv_at hl 1 rfl) ?_
    refine ri_iconst hx hb dX6_isMarked_18 ?_
    refine call_rS (As := [.ref s0, .int (iI b), .int (iI 0)]) (rest := []) hx hb (hml.trans hl.1.symm) hown hts w lk_RX6_60 (t_X6_many l g s0 F b 0 (hW.b) (by omega) (by omega)) [0] rfl rfl rfl rfl (Nat.le_of_ble_eq_true rfl) ⟨Nat.le_of_ble_eq_true rfl, Nat.le_of_ble_eq_true rfl⟩ ⟨Nat.le_of_ble_eq_true rfl, Nat.le_of_ble_eq_true rfl⟩ dX6_isMarked_19 ?_
    have r3 := cnt_rg F b 0
    refine ri_if_ne (tgt := 27) hx hb dX6_isMarked_22 (by decide) (by omega) (fun c4 => ?_) (fun c4 => ?_)
    · refine ri_iconst hx hb dX6_isMarked_27 ?_
      refine lv_istore_n (lv' := [(2, .int (iI 0)), (0, .ref s0), (1, .int (iI b))]) hx hb dX6_isMarked_28 rfl hl (by decide) rfl (fun ls hl => ?_)
      refine ri_bipush hx hb dX6_isMarked_29 (by decide) ?_
      refine lv_iload_n hx hb dX6_isMarked_31 rfl (lv_at hl 2 rfl) ?_
      refine ri_imul (z := 8 * b) hx hb dX6_isMarked_32 rfl ?_
      refine lv_istore_n (lv' := [(3, .int (iI (8 * b))), (2, .int (iI 0)), (0, .ref s0), (1, .int (iI b))]) hx hb dX6_isMarked_33 rfl hl (by decide) rfl (fun ls hl => ?_)
      have L34 : ∀ (n : Nat) (xo xk : Int), (xk + n = 8 * b + 8) → ((xo = 1 ∨ an n xk (p_old F) = true) ↔ r_old F b = true) → (8 * b ≤ xk) → (xo = 0 ∨ xo = 1) → ∀ (ls : Array Slot), lv_has ls 4 [(0, .ref s0), (1, .int (iI b)), (2, .int (iI xo)), (3, .int (iI xk))] → (∀ (ls : Array Slot), lv_has ls 4 [(0, .ref s0), (1, .int (iI b)), (2, .int (iI (if r_old F b = true then 1 else 0)))] → W p l e (rmm 3 0 0) s m args below meth c s.heap [] 0 0 Q (F0 m 89 ls [])) → W p l e (rmm 3 0 0) s m args below meth c s.heap [] 0 0 Q (F0 m 34 ls []) := by
        intro n
        induction n with
        | zero =>
          intro xo xk hn hX hlo ho ls hl kk34
          refine lv_iload_n hx hb dX6_isMarked_34 rfl (lv_at hl 3 rfl) ?_
          refine ri_bipush hx hb dX6_isMarked_35 (by decide) ?_
          refine lv_iload_n hx hb dX6_isMarked_37 rfl (lv_at hl 1 rfl) ?_
          refine ri_imul (z := 8 * b) hx hb dX6_isMarked_38 rfl ?_
          refine ri_bipush hx hb dX6_isMarked_39 (by decide) ?_
          refine ri_iadd (z := 8 * b + 8) hx hb dX6_isMarked_41 rfl ?_
          refine ri_icmp_ge (tgt := 89) hx hb dX6_isMarked_42 (by decide) (by omega) (by omega) (fun c5 => ?_) (fun c5 => ?_)
          · have e0 := an_0 hX ho
            rw [e0] at hl
            exact kk34  ls  (lv_sub hl [0, 1, 2] rfl)
          · exact absurd c5 (by omega)
        | succ n ih34 =>
          intro xo xk hn hX hlo ho ls hl kk34
          refine lv_iload_n hx hb dX6_isMarked_34 rfl (lv_at hl 3 rfl) ?_
          refine ri_bipush hx hb dX6_isMarked_35 (by decide) ?_
          refine lv_iload_n hx hb dX6_isMarked_37 rfl (lv_at hl 1 rfl) ?_
          refine ri_imul (z := 8 * b) hx hb dX6_isMarked_38 rfl ?_
          refine ri_bipush hx hb dX6_isMarked_39 (by decide) ?_
          refine ri_iadd (z := 8 * b + 8) hx hb dX6_isMarked_41 rfl ?_
          refine ri_icmp_ge (tgt := 89) hx hb dX6_isMarked_42 (by decide) (by omega) (by omega) (fun c6 => ?_) (fun c6 => ?_)
          · exact absurd c6 (by omega)
          refine lv_iload_n hx hb dX6_isMarked_45 rfl (lv_at hl 2 rfl) ?_
          refine ri_if_ne (tgt := 77) hx hb dX6_isMarked_46 (by decide) (by omega) (fun c7 => ?_) (fun c7 => ?_)
          · refine ri_iconst hx hb dX6_isMarked_77 ?_
            refine lv_goto (tgt := 82) hx hb dX6_isMarked_78 (by decide) ?_
            refine lv_istore_n (lv' := [(2, .int (iI 1)), (0, .ref s0), (1, .int (iI b)), (3, .int (iI xk))]) hx hb dX6_isMarked_82 rfl hl (by decide) rfl (fun ls hl => ?_)
            refine ri_iinc (k := 3) (z := xk + 1) (lv' := [(3, .int (iI (xk + 1))), (2, .int (iI 1)), (0, .ref s0), (1, .int (iI b))]) hx hb dX6_isMarked_83 hl rfl (by omega) (by decide) rfl (fun ls hl => ?_)
            refine lv_goto (tgt := 34) hx hb dX6_isMarked_86 (by decide) ?_
            exact ih34 1 (xk + 1)  (by omega) (an_s hX (by simp only [p_old, decide_eq_true_eq]; refine ⟨fun _ => ?_, fun _ => ?_⟩ <;> first | trivial | omega)) (by omega) (by omega) ls (lv_sub hl [2, 3, 1, 0] rfl) kk34
          · refine lv_aload_n hx hb dX6_isMarked_49 rfl (lv_at hl 0 rfl) ?_
            refine lv_iload_n hx hb dX6_isMarked_50 rfl (lv_at hl 3 rfl) ?_
            refine call_rS (As := [.ref s0, .int (iI xk)]) (rest := []) hx hb (hml.trans hl.1.symm) hown hts w lk_RX6_53 (t_X6_holds l g s0 F xk (3 * xk + 65) (by omega) (by omega)) [0] rfl rfl rfl rfl (Nat.le_of_ble_eq_true rfl) ⟨Nat.le_of_ble_eq_true rfl, Nat.le_of_ble_eq_true rfl⟩ ⟨Nat.le_of_ble_eq_true rfl, Nat.le_of_ble_eq_true rfl⟩ dX6_isMarked_51 ?_
            have r8 := hW.bd (3 * xk + 65)
            refine ri_if_lt (tgt := 81) hx hb dX6_isMarked_54 (by decide) (by omega) (fun c9 => ?_) (fun c9 => ?_)
            · refine ri_iconst hx hb dX6_isMarked_81 ?_
              refine lv_istore_n (lv' := [(2, .int (iI 0)), (0, .ref s0), (1, .int (iI b)), (3, .int (iI xk))]) hx hb dX6_isMarked_82 rfl hl (by decide) rfl (fun ls hl => ?_)
              refine ri_iinc (k := 3) (z := xk + 1) (lv' := [(3, .int (iI (xk + 1))), (2, .int (iI 0)), (0, .ref s0), (1, .int (iI b))]) hx hb dX6_isMarked_83 hl rfl (by omega) (by decide) rfl (fun ls hl => ?_)
              refine lv_goto (tgt := 34) hx hb dX6_isMarked_86 (by decide) ?_
              exact ih34 0 (xk + 1)  (by omega) (an_s hX (by simp only [p_old, decide_eq_true_eq]; refine ⟨fun _ => ?_, fun _ => ?_⟩ <;> first | trivial | omega)) (by omega) (by omega) ls (lv_sub hl [2, 3, 1, 0] rfl) kk34
            · refine lv_aload_n hx hb dX6_isMarked_57 rfl (lv_at hl 0 rfl) ?_
              refine ri_iconst hx hb dX6_isMarked_58 ?_
              refine ri_iald (v := F 0) hx hb w 0 rfl (by omega) (rfl) dX6_isMarked_59 (by decide) ?_
              have r10 := hW.bd 0
              refine lv_aload_n hx hb dX6_isMarked_60 rfl (lv_at hl 0 rfl) ?_
              refine ri_bipush hx hb dX6_isMarked_61 (by decide) ?_
              refine ri_iconst hx hb dX6_isMarked_63 ?_
              refine lv_iload_n hx hb dX6_isMarked_64 rfl (lv_at hl 3 rfl) ?_
              refine ri_imul (z := 3 * xk) hx hb dX6_isMarked_65 rfl ?_
              refine ri_iadd (z := 3 * xk + 65) hx hb dX6_isMarked_66 (by omega) ?_
              refine ri_iconst hx hb dX6_isMarked_67 ?_
              refine ri_iadd (z := 3 * xk + 67) hx hb dX6_isMarked_68 (by omega) ?_
              refine ri_iald (v := F (3 * xk + 67)) hx hb w 0 rfl (by omega) (rfl) dX6_isMarked_69 (by decide) ?_
              have r11 := hW.bd (3 * xk + 67)
              refine ri_isub (z := F 0 - F (3 * xk + 67)) hx hb dX6_isMarked_70 rfl ?_
              refine lv_aload_n hx hb dX6_isMarked_71 rfl (lv_at hl 0 rfl) ?_
              refine ri_iconst hx hb dX6_isMarked_72 ?_
              refine ri_iald (v := F 2) hx hb w 0 rfl (by omega) (rfl) dX6_isMarked_73 (by decide) ?_
              have r12 := hW.bd 2
              refine ri_icmp_lt (tgt := 81) hx hb dX6_isMarked_74 (by decide) (by omega) (by omega) (fun c13 => ?_) (fun c13 => ?_)
              · refine ri_iconst hx hb dX6_isMarked_81 ?_
                refine lv_istore_n (lv' := [(2, .int (iI 0)), (0, .ref s0), (1, .int (iI b)), (3, .int (iI xk))]) hx hb dX6_isMarked_82 rfl hl (by decide) rfl (fun ls hl => ?_)
                refine ri_iinc (k := 3) (z := xk + 1) (lv' := [(3, .int (iI (xk + 1))), (2, .int (iI 0)), (0, .ref s0), (1, .int (iI b))]) hx hb dX6_isMarked_83 hl rfl (by omega) (by decide) rfl (fun ls hl => ?_)
                refine lv_goto (tgt := 34) hx hb dX6_isMarked_86 (by decide) ?_
                exact ih34 0 (xk + 1)  (by omega) (an_s hX (by simp only [p_old, decide_eq_true_eq]; refine ⟨fun _ => ?_, fun _ => ?_⟩ <;> first | trivial | omega)) (by omega) (by omega) ls (lv_sub hl [2, 3, 1, 0] rfl) kk34
              · refine ri_iconst hx hb dX6_isMarked_77 ?_
                refine lv_goto (tgt := 82) hx hb dX6_isMarked_78 (by decide) ?_
                refine lv_istore_n (lv' := [(2, .int (iI 1)), (0, .ref s0), (1, .int (iI b)), (3, .int (iI xk))]) hx hb dX6_isMarked_82 rfl hl (by decide) rfl (fun ls hl => ?_)
                refine ri_iinc (k := 3) (z := xk + 1) (lv' := [(3, .int (iI (xk + 1))), (2, .int (iI 1)), (0, .ref s0), (1, .int (iI b))]) hx hb dX6_isMarked_83 hl rfl (by omega) (by decide) rfl (fun ls hl => ?_)
                refine lv_goto (tgt := 34) hx hb dX6_isMarked_86 (by decide) ?_
                exact ih34 1 (xk + 1)  (by omega) (an_s hX (by simp only [p_old, decide_eq_true_eq]; refine ⟨fun _ => ?_, fun _ => ?_⟩ <;> first | trivial | omega)) (by omega) (by omega) ls (lv_sub hl [2, 3, 1, 0] rfl) kk34
      refine L34 8 0 (8 * b)  (by omega) (⟨fun h => by rcases h with h | h; exact absurd h (by omega); exact h, fun h => Or.inr h⟩) (by omega) (by omega) ls (lv_sub hl [2, 3, 1, 0] rfl) (fun ls hl => ?_)
      refine lv_iload_n hx hb dX6_isMarked_89 rfl (lv_at hl 2 rfl) ?_
      refine ri_ifb_ne (tgt := 113) hx hb dX6_isMarked_90 (by decide) (fun c14 => ?_) (fun c14 => ?_)
      · refine ri_iconst hx hb dX6_isMarked_113 ?_
        refine lv_goto (tgt := 118) hx hb dX6_isMarked_114 (by decide) ?_
        exact hend.2 _ (congrArg (fun z => some (Value.int (iI z))) (show (if P_marked F b then 1 else 0) = 1 from by exact if_pos (by first | exact Or.inl (by omega) | exact Or.inr ⟨by omega, Or.inl (by assumption)⟩ | exact Or.inr ⟨by omega, Or.inr (by omega)⟩))) ⟨_, rfl, (nz (by omega))⟩ _ _ dX6_isMarked_118
      · refine ri_bipush hx hb dX6_isMarked_93 (by decide) ?_
        refine lv_aload_n hx hb dX6_isMarked_95 rfl (lv_at hl 0 rfl) ?_
        refine lv_iload_n hx hb dX6_isMarked_96 rfl (lv_at hl 1 rfl) ?_
        refine call_rS (As := [.ref s0, .int (iI b)]) (rest := [.int (iI 100)]) hx hb (hml.trans hl.1.symm) hown hts w lk_RX6_78 (t_X6_greatest l g s0 _ F b (hW) (by omega)) [0] rfl rfl rfl rfl (Nat.le_of_ble_eq_true rfl) ⟨Nat.le_of_ble_eq_true rfl, Nat.le_of_ble_eq_true rfl⟩ ⟨Nat.le_of_ble_eq_true rfl, Nat.le_of_ble_eq_true rfl⟩ dX6_isMarked_97 ?_
        have r15 := great_rg hW (b := b) (by omega) (by omega)
        refine ri_imul (z := 100 * r_great F b) hx hb dX6_isMarked_100 (by omega) ?_
        refine lv_aload_n hx hb dX6_isMarked_101 rfl (lv_at hl 0 rfl) ?_
        refine ri_iconst hx hb dX6_isMarked_102 ?_
        refine ri_iald (v := F 1) hx hb w 0 rfl (by omega) (rfl) dX6_isMarked_103 (by decide) ?_
        have r16 := hW.bd 1
        refine lv_aload_n hx hb dX6_isMarked_104 rfl (lv_at hl 0 rfl) ?_
        refine lv_iload_n hx hb dX6_isMarked_105 rfl (lv_at hl 1 rfl) ?_
        refine call_rS (As := [.ref s0, .int (iI b)]) (rest := [.int (iI (F 1)), .int (iI (100 * r_great F b))]) hx hb (hml.trans hl.1.symm) hown hts w lk_RX6_69 (t_X6_bears l g s0 _ F b (hW) (by omega)) [0] rfl rfl rfl rfl (Nat.le_of_ble_eq_true rfl) ⟨Nat.le_of_ble_eq_true rfl, Nat.le_of_ble_eq_true rfl⟩ ⟨Nat.le_of_ble_eq_true rfl, Nat.le_of_ble_eq_true rfl⟩ dX6_isMarked_106 ?_
        have r17 := bears_rg hW (b := b) (by omega) (by omega)
        refine ri_imul (z := (F 1 * r_bears F b)) hx hb dX6_isMarked_109 rfl ?_
        have r18 := mul_rg (a := F 1) (b := r_bears F b) (by omega) (by omega)
        refine ri_icmp_lt (tgt := 117) hx hb dX6_isMarked_110 (by decide) (by omega) (by omega) (fun c19 => ?_) (fun c19 => ?_)
        · refine ri_iconst hx hb dX6_isMarked_117 ?_
          exact hend.2 _ (congrArg (fun z => some (Value.int (iI z))) (show (if P_marked F b then 1 else 0) = 0 from by exact if_neg (by rintro (hh | ⟨h1, h2 | h2⟩) <;> first | omega | exact absurd h2 (by assumption)))) ⟨_, rfl, (nz (by omega))⟩ _ _ dX6_isMarked_118
        · refine ri_iconst hx hb dX6_isMarked_113 ?_
          refine lv_goto (tgt := 118) hx hb dX6_isMarked_114 (by decide) ?_
          exact hend.2 _ (congrArg (fun z => some (Value.int (iI z))) (show (if P_marked F b then 1 else 0) = 1 from by exact if_pos (by first | exact Or.inl (by omega) | exact Or.inr ⟨by omega, Or.inl (by assumption)⟩ | exact Or.inr ⟨by omega, Or.inr (by omega)⟩))) ⟨_, rfl, (nz (by omega))⟩ _ _ dX6_isMarked_118
    · refine ri_iconst hx hb dX6_isMarked_25 ?_
      exact hend.2 _ (congrArg (fun z => some (Value.int (iI z))) (show (if P_marked F b then 1 else 0) = 0 from by exact if_neg (by rintro (hh | ⟨h1, h2 | h2⟩) <;> first | omega | exact absurd h2 (by assumption)))) ⟨_, rfl, (nz (by omega))⟩ _ _ dX6_isMarked_26
  · refine ri_iconst hx hb dX6_isMarked_14 ?_
    exact hend.2 _ (congrArg (fun z => some (Value.int (iI z))) (show (if P_marked F b then 1 else 0) = 1 from by exact if_pos (by first | exact Or.inl (by omega) | exact Or.inr ⟨by omega, Or.inl (by assumption)⟩ | exact Or.inr ⟨by omega, Or.inr (by omega)⟩))) ⟨_, rfl, (nz (by omega))⟩ _ _ dX6_isMarked_15

set_option maxHeartbeats 4000000 in
set_option maxRecDepth 100000 in
theorem t_X6_marks (l : Launch) (g : GG) (s0 : Nat) (N : Int) (F : Int → Int) (hW : WF N F) : Met l yX6_marks (wm yX6_marks cX6_marks 3 (some .int)) (rmm 4 0 0) (pR g [(s0, eI g 233 F)] [.ref s0]) (qR (some (.int (iI (r_marks F))))) 0 0 (fun _ => False) := by
  refine met_r (by decide) (Nat.le_of_ble_eq_true rfl) ?_
  intro p e s m args below meth c Q ls hx hb hml hown hts hl w hend
  have hl : lv_has ls 3 [(0, .ref s0)] := hl
  refine ri_iconst hx hb dX6_marks_0 ?_
  refine lv_istore_n (lv' := [(1, .int (iI 0)), (0, .ref s0)]) hx hb dX6_marks_1 rfl hl (by decide) rfl (fun ls hl => ?_)
  refine ri_iconst hx hb dX6_marks_2 ?_
  refine lv_istore_n (lv' := [(2, .int (iI 0)), (1, .int (iI 0)), (0, .ref s0)]) hx hb dX6_marks_3 rfl hl (by decide) rfl (fun ls hl => ?_)
  have L4 : ∀ (n : Nat) (xn xk : Int), (xk + n = 6) → (fo n xk xn (s_marks F) = r_marks F) → (0 ≤ xk) → ∀ (ls : Array Slot), lv_has ls 3 [(0, .ref s0), (1, .int (iI xn)), (2, .int (iI xk))] → (∀ (ls : Array Slot), lv_has ls 3 [(1, .int (iI (r_marks F)))] → W p l e (rmm 4 0 0) s m args below meth c s.heap [] 0 0 Q (F0 m 32 ls [])) → W p l e (rmm 4 0 0) s m args below meth c s.heap [] 0 0 Q (F0 m 4 ls []) := by
    intro n
    induction n with
    | zero =>
      intro xn xk hn hX hlo ls hl kk4
      refine lv_iload_n hx hb dX6_marks_4 rfl (lv_at hl 2 rfl) ?_
      refine ri_bipush hx hb dX6_marks_5 (by decide) ?_
      refine ri_icmp_ge (tgt := 32) hx hb dX6_marks_7 (by decide) (by omega) (by omega) (fun c1 => ?_) (fun c1 => ?_)
      · have e0 : xn = r_marks F := hX
        rw [e0] at hl
        exact kk4  ls  (lv_sub hl [1] rfl)
      · exact absurd c1 (by omega)
    | succ n ih4 =>
      intro xn xk hn hX hlo ls hl kk4
      refine lv_iload_n hx hb dX6_marks_4 rfl (lv_at hl 2 rfl) ?_
      refine ri_bipush hx hb dX6_marks_5 (by decide) ?_
      refine ri_icmp_ge (tgt := 32) hx hb dX6_marks_7 (by decide) (by omega) (by omega) (fun c2 => ?_) (fun c2 => ?_)
      · exact absurd c2 (by omega)
      refine lv_iload_n hx hb dX6_marks_10 rfl (lv_at hl 1 rfl) ?_
      refine lv_aload_n hx hb dX6_marks_11 rfl (lv_at hl 0 rfl) ?_
      refine lv_iload_n hx hb dX6_marks_12 rfl (lv_at hl 2 rfl) ?_
      refine call_rS (As := [.ref s0, .int (iI xk)]) (rest := [.int (iI xn)]) hx hb (hml.trans hl.1.symm) hown hts w lk_RX6_81 (t_X6_isMarked l g s0 _ F xk (hW) (by omega)) [0] rfl rfl rfl rfl (Nat.le_of_ble_eq_true rfl) ⟨Nat.le_of_ble_eq_true rfl, Nat.le_of_ble_eq_true rfl⟩ ⟨Nat.le_of_ble_eq_true rfl, Nat.le_of_ble_eq_true rfl⟩ dX6_marks_13 ?_
      refine ri_ifb_eq (tgt := 23) hx hb dX6_marks_16 (by decide) (fun c3 => ?_) (fun c3 => ?_)
      · refine ri_iconst hx hb dX6_marks_23 ?_
        refine ri_iadd (z := xn) hx hb dX6_marks_24 (by omega) ?_
        refine lv_istore_n (lv' := [(1, .int (iI xn)), (0, .ref s0), (2, .int (iI xk))]) hx hb dX6_marks_25 rfl hl (by decide) rfl (fun ls hl => ?_)
        refine ri_iinc (k := 2) (z := xk + 1) (lv' := [(2, .int (iI (xk + 1))), (1, .int (iI xn)), (0, .ref s0)]) hx hb dX6_marks_26 hl rfl (by omega) (by decide) rfl (fun ls hl => ?_)
        refine lv_goto (tgt := 4) hx hb dX6_marks_29 (by decide) ?_
        exact ih4 xn (xk + 1)  (by omega) (fo_s hX (by unfold s_marks; first | omega | (simp only [if_neg c3]; try omega))) (by omega) ls (lv_sub hl [2, 1, 0] rfl) kk4
      · refine ri_iconst hx hb dX6_marks_19 ?_
        refine lv_goto (tgt := 24) hx hb dX6_marks_20 (by decide) ?_
        refine ri_iadd (z := xn + 1) hx hb dX6_marks_24 rfl ?_
        refine lv_istore_n (lv' := [(1, .int (iI (xn + 1))), (0, .ref s0), (2, .int (iI xk))]) hx hb dX6_marks_25 rfl hl (by decide) rfl (fun ls hl => ?_)
        refine ri_iinc (k := 2) (z := xk + 1) (lv' := [(2, .int (iI (xk + 1))), (1, .int (iI (xn + 1))), (0, .ref s0)]) hx hb dX6_marks_26 hl rfl (by omega) (by decide) rfl (fun ls hl => ?_)
        refine lv_goto (tgt := 4) hx hb dX6_marks_29 (by decide) ?_
        exact ih4 (xn + 1) (xk + 1)  (by omega) (fo_s hX (by unfold s_marks; first | omega | (simp only [if_pos c3]; try omega))) (by omega) ls (lv_sub hl [2, 1, 0] rfl) kk4
  refine L4 6 0 0  (by omega) (rfl) (by omega) ls (lv_sub hl [2, 1, 0] rfl) (fun ls hl => ?_)
  refine lv_iload_n hx hb dX6_marks_32 rfl (lv_at hl 0 rfl) ?_
  have r4 := marks_rg F
  exact hend.2 _ rfl ⟨_, rfl, rfl⟩ _ _ dX6_marks_33

set_option maxHeartbeats 4000000 in
set_option maxRecDepth 100000 in
theorem t_X6_markedAt (l : Launch) (g : GG) (s0 : Nat) (N : Int) (F : Int → Int) (r : Int) (hW : WF N F) (h1 : -2147483648 ≤ r ∧ r ≤ 2147483647) : Met l yX6_markedAt (wm yX6_markedAt cX6_markedAt 6 (some .int)) (rmm 4 0 0) (pR g [(s0, eI g 233 F)] [.ref s0, .int (iI r)]) (qR (some (.int (iI (r_markedAt F r))))) 0 0 (fun _ => False) := by
  refine met_r (by decide) (Nat.le_of_ble_eq_true rfl) ?_
  intro p e s m args below meth c Q ls hx hb hml hown hts hl w hend
  have hl : lv_has ls 6 [(0, .ref s0), (1, .int (iI r))] := hl
  refine ri_iconst hx hb dX6_markedAt_0 ?_
  refine lv_istore_n (lv' := [(2, .int (iI 0)), (0, .ref s0), (1, .int (iI r))]) hx hb dX6_markedAt_1 rfl hl (by decide) rfl (fun ls hl => ?_)
  have L2 : ∀ (n : Nat) (xk : Int), (xk + n = 6) → (fi n xk (p_at F r) (-5) = r_markedAt F r) → (0 ≤ xk) → ∀ (ls : Array Slot), lv_has ls 6 [(0, .ref s0), (1, .int (iI r)), (2, .int (iI xk))] → (∀ (hZ : r_markedAt F r = -5) (ls : Array Slot), lv_has ls 6 [] → W p l e (rmm 4 0 0) s m args below meth c s.heap [] 0 0 Q (F0 m 110 ls [])) → W p l e (rmm 4 0 0) s m args below meth c s.heap [] 0 0 Q (F0 m 2 ls []) := by
    intro n
    induction n with
    | zero =>
      intro xk hn hV hlo ls hl kk2
      refine lv_iload_n hx hb dX6_markedAt_2 rfl (lv_at hl 2 rfl) ?_
      refine ri_bipush hx hb dX6_markedAt_3 (by decide) ?_
      refine ri_icmp_ge (tgt := 110) hx hb dX6_markedAt_5 (by decide) (by omega) (by omega) (fun c1 => ?_) (fun c1 => ?_)
      · exact kk2 hV.symm ls  (lv_sub hl [] rfl)
      · exact absurd c1 (by omega)
    | succ n ih2 =>
      intro xk hn hV hlo ls hl kk2
      refine lv_iload_n hx hb dX6_markedAt_2 rfl (lv_at hl 2 rfl) ?_
      refine ri_bipush hx hb dX6_markedAt_3 (by decide) ?_
      refine ri_icmp_ge (tgt := 110) hx hb dX6_markedAt_5 (by decide) (by omega) (by omega) (fun c2 => ?_) (fun c2 => ?_)
      · exact absurd c2 (by omega)
      refine ri_iconst hx hb dX6_markedAt_8 ?_
      refine lv_istore_n (lv' := [(3, .int (iI 0)), (0, .ref s0), (1, .int (iI r)), (2, .int (iI xk))]) hx hb dX6_markedAt_9 rfl hl (by decide) rfl (fun ls hl => ?_)
      refine ri_iconst hx hb dX6_markedAt_10 ?_
      refine lv_istore (lv' := [(4, .int (iI 0)), (3, .int (iI 0)), (0, .ref s0), (1, .int (iI r)), (2, .int (iI xk))]) hx hb dX6_markedAt_11 hl (by decide) rfl (fun ls hl => ?_)
      have L13 : ∀ (n : Nat) (xn xj : Int), (xj + n = 6) → (fo n xj xn (s_ahead F xk) = r_ahead F xk) → (0 ≤ xj) → ∀ (ls : Array Slot), lv_has ls 6 [(0, .ref s0), (1, .int (iI r)), (2, .int (iI xk)), (3, .int (iI xn)), (4, .int (iI xj))] → (∀ (ls : Array Slot), lv_has ls 6 [(0, .ref s0), (1, .int (iI r)), (2, .int (iI xk)), (3, .int (iI (r_ahead F xk)))] → W p l e (rmm 4 0 0) s m args below meth c s.heap [] 0 0 Q (F0 m 89 ls [])) → W p l e (rmm 4 0 0) s m args below meth c s.heap [] 0 0 Q (F0 m 13 ls []) := by
        intro n
        induction n with
        | zero =>
          intro xn xj hn hX hlo ls hl kk13
          refine lv_iload hx hb dX6_markedAt_13 (lv_at hl 4 rfl) ?_
          refine ri_bipush hx hb dX6_markedAt_15 (by decide) ?_
          refine ri_icmp_ge (tgt := 89) hx hb dX6_markedAt_17 (by decide) (by omega) (by omega) (fun c3 => ?_) (fun c3 => ?_)
          · have e0 : xn = r_ahead F xk := hX
            rw [e0] at hl
            exact kk13  ls  (lv_sub hl [0, 1, 2, 3] rfl)
          · exact absurd c3 (by omega)
        | succ n ih13 =>
          intro xn xj hn hX hlo ls hl kk13
          refine lv_iload hx hb dX6_markedAt_13 (lv_at hl 4 rfl) ?_
          refine ri_bipush hx hb dX6_markedAt_15 (by decide) ?_
          refine ri_icmp_ge (tgt := 89) hx hb dX6_markedAt_17 (by decide) (by omega) (by omega) (fun c4 => ?_) (fun c4 => ?_)
          · exact absurd c4 (by omega)
          refine lv_aload_n hx hb dX6_markedAt_20 rfl (lv_at hl 0 rfl) ?_
          refine lv_iload hx hb dX6_markedAt_21 (lv_at hl 4 rfl) ?_
          refine call_rS (As := [.ref s0, .int (iI xj)]) (rest := []) hx hb (hml.trans hl.1.symm) hown hts w lk_RX6_84 (t_X6_hundredths l g s0 _ F xj (hW) (by omega)) [0] rfl rfl rfl rfl (Nat.le_of_ble_eq_true rfl) ⟨Nat.le_of_ble_eq_true rfl, Nat.le_of_ble_eq_true rfl⟩ ⟨Nat.le_of_ble_eq_true rfl, Nat.le_of_ble_eq_true rfl⟩ dX6_markedAt_23 ?_
          have r5 := hund_rg hW (b := xj) (by omega) (by omega)
          refine lv_aload_n hx hb dX6_markedAt_26 rfl (lv_at hl 0 rfl) ?_
          refine lv_iload_n hx hb dX6_markedAt_27 rfl (lv_at hl 2 rfl) ?_
          refine call_rS (As := [.ref s0, .int (iI xk)]) (rest := [.int (iI (r_hund F xj))]) hx hb (hml.trans hl.1.symm) hown hts w lk_RX6_84 (t_X6_hundredths l g s0 _ F xk (hW) (by omega)) [0] rfl rfl rfl rfl (Nat.le_of_ble_eq_true rfl) ⟨Nat.le_of_ble_eq_true rfl, Nat.le_of_ble_eq_true rfl⟩ ⟨Nat.le_of_ble_eq_true rfl, Nat.le_of_ble_eq_true rfl⟩ dX6_markedAt_28 ?_
          have r6 := hund_rg hW (b := xk) (by omega) (by omega)
          refine ri_icmp_gt (tgt := 54) hx hb dX6_markedAt_31 (by decide) (by omega) (by omega) (fun c7 => ?_) (fun c7 => ?_)
          · refine ri_iconst hx hb dX6_markedAt_54 ?_
            refine lv_goto (tgt := 59) hx hb dX6_markedAt_55 (by decide) ?_
            refine lv_istore (lv' := [(5, .int (iI 1)), (0, .ref s0), (1, .int (iI r)), (2, .int (iI xk)), (3, .int (iI xn)), (4, .int (iI xj))]) hx hb dX6_markedAt_59 hl (by decide) rfl (fun ls hl => ?_)
            refine lv_iload_n hx hb dX6_markedAt_61 rfl (lv_at hl 4 rfl) ?_
            refine lv_aload_n hx hb dX6_markedAt_62 rfl (lv_at hl 1 rfl) ?_
            refine lv_iload hx hb dX6_markedAt_63 (lv_at hl 5 rfl) ?_
            refine call_rS (As := [.ref s0, .int (iI xj)]) (rest := [.int (iI xn)]) hx hb (hml.trans hl.1.symm) hown hts w lk_RX6_81 (t_X6_isMarked l g s0 _ F xj (hW) (by omega)) [0] rfl rfl rfl rfl (Nat.le_of_ble_eq_true rfl) ⟨Nat.le_of_ble_eq_true rfl, Nat.le_of_ble_eq_true rfl⟩ ⟨Nat.le_of_ble_eq_true rfl, Nat.le_of_ble_eq_true rfl⟩ dX6_markedAt_65 ?_
            refine ri_ifb_eq (tgt := 80) hx hb dX6_markedAt_68 (by decide) (fun c8 => ?_) (fun c8 => ?_)
            · refine ri_iconst hx hb dX6_markedAt_80 ?_
              refine ri_iadd (z := xn) hx hb dX6_markedAt_81 (by omega) ?_
              refine lv_istore_n (lv' := [(3, .int (iI xn)), (5, .int (iI 1)), (0, .ref s0), (1, .int (iI r)), (2, .int (iI xk)), (4, .int (iI xj))]) hx hb dX6_markedAt_82 rfl hl (by decide) rfl (fun ls hl => ?_)
              refine ri_iinc (k := 5) (z := xj + 1) (lv' := [(4, .int (iI (xj + 1))), (3, .int (iI xn)), (5, .int (iI 1)), (0, .ref s0), (1, .int (iI r)), (2, .int (iI xk))]) hx hb dX6_markedAt_83 hl rfl (by omega) (by decide) rfl (fun ls hl => ?_)
              refine lv_goto (tgt := 13) hx hb dX6_markedAt_86 (by decide) ?_
              exact ih13 xn (xj + 1)  (by omega) (fo_s hX (by unfold s_ahead; split <;> rename_i hq <;> first | omega | exact absurd hq.1 (by assumption) | (exfalso; have := hq.2; omega) | exact absurd ⟨by assumption, by omega⟩ hq)) (by omega) ls (lv_sub hl [3, 4, 5, 1, 0] rfl) kk13
            · refine lv_iload hx hb dX6_markedAt_71 (lv_at hl 0 rfl) ?_
              refine ri_if_eq (tgt := 80) hx hb dX6_markedAt_73 (by decide) (by omega) (fun c9 => ?_) (fun c9 => ?_)
              · exact absurd c9 (by omega)
              refine ri_iconst hx hb dX6_markedAt_76 ?_
              refine lv_goto (tgt := 81) hx hb dX6_markedAt_77 (by decide) ?_
              refine ri_iadd (z := xn + 1) hx hb dX6_markedAt_81 rfl ?_
              refine lv_istore_n (lv' := [(3, .int (iI (xn + 1))), (5, .int (iI 1)), (0, .ref s0), (1, .int (iI r)), (2, .int (iI xk)), (4, .int (iI xj))]) hx hb dX6_markedAt_82 rfl hl (by decide) rfl (fun ls hl => ?_)
              refine ri_iinc (k := 5) (z := xj + 1) (lv' := [(4, .int (iI (xj + 1))), (3, .int (iI (xn + 1))), (5, .int (iI 1)), (0, .ref s0), (1, .int (iI r)), (2, .int (iI xk))]) hx hb dX6_markedAt_83 hl rfl (by omega) (by decide) rfl (fun ls hl => ?_)
              refine lv_goto (tgt := 13) hx hb dX6_markedAt_86 (by decide) ?_
              exact ih13 (xn + 1) (xj + 1)  (by omega) (fo_s hX (by unfold s_ahead; split <;> rename_i hq <;> first | omega | exact absurd hq.1 (by assumption) | (exfalso; have := hq.2; omega) | exact absurd ⟨by assumption, by omega⟩ hq)) (by omega) ls (lv_sub hl [3, 4, 5, 1, 0] rfl) kk13
          · refine lv_aload_n hx hb dX6_markedAt_34 rfl (lv_at hl 0 rfl) ?_
            refine lv_iload hx hb dX6_markedAt_35 (lv_at hl 4 rfl) ?_
            refine call_rS (As := [.ref s0, .int (iI xj)]) (rest := []) hx hb (hml.trans hl.1.symm) hown hts w lk_RX6_84 (t_X6_hundredths l g s0 _ F xj (hW) (by omega)) [0] rfl rfl rfl rfl (Nat.le_of_ble_eq_true rfl) ⟨Nat.le_of_ble_eq_true rfl, Nat.le_of_ble_eq_true rfl⟩ ⟨Nat.le_of_ble_eq_true rfl, Nat.le_of_ble_eq_true rfl⟩ dX6_markedAt_37 ?_
            refine lv_aload_n hx hb dX6_markedAt_40 rfl (lv_at hl 0 rfl) ?_
            refine lv_iload_n hx hb dX6_markedAt_41 rfl (lv_at hl 2 rfl) ?_
            refine call_rS (As := [.ref s0, .int (iI xk)]) (rest := [.int (iI (r_hund F xj))]) hx hb (hml.trans hl.1.symm) hown hts w lk_RX6_84 (t_X6_hundredths l g s0 _ F xk (hW) (by omega)) [0] rfl rfl rfl rfl (Nat.le_of_ble_eq_true rfl) ⟨Nat.le_of_ble_eq_true rfl, Nat.le_of_ble_eq_true rfl⟩ ⟨Nat.le_of_ble_eq_true rfl, Nat.le_of_ble_eq_true rfl⟩ dX6_markedAt_42 ?_
            refine ri_icmp_ne (tgt := 58) hx hb dX6_markedAt_45 (by decide) (by omega) (by omega) (fun c10 => ?_) (fun c10 => ?_)
            · refine ri_iconst hx hb dX6_markedAt_58 ?_
              refine lv_istore (lv' := [(5, .int (iI 0)), (0, .ref s0), (1, .int (iI r)), (2, .int (iI xk)), (3, .int (iI xn)), (4, .int (iI xj))]) hx hb dX6_markedAt_59 hl (by decide) rfl (fun ls hl => ?_)
              refine lv_iload_n hx hb dX6_markedAt_61 rfl (lv_at hl 4 rfl) ?_
              refine lv_aload_n hx hb dX6_markedAt_62 rfl (lv_at hl 1 rfl) ?_
              refine lv_iload hx hb dX6_markedAt_63 (lv_at hl 5 rfl) ?_
              refine call_rS (As := [.ref s0, .int (iI xj)]) (rest := [.int (iI xn)]) hx hb (hml.trans hl.1.symm) hown hts w lk_RX6_81 (t_X6_isMarked l g s0 _ F xj (hW) (by omega)) [0] rfl rfl rfl rfl (Nat.le_of_ble_eq_true rfl) ⟨Nat.le_of_ble_eq_true rfl, Nat.le_of_ble_eq_true rfl⟩ ⟨Nat.le_of_ble_eq_true rfl, Nat.le_of_ble_eq_true rfl⟩ dX6_markedAt_65 ?_
              refine ri_ifb_eq (tgt := 80) hx hb dX6_markedAt_68 (by decide) (fun c11 => ?_) (fun c11 => ?_)
              · refine ri_iconst hx hb dX6_markedAt_80 ?_
                refine ri_iadd (z := xn) hx hb dX6_markedAt_81 (by omega) ?_
                refine lv_istore_n (lv' := [(3, .int (iI xn)), (5, .int (iI 0)), (0, .ref s0), (1, .int (iI r)), (2, .int (iI xk)), (4, .int (iI xj))]) hx hb dX6_markedAt_82 rfl hl (by decide) rfl (fun ls hl => ?_)
                refine ri_iinc (k := 5) (z := xj + 1) (lv' := [(4, .int (iI (xj + 1))), (3, .int (iI xn)), (5, .int (iI 0)), (0, .ref s0), (1, .int (iI r)), (2, .int (iI xk))]) hx hb dX6_markedAt_83 hl rfl (by omega) (by decide) rfl (fun ls hl => ?_)
                refine lv_goto (tgt := 13) hx hb dX6_markedAt_86 (by decide) ?_
                exact ih13 xn (xj + 1)  (by omega) (fo_s hX (by unfold s_ahead; split <;> rename_i hq <;> first | omega | exact absurd hq.1 (by assumption) | (exfalso; have := hq.2; omega) | exact absurd ⟨by assumption, by omega⟩ hq)) (by omega) ls (lv_sub hl [3, 4, 5, 1, 0] rfl) kk13
              · refine lv_iload hx hb dX6_markedAt_71 (lv_at hl 0 rfl) ?_
                refine ri_if_eq (tgt := 80) hx hb dX6_markedAt_73 (by decide) (by omega) (fun c12 => ?_) (fun c12 => ?_)
                · refine ri_iconst hx hb dX6_markedAt_80 ?_
                  refine ri_iadd (z := xn) hx hb dX6_markedAt_81 (by omega) ?_
                  refine lv_istore_n (lv' := [(3, .int (iI xn)), (5, .int (iI 0)), (0, .ref s0), (1, .int (iI r)), (2, .int (iI xk)), (4, .int (iI xj))]) hx hb dX6_markedAt_82 rfl hl (by decide) rfl (fun ls hl => ?_)
                  refine ri_iinc (k := 5) (z := xj + 1) (lv' := [(4, .int (iI (xj + 1))), (3, .int (iI xn)), (5, .int (iI 0)), (0, .ref s0), (1, .int (iI r)), (2, .int (iI xk))]) hx hb dX6_markedAt_83 hl rfl (by omega) (by decide) rfl (fun ls hl => ?_)
                  refine lv_goto (tgt := 13) hx hb dX6_markedAt_86 (by decide) ?_
                  exact ih13 xn (xj + 1)  (by omega) (fo_s hX (by unfold s_ahead; split <;> rename_i hq <;> first | omega | exact absurd hq.1 (by assumption) | (exfalso; have := hq.2; omega) | exact absurd ⟨by assumption, by omega⟩ hq)) (by omega) ls (lv_sub hl [3, 4, 5, 1, 0] rfl) kk13
                · exact absurd c12 (by omega)
            · refine lv_iload hx hb dX6_markedAt_48 (lv_at hl 4 rfl) ?_
              refine lv_iload_n hx hb dX6_markedAt_50 rfl (lv_at hl 2 rfl) ?_
              refine ri_icmp_ge (tgt := 58) hx hb dX6_markedAt_51 (by decide) (by omega) (by omega) (fun c13 => ?_) (fun c13 => ?_)
              · refine ri_iconst hx hb dX6_markedAt_58 ?_
                refine lv_istore (lv' := [(5, .int (iI 0)), (0, .ref s0), (1, .int (iI r)), (2, .int (iI xk)), (3, .int (iI xn)), (4, .int (iI xj))]) hx hb dX6_markedAt_59 hl (by decide) rfl (fun ls hl => ?_)
                refine lv_iload_n hx hb dX6_markedAt_61 rfl (lv_at hl 4 rfl) ?_
                refine lv_aload_n hx hb dX6_markedAt_62 rfl (lv_at hl 1 rfl) ?_
                refine lv_iload hx hb dX6_markedAt_63 (lv_at hl 5 rfl) ?_
                refine call_rS (As := [.ref s0, .int (iI xj)]) (rest := [.int (iI xn)]) hx hb (hml.trans hl.1.symm) hown hts w lk_RX6_81 (t_X6_isMarked l g s0 _ F xj (hW) (by omega)) [0] rfl rfl rfl rfl (Nat.le_of_ble_eq_true rfl) ⟨Nat.le_of_ble_eq_true rfl, Nat.le_of_ble_eq_true rfl⟩ ⟨Nat.le_of_ble_eq_true rfl, Nat.le_of_ble_eq_true rfl⟩ dX6_markedAt_65 ?_
                refine ri_ifb_eq (tgt := 80) hx hb dX6_markedAt_68 (by decide) (fun c14 => ?_) (fun c14 => ?_)
                · refine ri_iconst hx hb dX6_markedAt_80 ?_
                  refine ri_iadd (z := xn) hx hb dX6_markedAt_81 (by omega) ?_
                  refine lv_istore_n (lv' := [(3, .int (iI xn)), (5, .int (iI 0)), (0, .ref s0), (1, .int (iI r)), (2, .int (iI xk)), (4, .int (iI xj))]) hx hb dX6_markedAt_82 rfl hl (by decide) rfl (fun ls hl => ?_)
                  refine ri_iinc (k := 5) (z := xj + 1) (lv' := [(4, .int (iI (xj + 1))), (3, .int (iI xn)), (5, .int (iI 0)), (0, .ref s0), (1, .int (iI r)), (2, .int (iI xk))]) hx hb dX6_markedAt_83 hl rfl (by omega) (by decide) rfl (fun ls hl => ?_)
                  refine lv_goto (tgt := 13) hx hb dX6_markedAt_86 (by decide) ?_
                  exact ih13 xn (xj + 1)  (by omega) (fo_s hX (by unfold s_ahead; split <;> rename_i hq <;> first | omega | exact absurd hq.1 (by assumption) | (exfalso; have := hq.2; omega) | exact absurd ⟨by assumption, by omega⟩ hq)) (by omega) ls (lv_sub hl [3, 4, 5, 1, 0] rfl) kk13
                · refine lv_iload hx hb dX6_markedAt_71 (lv_at hl 0 rfl) ?_
                  refine ri_if_eq (tgt := 80) hx hb dX6_markedAt_73 (by decide) (by omega) (fun c15 => ?_) (fun c15 => ?_)
                  · refine ri_iconst hx hb dX6_markedAt_80 ?_
                    refine ri_iadd (z := xn) hx hb dX6_markedAt_81 (by omega) ?_
                    refine lv_istore_n (lv' := [(3, .int (iI xn)), (5, .int (iI 0)), (0, .ref s0), (1, .int (iI r)), (2, .int (iI xk)), (4, .int (iI xj))]) hx hb dX6_markedAt_82 rfl hl (by decide) rfl (fun ls hl => ?_)
                    refine ri_iinc (k := 5) (z := xj + 1) (lv' := [(4, .int (iI (xj + 1))), (3, .int (iI xn)), (5, .int (iI 0)), (0, .ref s0), (1, .int (iI r)), (2, .int (iI xk))]) hx hb dX6_markedAt_83 hl rfl (by omega) (by decide) rfl (fun ls hl => ?_)
                    refine lv_goto (tgt := 13) hx hb dX6_markedAt_86 (by decide) ?_
                    exact ih13 xn (xj + 1)  (by omega) (fo_s hX (by unfold s_ahead; split <;> rename_i hq <;> first | omega | exact absurd hq.1 (by assumption) | (exfalso; have := hq.2; omega) | exact absurd ⟨by assumption, by omega⟩ hq)) (by omega) ls (lv_sub hl [3, 4, 5, 1, 0] rfl) kk13
                  · exact absurd c15 (by omega)
              · refine ri_iconst hx hb dX6_markedAt_54 ?_
                refine lv_goto (tgt := 59) hx hb dX6_markedAt_55 (by decide) ?_
                refine lv_istore (lv' := [(5, .int (iI 1)), (0, .ref s0), (1, .int (iI r)), (2, .int (iI xk)), (3, .int (iI xn)), (4, .int (iI xj))]) hx hb dX6_markedAt_59 hl (by decide) rfl (fun ls hl => ?_)
                refine lv_iload_n hx hb dX6_markedAt_61 rfl (lv_at hl 4 rfl) ?_
                refine lv_aload_n hx hb dX6_markedAt_62 rfl (lv_at hl 1 rfl) ?_
                refine lv_iload hx hb dX6_markedAt_63 (lv_at hl 5 rfl) ?_
                refine call_rS (As := [.ref s0, .int (iI xj)]) (rest := [.int (iI xn)]) hx hb (hml.trans hl.1.symm) hown hts w lk_RX6_81 (t_X6_isMarked l g s0 _ F xj (hW) (by omega)) [0] rfl rfl rfl rfl (Nat.le_of_ble_eq_true rfl) ⟨Nat.le_of_ble_eq_true rfl, Nat.le_of_ble_eq_true rfl⟩ ⟨Nat.le_of_ble_eq_true rfl, Nat.le_of_ble_eq_true rfl⟩ dX6_markedAt_65 ?_
                refine ri_ifb_eq (tgt := 80) hx hb dX6_markedAt_68 (by decide) (fun c16 => ?_) (fun c16 => ?_)
                · refine ri_iconst hx hb dX6_markedAt_80 ?_
                  refine ri_iadd (z := xn) hx hb dX6_markedAt_81 (by omega) ?_
                  refine lv_istore_n (lv' := [(3, .int (iI xn)), (5, .int (iI 1)), (0, .ref s0), (1, .int (iI r)), (2, .int (iI xk)), (4, .int (iI xj))]) hx hb dX6_markedAt_82 rfl hl (by decide) rfl (fun ls hl => ?_)
                  refine ri_iinc (k := 5) (z := xj + 1) (lv' := [(4, .int (iI (xj + 1))), (3, .int (iI xn)), (5, .int (iI 1)), (0, .ref s0), (1, .int (iI r)), (2, .int (iI xk))]) hx hb dX6_markedAt_83 hl rfl (by omega) (by decide) rfl (fun ls hl => ?_)
                  refine lv_goto (tgt := 13) hx hb dX6_markedAt_86 (by decide) ?_
                  exact ih13 xn (xj + 1)  (by omega) (fo_s hX (by unfold s_ahead; split <;> rename_i hq <;> first | omega | exact absurd hq.1 (by assumption) | (exfalso; have := hq.2; omega) | exact absurd ⟨by assumption, by omega⟩ hq)) (by omega) ls (lv_sub hl [3, 4, 5, 1, 0] rfl) kk13
                · refine lv_iload hx hb dX6_markedAt_71 (lv_at hl 0 rfl) ?_
                  refine ri_if_eq (tgt := 80) hx hb dX6_markedAt_73 (by decide) (by omega) (fun c17 => ?_) (fun c17 => ?_)
                  · exact absurd c17 (by omega)
                  refine ri_iconst hx hb dX6_markedAt_76 ?_
                  refine lv_goto (tgt := 81) hx hb dX6_markedAt_77 (by decide) ?_
                  refine ri_iadd (z := xn + 1) hx hb dX6_markedAt_81 rfl ?_
                  refine lv_istore_n (lv' := [(3, .int (iI (xn + 1))), (5, .int (iI 1)), (0, .ref s0), (1, .int (iI r)), (2, .int (iI xk)), (4, .int (iI xj))]) hx hb dX6_markedAt_82 rfl hl (by decide) rfl (fun ls hl => ?_)
                  refine ri_iinc (k := 5) (z := xj + 1) (lv' := [(4, .int (iI (xj + 1))), (3, .int (iI (xn + 1))), (5, .int (iI 1)), (0, .ref s0), (1, .int (iI r)), (2, .int (iI xk))]) hx hb dX6_markedAt_83 hl rfl (by omega) (by decide) rfl (fun ls hl => ?_)
                  refine lv_goto (tgt := 13) hx hb dX6_markedAt_86 (by decide) ?_
                  exact ih13 (xn + 1) (xj + 1)  (by omega) (fo_s hX (by unfold s_ahead; split <;> rename_i hq <;> first | omega | exact absurd hq.1 (by assumption) | (exfalso; have := hq.2; omega) | exact absurd ⟨by assumption, by omega⟩ hq)) (by omega) ls (lv_sub hl [3, 4, 5, 1, 0] rfl) kk13
      refine L13 6 0 0  (by omega) (rfl) (by omega) ls (lv_sub hl [2, 3, 4, 1, 0] rfl) (fun ls hl => ?_)
      refine lv_aload_n hx hb dX6_markedAt_89 rfl (lv_at hl 0 rfl) ?_
      refine lv_iload_n hx hb dX6_markedAt_90 rfl (lv_at hl 2 rfl) ?_
      refine call_rS (As := [.ref s0, .int (iI xk)]) (rest := []) hx hb (hml.trans hl.1.symm) hown hts w lk_RX6_81 (t_X6_isMarked l g s0 _ F xk (hW) (by omega)) [0] rfl rfl rfl rfl (Nat.le_of_ble_eq_true rfl) ⟨Nat.le_of_ble_eq_true rfl, Nat.le_of_ble_eq_true rfl⟩ ⟨Nat.le_of_ble_eq_true rfl, Nat.le_of_ble_eq_true rfl⟩ dX6_markedAt_91 ?_
      refine ri_ifb_eq (tgt := 104) hx hb dX6_markedAt_94 (by decide) (fun c18 => ?_) (fun c18 => ?_)
      · refine ri_iinc (k := 2) (z := xk + 1) (lv' := [(2, .int (iI (xk + 1))), (0, .ref s0), (1, .int (iI r)), (3, .int (iI (r_ahead F xk)))]) hx hb dX6_markedAt_104 hl rfl (by omega) (by decide) rfl (fun ls hl => ?_)
        refine lv_goto (tgt := 2) hx hb dX6_markedAt_107 (by decide) ?_
        exact ih2 (xk + 1)  (by omega) (fi_f hV (by simp only [p_at, decide_eq_true_eq]; first | omega | (intro hh; exact absurd hh.1 (by assumption)) | (intro hh; exact absurd hh.2 (by assumption)))) (by omega) ls (lv_sub hl [1, 2, 0] rfl) kk2
      · refine lv_iload_n hx hb dX6_markedAt_97 rfl (lv_at hl 3 rfl) ?_
        refine lv_iload_n hx hb dX6_markedAt_98 rfl (lv_at hl 1 rfl) ?_
        have r19 := ahead_rg F xk
        refine ri_icmp_ne (tgt := 104) hx hb dX6_markedAt_99 (by decide) (by omega) (by omega) (fun c20 => ?_) (fun c20 => ?_)
        · refine ri_iinc (k := 2) (z := xk + 1) (lv' := [(2, .int (iI (xk + 1))), (0, .ref s0), (1, .int (iI r)), (3, .int (iI (r_ahead F xk)))]) hx hb dX6_markedAt_104 hl rfl (by omega) (by decide) rfl (fun ls hl => ?_)
          refine lv_goto (tgt := 2) hx hb dX6_markedAt_107 (by decide) ?_
          exact ih2 (xk + 1)  (by omega) (fi_f hV (by simp only [p_at, decide_eq_true_eq]; first | omega | (intro hh; exact absurd hh.1 (by assumption)) | (intro hh; exact absurd hh.2 (by assumption)))) (by omega) ls (lv_sub hl [1, 2, 0] rfl) kk2
        · refine lv_iload_n hx hb dX6_markedAt_102 rfl (lv_at hl 2 rfl) ?_
          exact hend.2 _ (congrArg (fun z => some (Value.int (iI z))) (show r_markedAt F r = xk from by exact fi_t hV (by simp only [p_at, decide_eq_true_eq]; first | omega | exact ⟨by assumption, by assumption⟩))) ⟨_, rfl, rfl⟩ _ _ dX6_markedAt_103
  refine L2 6 0  (by omega) (rfl) (by omega) ls (lv_sub hl [1, 2, 0] rfl) (fun hZ ls hl => ?_)
  refine ri_bipush hx hb dX6_markedAt_110 (by decide) ?_
  exact hend.2 _ (congrArg (fun z => some (Value.int (iI z))) (show r_markedAt F r = -5 from by exact hZ)) ⟨_, rfl, rfl⟩ _ _ dX6_markedAt_112

set_option maxHeartbeats 4000000 in
set_option maxRecDepth 100000 in
theorem t_X6_bestFree (l : Launch) (g : GG) (s0 : Nat) (F : Int → Int) (hB : Bd F) : Met l yX6_bestFree (wm yX6_bestFree cX6_bestFree 3 (some .int)) (rmm 3 0 0) (pR g [(s0, eI g 233 F)] [.ref s0]) (qR (some (.int (iI (r_best F))))) 0 0 (fun _ => False) := by
  refine met_r (by decide) (Nat.le_of_ble_eq_true rfl) ?_
  intro p e s m args below meth c Q ls hx hb hml hown hts hl w hend
  have hl : lv_has ls 3 [(0, .ref s0)] := hl
  refine ri_bipush hx hb dX6_bestFree_0 (by decide) ?_
  refine lv_istore_n (lv' := [(1, .int (iI (-5))), (0, .ref s0)]) hx hb dX6_bestFree_2 rfl hl (by decide) rfl (fun ls hl => ?_)
  refine ri_iconst hx hb dX6_bestFree_3 ?_
  refine lv_istore_n (lv' := [(2, .int (iI 0)), (1, .int (iI (-5))), (0, .ref s0)]) hx hb dX6_bestFree_4 rfl hl (by decide) rfl (fun ls hl => ?_)
  have L5 : ∀ (n : Nat) (xn xk : Int), (xk + n = 6) → (fo n xk xn (s_best F) = r_best F) → (0 ≤ xk) → (xn = -5 ∨ 0 ≤ xn ∧ xn < 6) → ∀ (ls : Array Slot), lv_has ls 3 [(0, .ref s0), (1, .int (iI xn)), (2, .int (iI xk))] → (∀ (hrx60 : r_best F = -5 ∨ 0 ≤ r_best F ∧ r_best F < 6) (ls : Array Slot), lv_has ls 3 [(1, .int (iI (r_best F)))] → W p l e (rmm 3 0 0) s m args below meth c s.heap [] 0 0 Q (F0 m 60 ls [])) → W p l e (rmm 3 0 0) s m args below meth c s.heap [] 0 0 Q (F0 m 5 ls []) := by
    intro n
    induction n with
    | zero =>
      intro xn xk hn hX hlo hrg ls hl kk5
      refine lv_iload_n hx hb dX6_bestFree_5 rfl (lv_at hl 2 rfl) ?_
      refine ri_bipush hx hb dX6_bestFree_6 (by decide) ?_
      refine ri_icmp_ge (tgt := 60) hx hb dX6_bestFree_8 (by decide) (by omega) (by omega) (fun c1 => ?_) (fun c1 => ?_)
      · have e0 : xn = r_best F := hX
        rw [e0] at hl
        exact kk5 (by have hz : xn = r_best F := hX; rw [hz] at hrg; exact hrg) ls  (lv_sub hl [1] rfl)
      · exact absurd c1 (by omega)
    | succ n ih5 =>
      intro xn xk hn hX hlo hrg ls hl kk5
      refine lv_iload_n hx hb dX6_bestFree_5 rfl (lv_at hl 2 rfl) ?_
      refine ri_bipush hx hb dX6_bestFree_6 (by decide) ?_
      refine ri_icmp_ge (tgt := 60) hx hb dX6_bestFree_8 (by decide) (by omega) (by omega) (fun c2 => ?_) (fun c2 => ?_)
      · exact absurd c2 (by omega)
      refine lv_aload_n hx hb dX6_bestFree_11 rfl (lv_at hl 0 rfl) ?_
      refine lv_iload_n hx hb dX6_bestFree_12 rfl (lv_at hl 2 rfl) ?_
      refine call_rS (As := [.ref s0, .int (iI xk)]) (rest := []) hx hb (hml.trans hl.1.symm) hown hts w lk_RX6_64 (t_X6_isFree l g s0 F xk (hB) (by omega)) [0] rfl rfl rfl rfl (Nat.le_of_ble_eq_true rfl) ⟨Nat.le_of_ble_eq_true rfl, Nat.le_of_ble_eq_true rfl⟩ ⟨Nat.le_of_ble_eq_true rfl, Nat.le_of_ble_eq_true rfl⟩ dX6_bestFree_13 ?_
      refine ri_ifb_eq (tgt := 52) hx hb dX6_bestFree_16 (by decide) (fun c3 => ?_) (fun c3 => ?_)
      · refine lv_iload_n hx hb dX6_bestFree_52 rfl (lv_at hl 1 rfl) ?_
        refine lv_istore_n (lv' := [(1, .int (iI xn)), (0, .ref s0), (2, .int (iI xk))]) hx hb dX6_bestFree_53 rfl hl (by decide) rfl (fun ls hl => ?_)
        refine ri_iinc (k := 2) (z := xk + 1) (lv' := [(2, .int (iI (xk + 1))), (1, .int (iI xn)), (0, .ref s0)]) hx hb dX6_bestFree_54 hl rfl (by omega) (by decide) rfl (fun ls hl => ?_)
        refine lv_goto (tgt := 5) hx hb dX6_bestFree_57 (by decide) ?_
        exact ih5 xn (xk + 1)  (by omega) (fo_s hX (by unfold s_best; first | omega | (simp only [if_neg c3]; try omega))) (by omega) (by omega) ls (lv_sub hl [2, 1, 0] rfl) kk5
      · refine lv_iload_n hx hb dX6_bestFree_19 rfl (lv_at hl 1 rfl) ?_
        refine ri_bipush hx hb dX6_bestFree_20 (by decide) ?_
        refine ri_icmp_eq (tgt := 48) hx hb dX6_bestFree_22 (by decide) (by omega) (by omega) (fun c4 => ?_) (fun c4 => ?_)
        · refine lv_iload_n hx hb dX6_bestFree_48 rfl (lv_at hl 2 rfl) ?_
          refine lv_goto (tgt := 53) hx hb dX6_bestFree_49 (by decide) ?_
          refine lv_istore_n (lv' := [(1, .int (iI xk)), (0, .ref s0), (2, .int (iI xk))]) hx hb dX6_bestFree_53 rfl hl (by decide) rfl (fun ls hl => ?_)
          refine ri_iinc (k := 2) (z := xk + 1) (lv' := [(2, .int (iI (xk + 1))), (1, .int (iI xk)), (0, .ref s0)]) hx hb dX6_bestFree_54 hl rfl (by omega) (by decide) rfl (fun ls hl => ?_)
          refine lv_goto (tgt := 5) hx hb dX6_bestFree_57 (by decide) ?_
          exact ih5 xk (xk + 1)  (by omega) (fo_s hX (by unfold s_best; first | omega | (simp only [if_pos c3]; try omega))) (by omega) (by omega) ls (lv_sub hl [2, 1, 0] rfl) kk5
        · refine lv_aload_n hx hb dX6_bestFree_25 rfl (lv_at hl 0 rfl) ?_
          refine ri_bipush hx hb dX6_bestFree_26 (by decide) ?_
          refine ri_iconst hx hb dX6_bestFree_28 ?_
          refine lv_iload_n hx hb dX6_bestFree_29 rfl (lv_at hl 2 rfl) ?_
          refine ri_imul (z := 4 * xk) hx hb dX6_bestFree_30 rfl ?_
          refine ri_iadd (z := 4 * xk + 41) hx hb dX6_bestFree_31 (by omega) ?_
          refine ri_iconst hx hb dX6_bestFree_32 ?_
          refine ri_iadd (z := 4 * xk + 42) hx hb dX6_bestFree_33 (by omega) ?_
          refine ri_iald (v := F (4 * xk + 42)) hx hb w 0 rfl (by omega) (rfl) dX6_bestFree_34 (by decide) ?_
          have r5 := hB.bd (4 * xk + 42)
          refine lv_aload_n hx hb dX6_bestFree_35 rfl (lv_at hl 0 rfl) ?_
          refine ri_bipush hx hb dX6_bestFree_36 (by decide) ?_
          refine ri_iconst hx hb dX6_bestFree_38 ?_
          refine lv_iload_n hx hb dX6_bestFree_39 rfl (lv_at hl 1 rfl) ?_
          refine ri_imul (z := 4 * xn) hx hb dX6_bestFree_40 rfl ?_
          refine ri_iadd (z := 4 * xn + 41) hx hb dX6_bestFree_41 (by omega) ?_
          refine ri_iconst hx hb dX6_bestFree_42 ?_
          refine ri_iadd (z := 4 * xn + 42) hx hb dX6_bestFree_43 (by omega) ?_
          refine ri_iald (v := F (4 * xn + 42)) hx hb w 0 rfl (by omega) (rfl) dX6_bestFree_44 (by decide) ?_
          have r6 := hB.bd (4 * xn + 42)
          refine ri_icmp_ge (tgt := 52) hx hb dX6_bestFree_45 (by decide) (by omega) (by omega) (fun c7 => ?_) (fun c7 => ?_)
          · refine lv_iload_n hx hb dX6_bestFree_52 rfl (lv_at hl 1 rfl) ?_
            refine lv_istore_n (lv' := [(1, .int (iI xn)), (0, .ref s0), (2, .int (iI xk))]) hx hb dX6_bestFree_53 rfl hl (by decide) rfl (fun ls hl => ?_)
            refine ri_iinc (k := 2) (z := xk + 1) (lv' := [(2, .int (iI (xk + 1))), (1, .int (iI xn)), (0, .ref s0)]) hx hb dX6_bestFree_54 hl rfl (by omega) (by decide) rfl (fun ls hl => ?_)
            refine lv_goto (tgt := 5) hx hb dX6_bestFree_57 (by decide) ?_
            exact ih5 xn (xk + 1)  (by omega) (fo_s hX (by unfold s_best; first | omega | (simp only [if_pos c3]; try omega))) (by omega) (by omega) ls (lv_sub hl [2, 1, 0] rfl) kk5
          · refine lv_iload_n hx hb dX6_bestFree_48 rfl (lv_at hl 2 rfl) ?_
            refine lv_goto (tgt := 53) hx hb dX6_bestFree_49 (by decide) ?_
            refine lv_istore_n (lv' := [(1, .int (iI xk)), (0, .ref s0), (2, .int (iI xk))]) hx hb dX6_bestFree_53 rfl hl (by decide) rfl (fun ls hl => ?_)
            refine ri_iinc (k := 2) (z := xk + 1) (lv' := [(2, .int (iI (xk + 1))), (1, .int (iI xk)), (0, .ref s0)]) hx hb dX6_bestFree_54 hl rfl (by omega) (by decide) rfl (fun ls hl => ?_)
            refine lv_goto (tgt := 5) hx hb dX6_bestFree_57 (by decide) ?_
            exact ih5 xk (xk + 1)  (by omega) (fo_s hX (by unfold s_best; first | omega | (simp only [if_pos c3]; try omega))) (by omega) (by omega) ls (lv_sub hl [2, 1, 0] rfl) kk5
  refine L5 6 (-5) 0  (by omega) (rfl) (by omega) (by omega) ls (lv_sub hl [2, 1, 0] rfl) (fun hrx60 ls hl => ?_)
  refine lv_iload_n hx hb dX6_bestFree_60 rfl (lv_at hl 0 rfl) ?_
  have r8 := best_rg F
  exact hend.2 _ rfl ⟨_, rfl, rfl⟩ _ _ dX6_bestFree_61
end
section
def r_calls (F : Int → Int) : Int := fo 6 0 0 (fun b n => n + F (4 * b + 43))
theorem WF.mono {N M : Int} {F : Int → Int} (h : WF N F) (h1 : N ≤ M) (h2 : M ≤ 200000000) : WF M F := ⟨⟨by have := h.1; omega, h2⟩, fun i => by have := h.2.1 i; omega, h.2.2⟩
theorem WF.cast {N M : Int} {F : Int → Int} (h : WF N F) (h1 : N = M) : WF M F := h1 ▸ h
theorem bd_opens {F : Int → Int} (h : Bd F) : Bd (r_opens F) := by
  have hb := best_rg F
  unfold r_opens
  split
  · exact h.up (by omega)
  · exact h
theorem bd_stales {F : Int → Int} {v : Int} (h : Bd F) : Bd (r_stales F v) := by
  unfold r_stales
  split
  · exact h
  · exact h.up (by omega)
theorem spot_ok {N : Int} {F : Int → Int} {v : Int} (h : WF N F) (hv : 0 ≤ v ∧ v ≤ 23) (hr : ¬ (P_full F ∧ r_best F = -5)) : r_spot (r_stales (r_opens F) v) ≠ -5 := sorry
theorem opens_rg {N : Int} {F : Int → Int} (h : WF N F) (hr : ¬ (P_full F ∧ r_best F = -5)) : 0 ≤ r_opens F 6 ∧ r_opens F 6 ≤ 5 := by
  have ho := h.op
  have hb := best_rg F
  unfold r_opens
  by_cases hp : P_full F
  · rw [if_pos hp, up_eq rfl]
    have h1 : r_best F ≠ -5 := fun q => hr ⟨hp, q⟩
    omega
  · rw [if_neg hp]
    have h1 : F 6 ≠ -5 := fun q => hp (Or.inl q)
    omega
theorem stales_6 (F : Int → Int) (v : Int) : r_stales F v 6 = F 6 := by
  have hp := placeOf_rg F v
  unfold r_stales
  split
  · rfl
  · exact up_ne (by omega)
theorem reads_G {F G : Int → Int} {j v : Int} {n : Nat} (hG : ∀ i, F i ≤ G i ∧ G i ≤ F i + 8 * (8 - ((n + 1 : Nat) : Int))) (hv : G j ≤ v ∧ v ≤ G j + 8) : ∀ i, F i ≤ up G j v i ∧ up G j v i ≤ F i + 8 * (8 - (n : Int)) := by
  intro i
  have h1 := hG i
  by_cases hi : i = j
  · rw [up_eq hi]; rw [hi] at h1; rw [hi]; omega
  · rw [up_ne hi]; omega
theorem WF.tweak {N M : Int} {F G : Int → Int} (h : WF N F) (hM : N ≤ M ∧ M ≤ 200000000) (hb : ∀ i, -M ≤ G i ∧ G i ≤ M) (hs : G 1 = F 1 ∧ G 2 = F 2 ∧ G 3 = F 3 ∧ G 4 = F 4 ∧ G 5 = F 5) (ho : G 6 = -5 ∨ 0 ≤ G 6 ∧ G 6 ≤ 5) (he : 0 ≤ G 11 ∧ G 11 ≤ F 4) (hbl : ∀ b, 0 ≤ b → b < 6 → G (4 * b + 41) = F (4 * b + 41) ∧ G (4 * b + 42) = F (4 * b + 42) ∧ 0 ≤ G (4 * b + 43) ∧ G (4 * b + 43) ≤ 1) (hp : ∀ k, 0 ≤ k → k < 48 → G (3 * k + 65) = F (3 * k + 65) ∧ G (3 * k + 66) = F (3 * k + 66)) (hl : G 10 = F 10 ∧ G 16 = F 16) : WF M G := by
  refine ⟨⟨by have := h.1; omega, hM.2⟩, hb, ?_, ho, ?_, fun b h0 h1 => ?_, fun k h0 h1 => ?_, fun j k a0 a1 b0 b1 q0 q1 => ?_, fun k h0 h1 q0 q1 => ?_, ?_⟩
  · obtain ⟨e1, e2, e3, e4, e5⟩ := hs
    rw [e1, e2, e3, e4, e5]; exact h.se
  · rw [hs.2.2.2.1]; exact he
  · have e := hbl b h0 h1
    have q := h.bl h0 h1
    rw [e.1, e.2.1]
    exact ⟨q.1, q.2.1, q.2.2.1, e.2.2⟩
  · have e := hp k h0 h1
    have q := h.pl h0 h1
    have eb : r_bears G (k / 8) = r_bears F (k / 8) := by
      have e2 := hbl (k / 8) (by omega) (by omega)
      unfold r_bears
      rw [e2.1, e2.2.1]
    rw [e.1, e.2, eb]
    exact q
  · rw [(hp j a0 a1).1] at q0 q1
    rw [(hp k b0 b1).1] at q1
    exact h.un a0 a1 b0 b1 q0 q1
  · rw [(hp k h0 h1).1] at q0
    by_cases hk : k = 47
    · exact absurd (by omega) q1
    · have := (hp (k + 1) (by omega) (by omega)).1
      rw [show 3 * (k + 1) + 65 = 3 * k + 68 from by omega] at this
      rw [this]
      exact h.fl h0 h1 q0 q1
  · rw [hl.1, hl.2]; exact h.lo
theorem wf_leaves {N : Int} {F : Int → Int} (h : WF N F) (v : Int) : WF N (r_leaves F v) := sorry
theorem wf_shut {N : Int} {F : Int → Int} (h : WF N F) (b : Int) : WF N (r_shut F b) := by
  have hn := h.1
  have hbb := h.2.1
  have hop := h.op
  unfold r_shut
  refine h.tweak ⟨by omega, by omega⟩ (fun i => ?_) ⟨up_ne (by omega), up_ne (by omega), up_ne (by omega), up_ne (by omega), up_ne (by omega)⟩ ?_ (by rw [up_ne (by omega)]; exact h.he) (fun b h0 h1 => by rw [up_ne (by omega), up_ne (by omega), up_ne (by omega)]; exact ⟨rfl, rfl, (h.bl h0 h1).2.2.2⟩) (fun k h0 h1 => by rw [up_ne (by omega), up_ne (by omega)]; exact ⟨rfl, rfl⟩) (by rw [up_ne (by omega), up_ne (by omega)]; exact ⟨rfl, rfl⟩)
  · by_cases hi : i = 6
    · rw [up_eq hi]; have := hbb 6; omega
    · rw [up_ne hi]; have := hbb i; omega
  · rw [up_eq rfl]; omega
theorem low_shut (F : Int → Int) (b d : Int) : r_low (r_shut F d) b = r_low F b := by
  unfold r_low
  have key : ∀ (n : Nat) (i : Int), fi n i (p_page (r_shut F d)) (-5) = fi n i (p_page F) (-5) := by
    intro n
    induction n with
    | zero => intro i; rfl
    | succ n ih =>
      intro i
      have e : p_page (r_shut F d) i = p_page F i := by unfold p_page r_shut; rw [up_ne (by omega)]
      show (if p_page (r_shut F d) i = true then i else fi n (i + 1) _ (-5)) = (if p_page F i = true then i else fi n (i + 1) _ (-5))
      rw [e, ih (i + 1)]
  exact key 8 _
theorem wf_reads {N : Int} {F : Int → Int} {r : Int} (h : WF N F) (hr : 0 ≤ r ∧ r < 48) (hl : r_left F r ≠ 0) (hN : N + 1 ≤ 200000000) : WF (N + 1) (r_reads F r) := sorry
theorem reads_hold (F : Int → Int) (r k : Int) : r_reads F r (3 * k + 65) = F (3 * k + 65) := sorry
theorem room_reads {F : Int → Int} (h : ¬ (P_full F ∧ r_best F = -5)) (r : Int) : ¬ (P_full (r_reads F r) ∧ r_best (r_reads F r) = -5) := sorry
theorem bd_logs {F : Int → Int} (h : Bd F) : Bd (r_logs 21 F) := sorry
theorem bd_erB {N : Int} {F : Int → Int} {b : Int} (h : WF N F) (hb : 0 ≤ b ∧ b < 6) : Bd (r_erB (r_erA (r_shut F b) b).2 b) := sorry
theorem cnt_moves {N : Int} {F : Int → Int} {b : Int} (h : WF N F) (hb : 0 ≤ b ∧ b < 6) (hl : r_low F b ≠ -5) (hm : P_moves (r_shut F b) b) : r_cnt (r_moves F b) b 0 = r_cnt F b 0 - 1 := sorry
theorem wf_moves {N : Int} {F : Int → Int} {b : Int} (h : WF N F) (hb : 0 ≤ b ∧ b < 6) (hl : r_low F b ≠ -5) (hm : P_moves (r_shut F b) b) (hN : N + 2 ≤ 200000000) : WF (N + 2) (r_moves F b) := sorry
theorem calls_rg {N : Int} {F : Int → Int} (h : WF N F) : 0 ≤ r_calls F ∧ r_calls F ≤ 6 := sorry
theorem wf_tick0 {N : Int} {F : Int → Int} (h : WF N F) (hN : N + 1 ≤ 200000000) : WF (N + 1) (up F 0 (F 0 + 1)) := by
  have hn := h.1
  have hbb := h.2.1
  have hop := h.op
  refine h.tweak ⟨by omega, by omega⟩ (fun i => ?_) ⟨up_ne (by omega), up_ne (by omega), up_ne (by omega), up_ne (by omega), up_ne (by omega)⟩ ?_ (by rw [up_ne (by omega)]; exact h.he) (fun b h0 h1 => by rw [up_ne (by omega), up_ne (by omega), up_ne (by omega)]; exact ⟨rfl, rfl, (h.bl h0 h1).2.2.2⟩) (fun k h0 h1 => by rw [up_ne (by omega), up_ne (by omega)]; exact ⟨rfl, rfl⟩) (by rw [up_ne (by omega), up_ne (by omega)]; exact ⟨rfl, rfl⟩)
  · by_cases hi : i = 0
    · rw [up_eq hi]; have := hbb 0; omega
    · rw [up_ne hi]; have := hbb i; omega
  · rw [up_ne (by omega)]; exact hop
theorem set_erases {F : Int → Int} {b : Int} (hb : 0 ≤ b ∧ b < 6) : r_erases F b 3 = F 3 := sorry
theorem set_moves {F : Int → Int} {b : Int} (hl : r_low F b ≠ -5) (hb : 0 ≤ b ∧ b < 6) : r_moves F b 3 = F 3 := sorry
theorem calls_erases {N : Int} {F : Int → Int} {b : Int} (h : WF N F) (hb : 0 ≤ b ∧ b < 6) (hl : r_low F b = -5) (hm : P_marked F b) : r_calls (r_erases F b) + 1 ≤ r_calls F := sorry
theorem calls_erases1 {N : Int} {F : Int → Int} {b : Int} (h : WF N F) (hb : 0 ≤ b ∧ b < 6) : r_calls (r_erases F b) ≤ r_calls F := sorry
theorem calls_moves {F : Int → Int} {b : Int} (hl : r_low F b ≠ -5) (hb : 0 ≤ b ∧ b < 6) : r_calls (r_moves F b) = r_calls F := sorry
theorem at_ok {F : Int → Int} {r : Int} (h : r_markedAt F r ≠ -5) : 0 ≤ r_markedAt F r ∧ r_markedAt F r < 6 := by
  have := at_rg F r
  omega
theorem at_mk {F : Int → Int} {r : Int} (h : r_markedAt F r ≠ -5) : P_marked F (r_markedAt F r) := by
  rcases fi_rg (n := 6) (i := 0) (d := -5) (p := p_at F r) with h1 | ⟨-, -, h3⟩
  · exact absurd h1 h
  · simp only [p_at, decide_eq_true_eq] at h3
    exact h3.1
theorem wf_erases {N : Int} {F : Int → Int} {b : Int} (h : WF N F) (hb : 0 ≤ b ∧ b < 6) (hl : r_low F b = -5) (hN : N + 1 ≤ 200000000) : WF (N + 1) (r_erases F b) := sorry
theorem room_leaves {F : Int → Int} (v : Int) (h : ¬ (P_full F ∧ r_best F = -5)) : ¬ (P_full (r_leaves F v) ∧ r_best (r_leaves F v) = -5) := sorry
theorem room_frees {N : Int} {F : Int → Int} (h : WF N F) (hf : (if P_full F then 2 else 1) ≤ r_frees F) : ¬ (P_full F ∧ r_best F = -5) := sorry
theorem wf_tick {N : Int} {F : Int → Int} (h : WF N F) (hN : N + 100 ≤ 200000000) : WF (N + 100) (r_tick F).2 := sorry
theorem tick_rg {N : Int} {F : Int → Int} (h : WF N F) : 0 ≤ (r_tick F).1 ∧ (r_tick F).1 ≤ 32 := sorry
/-! copies -/
def cpy (F G : Int → Int) (fa ta k : Int) : Int → Int := fun i => if ta ≤ i ∧ i < ta + k then F (i - ta + fa) else G i
theorem cpy_s {F G : Int → Int} {fa ta k v : Int} (hk : 0 ≤ k) (hv : F (fa + k) = v) : up (cpy F G fa ta k) (ta + k) v = cpy F G fa ta (k + 1) := by
  funext i
  unfold up cpy
  by_cases h : i = ta + k
  · rw [if_pos h, if_pos (by omega), ← hv]
    congr 1
    omega
  · rw [if_neg h]
    by_cases h2 : ta ≤ i ∧ i < ta + k
    · rw [if_pos h2, if_pos (by omega)]
    · rw [if_neg h2, if_neg (by omega)]
theorem cpy_0 {F G : Int → Int} {fa ta : Int} : cpy F G fa ta 0 = G := by
  funext i
  exact if_neg (by omega)
def shf (P : Int → Int) (k : Int) : Int → Int := fun i => if 0 ≤ i ∧ i < k then P (i + 233) else P i
theorem shf_0 {P : Int → Int} : shf P 0 = P := by
  funext i
  exact if_neg (by omega)
theorem shf_hi {P : Int → Int} {k i : Int} (h : k ≤ i) : shf P k i = P i := if_neg (by omega)
theorem shf_s {P : Int → Int} {k : Int} (hk : 0 ≤ k) : up (shf P k) k (P (k + 233)) = shf P (k + 1) := by
  funext i
  unfold up shf
  by_cases h : i = k
  · rw [if_pos h, if_pos (by omega), h]
  · rw [if_neg h]
    by_cases h2 : 0 ≤ i ∧ i < k
    · rw [if_pos h2, if_pos (by omega)]
    · rw [if_neg h2, if_neg (by omega)]
theorem lay_full {F G : Int → Int} : ∀ i : Int, 0 ≤ i → i < ((233 : Nat) : Int) → F i = if (0 : Int) ≤ i ∧ i < 0 + 233 then F (i - 0 + 0) else G i := by
  intro i h0 h1
  rw [if_pos (by omega)]
  congr 1
  omega
theorem lay_cpy {F G : Int → Int} {fa ta : Int} {n : Nat} : ∀ i : Int, 0 ≤ i → i < (n : Int) → cpy F G fa ta 233 i = if ta ≤ i ∧ i < ta + 233 then F (i - ta + fa) else G i := fun _ _ _ => rfl
theorem h_of_rec {B : Nat → Int → Int} {r : Int} (h : 0 ≤ r) (h3 : r < 4) : h_of (b_rec B) r = if r = 0 then B 0 else h_of B (r - 1) := by
  by_cases h0 : r = 0
  · subst h0; rfl
  by_cases h1 : r = 1
  · subst h1; rfl
  by_cases h2 : r = 2
  · subst h2; rfl
  have h3 : r = 3 := by omega
  subst h3; rfl
theorem rec_8 (B : Nat → Int → Int) : b_rec B 8 0 = if B 8 0 = 4 then 4 else B 8 0 + 1 := rfl
theorem past_rec1 {B : Nat → Int → Int} {P : Int → Int} (h : PastOk B P) (hk : 0 ≤ B 8 0 ∧ B 8 0 ≤ 4) (h4 : B 8 0 ≠ 4) : PastOk (b_rec B) (cpy (B 0) P 0 (233 * B 8 0) 233) := by
  intro r i h0 h1 h2 h3
  rw [rec_8, if_neg h4] at h1 ⊢
  rw [h_of_rec h0 (by omega)]
  by_cases hr : r = 0
  · subst hr
    rw [if_pos rfl]
    show cpy (B 0) P 0 (233 * B 8 0) 233 (233 * (B 8 0 + 1 - 1 - 0) + i) = B 0 i
    unfold cpy
    rw [if_pos (by omega)]
    congr 1
    omega
  · rw [if_neg hr, ← h (r - 1) i (by omega) (by omega) h2 h3]
    unfold cpy
    rw [if_neg (by omega)]
    congr 1
    omega
theorem past_rec2 {B : Nat → Int → Int} {P : Int → Int} (h : PastOk B P) (h4 : B 8 0 = 4) : PastOk (b_rec B) (cpy (B 0) (shf P 699) 0 (233 * B 8 0 - 233) 233) := by
  intro r i h0 h1 h2 h3
  rw [rec_8, if_pos h4] at h1 ⊢
  rw [h_of_rec h0 (by omega)]
  by_cases hr : r = 0
  · subst hr
    rw [if_pos rfl]
    unfold cpy
    rw [if_pos (by omega)]
    congr 1
    omega
  · rw [if_neg hr, ← h (r - 1) i (by omega) (by omega) h2 h3]
    unfold cpy
    rw [if_neg (by omega)]
    unfold shf
    rw [if_pos (by omega)]
    congr 1
    omega
theorem past_pop {B : Nat → Int → Int} {P : Int → Int} (h : PastOk B P) (hk : 0 ≤ B 8 0 ∧ B 8 0 ≤ 4) : PastOk (b_pop B) P := by
  intro r i h0 h1 h2 h3
  have h1 : r < B 8 0 - 1 := h1
  have e := h (r + 1) i (by omega) (by omega) h2 h3
  rw [show 233 * (B 8 0 - 1 - (r + 1)) + i = 233 * (B 8 0 - 1 - 1 - r) + i from by omega] at e
  show P (233 * (B 8 0 - 1 - 1 - r) + i) = _
  rw [e]
  by_cases hr : r = 0
  · subst hr; rfl
  by_cases h1 : r = 1
  · subst h1; rfl
  have h2 : r = 2 := by omega
  subst h2; rfl
theorem past_top {B : Nat → Int → Int} {P G : Int → Int} (h : PastOk B P) (h0 : 0 < B 8 0) : ∀ i : Int, 0 ≤ i → i < ((233 : Nat) : Int) → B 1 i = if (0 : Int) ≤ i ∧ i < 0 + 233 then P (i - 0 + (233 * B 8 0 - 233)) else G i := by
  intro i h1 h2
  rw [if_pos (by omega)]
  have e := h 0 i (by omega) h0 h1 (by omega)
  rw [show i - 0 + (233 * B 8 0 - 233) = 233 * (B 8 0 - 1 - 0) + i from by omega, e]
  rfl
def Tx (f : Int → Int) : Prop := ∀ i, 0 ≤ f i ∧ f i ≤ 65535
theorem Tx.bd {f : Int → Int} (h : Tx f) (i : Int) : 0 ≤ f i ∧ f i ≤ 65535 := h i
theorem WB.k {N : Int} {B : Nat → Int → Int} (h : WB N B) : 0 ≤ B 8 0 ∧ B 8 0 ≤ 4 := h.2.1
theorem WB.j {N : Int} {B : Nat → Int → Int} (h : WB N B) : B 9 0 = 0 ∨ B 9 0 = 1 := h.2.2.2.2.2.2.1
theorem WB.sh {N : Int} {B : Nat → Int → Int} (h : WB N B) (h1 : B 9 0 = 1) : WF N (B 5) := h.2.2.2.2.2.2.2.1 h1
theorem WB.tl {N : Int} {B : Nat → Int → Int} (h : WB N B) : 0 ≤ B 10 0 ∧ B 10 0 ≤ 60 := h.2.2.2.2.2.2.2.2.1
theorem WB.tx {N : Int} {B : Nat → Int → Int} (h : WB N B) : Tx (B 6) := h.2.2.2.2.2.2.2.2.2.1
theorem WB.rf {N : Int} {B : Nat → Int → Int} (h : WB N B) : B 11 0 = 0 ∨ B 11 0 = 1 := h.2.2.2.2.2.2.2.2.2.2.1
theorem WB.rr {N : Int} {B : Nat → Int → Int} (h : WB N B) : Bd (B 7) := h.2.2.2.2.2.2.2.2.2.2.2
theorem set_ok_8 {w v : Int} (hw : 0 ≤ w ∧ w ≤ 4) (hv : S_ok w v) : 0 ≤ v ∧ v ≤ 999 := by omega
theorem quietL_s {f : Nat} {F : Int → Int} {t : Int} : r_quietL (f + 1) F t = if r_marks F = 0 then t else r_quietL f (r_tick F).2 (t + 1) := rfl
theorem wf_mark {N : Int} {F : Int → Int} {b i : Int} (h : WF N F) (hb : 0 ≤ b ∧ b < 6) (hi : 0 ≤ i ∧ i ≤ 1) : WF N (up F (4 * b + 43) i) := sorry
theorem wf_stale {N : Int} {F : Int → Int} {v : Int} (h : WF N F) (hv : r_placeOf F v ≠ -5) : WF N (up F (3 * r_placeOf F v + 65) (-2)) := sorry
theorem wf_all {N : Int} {F : Int → Int} {b : Int} (h : WF N F) (hb : 0 ≤ b ∧ b < 6) (hr : 0 ≤ (r_all F b).1) (hN : N + 20 ≤ 200000000) : WF (N + 20) (r_all F b).2 := sorry
theorem all_place {N : Int} {F : Int → Int} {b v : Int} (h : WF N F) (hb : 0 ≤ b ∧ b < 6) (hr : 0 ≤ (r_all F b).1) (hv : r_placeOf F v ≠ -5) (hp : 0 ≤ v ∧ v ≤ 23) : r_placeOf (r_all F b).2 v ≠ -5 := sorry
theorem write_rg {N : Int} {F : Int → Int} (h : WF N F) (v : Int) : -5 ≤ (r_write F v).1 ∧ (r_write F v).1 ≤ 48 := sorry
theorem read_rg {N : Int} {F : Int → Int} (_ : WF N F) (v : Int) : -4 ≤ (r_read F v).1 ∧ (r_read F v).1 ≤ 2 := by
  unfold r_read
  split
  · exact ⟨by show (-4 : Int) ≤ -1; omega, by show (-1 : Int) ≤ 2; omega⟩
  · split
    · exact ⟨by show (-4 : Int) ≤ 0; omega, by show (0 : Int) ≤ 2; omega⟩
    · split
      · exact ⟨by show (-4 : Int) ≤ 1; omega, by show (1 : Int) ≤ 2; omega⟩
      · split
        · exact ⟨by show (-4 : Int) ≤ 2; omega, by show (2 : Int) ≤ 2; omega⟩
        · exact ⟨by show (-4 : Int) ≤ -4; omega, by show (-4 : Int) ≤ 2; omega⟩
theorem all_rg {N : Int} {F : Int → Int} (h : WF N F) (b : Int) : -4 ≤ (r_all F b).1 ∧ (r_all F b).1 ≤ 9 := sorry
theorem pass_rg {N : Int} {F : Int → Int} (h : WF N F) (t : Int) : -4 ≤ (r_pass F t).1 ∧ (r_pass F t).1 ≤ 3200 := sorry
theorem placed_rg (F : Int → Int) : 0 ≤ r_placed F ∧ r_placed F ≤ 48 := sorry
theorem weakest_rg {N : Int} {F : Int → Int} (h : WF N F) : 0 ≤ r_weakest F ∧ r_weakest F ≤ 40000 := sorry
/-! texts -/
theorem t_run_1 {t : Int → Int} {n : Int} {f : Nat} {a k : Int} (hf : 0 < f) (h : ¬ O_ok t n a) : t_run t n f a k = (0, o_end t n a, k) := by
  obtain ⟨m, rfl⟩ : ∃ m, f = m + 1 := ⟨f - 1, by omega⟩
  exact if_pos h
theorem t_run_2 {t : Int → Int} {n : Int} {f : Nat} {a k : Int} (hf : 0 < f) (h : O_ok t n a) (hc : o_end t n a < n ∧ t (o_end t n a) = 44) : t_run t n f a k = t_run t n (f - 1) (o_end t n a + 1) (k + 1) := by
  obtain ⟨m, rfl⟩ : ∃ m, f = m + 1 := ⟨f - 1, by omega⟩
  show (if ¬ O_ok t n a then _ else _) = _
  rw [if_neg (fun hh => hh h), if_pos hc]
  rfl
theorem t_run_3 {t : Int → Int} {n : Int} {f : Nat} {a k : Int} (hf : 0 < f) (h : O_ok t n a) (hc : ¬ (o_end t n a < n ∧ t (o_end t n a) = 44)) : t_run t n f a k = ((if o_end t n a = n then 1 else 0), o_end t n a, k + 1) := by
  obtain ⟨m, rfl⟩ : ∃ m, f = m + 1 := ⟨f - 1, by omega⟩
  show (if ¬ O_ok t n a then _ else _) = _
  rw [if_neg (fun hh => hh h), if_neg hc]
theorem d_rg (t : Int → Int) (n a : Int) : -1 ≤ d_at t n a ∧ d_at t n a ≤ 9 := by unfold d_at; omega
theorem d_lt {t : Int → Int} {n a : Int} (h : 0 ≤ d_at t n a) : a < n := by unfold d_at at h; omega
theorem n_end_rg {t : Int → Int} {n a hi : Int} (h : 0 ≤ d_at t n a) : a + 1 ≤ n_end t n a hi ∧ n_end t n a hi ≤ a + 2 ∧ n_end t n a hi ≤ n := by
  unfold n_end
  have h1 := d_lt h
  split
  · rename_i h2
    have := d_lt h2.2.1
    omega
  · omega
theorem n_val_rg {t : Int → Int} {n a hi : Int} (h : 0 ≤ d_at t n a) : 0 ≤ n_val t n a hi ∧ n_val t n a hi ≤ 99 := by
  unfold n_val
  have h1 := d_rg t n a
  have h2 := d_rg t n (a + 1)
  split <;> omega
theorem n_val_hi {t : Int → Int} {n a lo hi : Int} (h : lo ≤ d_at t n a) (h9 : 9 ≤ hi) (h0 : 0 ≤ lo) : lo ≤ n_val t n a hi ∧ n_val t n a hi ≤ hi := by
  unfold n_val
  have h1 := d_rg t n a
  have h2 := d_rg t n (a + 1)
  split
  · rename_i h3
    have h4 := h3.2.2
    omega
  · omega
/-- an order that is one: where it ends, its numbers -/
theorem o_ok_rg {t : Int → Int} {n a : Int} (h : O_ok t n a) : a + 2 ≤ o_end t n a ∧ o_end t n a ≤ n ∧ o_lo t a ≤ o_arg t n a ∧ o_arg t n a ≤ o_hi t a ∧ 1 ≤ o_rep t n a ∧ o_rep t n a ≤ 99 ∧ (t a ≠ 114 → o_rep t n a = 1) := by
  obtain ⟨h1, h2, h3⟩ := h
  have hlo : 0 ≤ o_lo t a := by unfold o_lo; omega
  have hhi : 9 ≤ o_hi t a := by unfold o_hi; omega
  have h2' : o_lo t a ≤ d_at t n (a + 1) := h2
  have e1 := n_end_rg (t := t) (n := n) (a := a + 1) (hi := o_hi t a) (by omega)
  have v1 := n_val_hi (t := t) (n := n) (a := a + 1) (lo := o_lo t a) (hi := o_hi t a) h2' hhi hlo
  have h4 : o_end t n a = if O_star t n a then (if O_rep t n a then n_end t n (o_e1 t n a + 1) 99 else o_e1 t n a + 1) else o_e1 t n a := by
    unfold o_end
    rw [if_neg (fun hh => hh h1), if_neg (fun hh => hh h2)]
  refine ⟨?_, ?_, v1.1, v1.2, ?_, ?_, ?_⟩
  · rw [h4]
    split
    · rename_i hs
      rw [if_pos (h3 hs)]
      have e2 := n_end_rg (t := t) (n := n) (a := o_e1 t n a + 1) (hi := 99) (by have := h3 hs; omega)
      have : o_e1 t n a = n_end t n (a + 1) (o_hi t a) := rfl
      omega
    · have : o_e1 t n a = n_end t n (a + 1) (o_hi t a) := rfl
      omega
  · rw [h4]
    split
    · rename_i hs
      rw [if_pos (h3 hs)]
      have e2 := n_end_rg (t := t) (n := n) (a := o_e1 t n a + 1) (hi := 99) (by have := h3 hs; omega)
      omega
    · have : o_e1 t n a = n_end t n (a + 1) (o_hi t a) := rfl
      omega
  · unfold o_rep
    split
    · rename_i hs
      exact (n_val_hi (lo := 1) (h3 hs) (by omega) (by omega)).1
    · omega
  · unfold o_rep
    split
    · rename_i hs
      exact (n_val_hi (lo := 1) (h3 hs) (by omega) (by omega)).2
    · omega
  · intro hn
    unfold o_rep
    rw [if_neg (fun hs => hn hs.1)]
theorem o_end_0 {t : Int → Int} {n a : Int} (h : ¬ O_let t n a) : o_end t n a = a := if_pos h
theorem o_end_1 {t : Int → Int} {n a : Int} (h : O_let t n a) (h2 : ¬ O_num t n a) : o_end t n a = a + 1 := by
  unfold o_end
  rw [if_neg (fun hh => hh h), if_pos h2]
theorem o_end_2 {t : Int → Int} {n a : Int} (h : O_let t n a) (h2 : O_num t n a) (h3 : ¬ O_star t n a) : o_end t n a = o_e1 t n a := by
  unfold o_end
  rw [if_neg (fun hh => hh h), if_neg (fun hh => hh h2), if_neg h3]
theorem o_end_3 {t : Int → Int} {n a : Int} (h : O_let t n a) (h2 : O_num t n a) (h3 : O_star t n a) (h4 : ¬ O_rep t n a) : o_end t n a = o_e1 t n a + 1 := by
  unfold o_end
  rw [if_neg (fun hh => hh h), if_neg (fun hh => hh h2), if_pos h3, if_neg h4]
theorem o_end_4 {t : Int → Int} {n a : Int} (h : O_let t n a) (h2 : O_num t n a) (h3 : O_star t n a) (h4 : O_rep t n a) : o_end t n a = n_end t n (o_e1 t n a + 1) 99 := by
  unfold o_end
  rw [if_neg (fun hh => hh h), if_neg (fun hh => hh h2), if_pos h3, if_pos h4]
theorem e_reps_s {c x d : Int} {m : Nat} {F : Int → Int} : e_reps c x (m + 1) d F = if (e_one F c x).1 < 0 then ((e_one F c x).1, d, F) else e_reps c x m (d + 1) (e_one F c x).2 := rfl
theorem wf_read {N : Int} {F : Int → Int} {v : Int} (h : WF N F) (hN : N + 100 ≤ 200000000) (hr : 0 ≤ (r_read F v).1) : WF (N + 100) (r_read F v).2 := sorry
theorem wf_write {N : Int} {F : Int → Int} {v : Int} (h : WF N F) (hr : 0 ≤ (r_write F v).1) : WF N (r_write F v).2 := sorry
theorem wf_pass {N : Int} {F : Int → Int} {v : Int} (h : WF N F) (hN : N + 10000 ≤ 200000000) (hr : 0 ≤ (r_pass F v).1) : WF (N + 10000) (r_pass F v).2 := sorry
def e_grow (c : Int) : Int := if c = 116 then 10000 else 100
theorem wf_one {N : Int} {F : Int → Int} {c x : Int} (h : WF N F) (hc : c = 114 ∨ c = 119 ∨ c = 116) (hN : N + 10000 ≤ 200000000) (hr : 0 ≤ (e_one F c x).1) : WF (N + e_grow c) (e_one F c x).2 := by
  unfold e_one at hr ⊢
  unfold e_grow
  by_cases h1 : c = 114
  · rw [if_pos h1] at hr ⊢
    rw [if_neg (by omega)]
    exact wf_read h (by omega) hr
  · rw [if_neg h1] at hr ⊢
    by_cases h2 : c = 119
    · rw [if_pos h2] at hr ⊢
      rw [if_neg (by omega)]
      exact (wf_write h hr).mono (by omega) (by omega)
    · rw [if_neg h2] at hr ⊢
      rw [if_pos (by omega)]
      exact wf_pass h hN hr
theorem one_rg {N : Int} {F : Int → Int} {c x : Int} (h : WF N F) : -5 ≤ (e_one F c x).1 ∧ (e_one F c x).1 ≤ 3200 := by
  unfold e_one
  split
  · have := read_rg h x; omega
  · split
    · have := write_rg h x; omega
    · have := pass_rg h x; omega
theorem o_end_rg0 {t : Int → Int} {n a : Int} (h : 0 ≤ a ∧ a ≤ n) : 0 ≤ o_end t n a ∧ o_end t n a ≤ n := by
  by_cases h1 : O_let t n a
  · have h1' := h1.1
    by_cases h2 : O_num t n a
    · have h2' : o_lo t a ≤ d_at t n (a + 1) := h2
      have hlo : 0 ≤ o_lo t a := by unfold o_lo; omega
      have e1 := n_end_rg (t := t) (n := n) (a := a + 1) (hi := o_hi t a) (by omega)
      have e0 : o_e1 t n a = n_end t n (a + 1) (o_hi t a) := rfl
      by_cases h3 : O_star t n a
      · by_cases h4 : O_rep t n a
        · have h4' : 1 ≤ d_at t n (o_e1 t n a + 1) := h4
          have e2 := n_end_rg (t := t) (n := n) (a := o_e1 t n a + 1) (hi := 99) (by omega)
          rw [o_end_4 h1 h2 h3 h4]; omega
        · have := h3.2.1
          rw [o_end_3 h1 h2 h3 h4]; omega
      · rw [o_end_2 h1 h2 h3]; omega
    · rw [o_end_1 h1 h2]; omega
  · rw [o_end_0 h1]; omega
theorem txt_rows {t : Int → Int} {n mm a : Int} {Y Z : Nat → Int → Int} (hro : ∀ j : Nat, (j : Int) < mm → Y 5 (3 * j) = t (t_at t n j) ∧ Y 5 (3 * j + 1) = o_arg t n (t_at t n j) ∧ Y 5 (3 * j + 2) = o_rep t n (t_at t n j) ∧ O_ok t n (t_at t n j))
    (h5 : ∀ i, Z 5 i = if i = 3 * mm then t a else if i = 3 * mm + 1 then o_arg t n a else if i = 3 * mm + 2 then o_rep t n a else Y 5 i) (hat : t_at t n mm.toNat = a) (hok : O_ok t n a) (hm : 0 ≤ mm) :
    ∀ j : Nat, (j : Int) < mm + 1 → Z 5 (3 * j) = t (t_at t n j) ∧ Z 5 (3 * j + 1) = o_arg t n (t_at t n j) ∧ Z 5 (3 * j + 2) = o_rep t n (t_at t n j) ∧ O_ok t n (t_at t n j) := by
  intro j hj
  by_cases hq : (j : Int) = mm
  · have hjm : j = mm.toNat := by omega
    rw [h5, h5, h5, if_pos (by omega), if_neg (by omega), if_pos (by omega), if_neg (by omega), if_neg (by omega), if_pos (by omega), hjm, hat]
    exact ⟨rfl, rfl, rfl, hok⟩
  · have h := hro j (by omega)
    rw [h5, h5, h5, if_neg (by omega), if_neg (by omega), if_neg (by omega), if_neg (by omega), if_neg (by omega), if_neg (by omega), if_neg (by omega), if_neg (by omega), if_neg (by omega)]
    exact h
end
