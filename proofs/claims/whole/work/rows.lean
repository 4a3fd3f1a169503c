section
-- ===== PART A: goes FIRST, ahead of the names: the tables' words, and 'selects' of the private methods out of them =====
/-- a private method of a class that the tables say can be made, by its rows of tables_1 -/
def lw_okq (q : MethodName × Nat) : Prop := (q.1.cls ≠ "java/lang/invoke/MethodHandle" ∧ q.1.cls ≠ "java/lang/invoke/VarHandle") ∧ Cond.instantiable q.1.cls q.2 ∈ tables_1 ∧ Cond.privateMethod q.1 ∈ tables_1 ∧ Cond.instanceMethod q.1 ∈ tables_1
theorem lw_p0 : lw_okq (⟨"WeakenedPages", "settle", "(I)I"⟩, 11) := ⟨⟨by decide +kernel, by decide +kernel⟩, List.mem_of_getElem? (i := 11) (by decide +kernel), List.mem_of_getElem? (i := 262) (by decide +kernel), List.mem_of_getElem? (i := 263) (by decide +kernel)⟩
theorem lw_p1 : lw_okq (⟨"WeakenedPages", "performOnce", "(I)I"⟩, 11) := ⟨⟨by decide +kernel, by decide +kernel⟩, List.mem_of_getElem? (i := 11) (by decide +kernel), List.mem_of_getElem? (i := 496) (by decide +kernel), List.mem_of_getElem? (i := 497) (by decide +kernel)⟩
theorem lw_p2 : lw_okq (⟨"WeakenedPages", "noteRefusal", "(III)V"⟩, 11) := ⟨⟨by decide +kernel, by decide +kernel⟩, List.mem_of_getElem? (i := 11) (by decide +kernel), List.mem_of_getElem? (i := 508) (by decide +kernel), List.mem_of_getElem? (i := 509) (by decide +kernel)⟩
theorem lw_p3 : lw_okq (⟨"WeakenedPagesModel", "records", "()V"⟩, 15) := ⟨⟨by decide +kernel, by decide +kernel⟩, List.mem_of_getElem? (i := 591) (by decide +kernel), List.mem_of_getElem? (i := 658) (by decide +kernel), List.mem_of_getElem? (i := 659) (by decide +kernel)⟩
theorem lw_p4 : lw_okq (⟨"WeakenedPagesModel", "tries", "()V"⟩, 15) := ⟨⟨by decide +kernel, by decide +kernel⟩, List.mem_of_getElem? (i := 591) (by decide +kernel), List.mem_of_getElem? (i := 714) (by decide +kernel), List.mem_of_getElem? (i := 715) (by decide +kernel)⟩
theorem lw_p5 : lw_okq (⟨"WeakenedPagesModel", "becomes", "(I)I"⟩, 15) := ⟨⟨by decide +kernel, by decide +kernel⟩, List.mem_of_getElem? (i := 591) (by decide +kernel), List.mem_of_getElem? (i := 745) (by decide +kernel), List.mem_of_getElem? (i := 746) (by decide +kernel)⟩
theorem lw_p6 : lw_okq (⟨"WeakenedPagesModel", "readsOn", "([II)I"⟩, 15) := ⟨⟨by decide +kernel, by decide +kernel⟩, List.mem_of_getElem? (i := 591) (by decide +kernel), List.mem_of_getElem? (i := 753) (by decide +kernel), List.mem_of_getElem? (i := 754) (by decide +kernel)⟩
theorem lw_p7 : lw_okq (⟨"WeakenedPagesModel", "isText", "()Z"⟩, 15) := ⟨⟨by decide +kernel, by decide +kernel⟩, List.mem_of_getElem? (i := 591) (by decide +kernel), List.mem_of_getElem? (i := 824) (by decide +kernel), List.mem_of_getElem? (i := 825) (by decide +kernel)⟩
theorem lw_p8 : lw_okq (⟨"WeakenedPagesModel", "isOrder", "()Z"⟩, 15) := ⟨⟨by decide +kernel, by decide +kernel⟩, List.mem_of_getElem? (i := 591) (by decide +kernel), List.mem_of_getElem? (i := 828) (by decide +kernel), List.mem_of_getElem? (i := 829) (by decide +kernel)⟩
theorem lw_p9 : lw_okq (⟨"WeakenedPagesModel", "isNumber", "(II)Z"⟩, 15) := ⟨⟨by decide +kernel, by decide +kernel⟩, List.mem_of_getElem? (i := 591) (by decide +kernel), List.mem_of_getElem? (i := 832) (by decide +kernel), List.mem_of_getElem? (i := 833) (by decide +kernel)⟩
theorem lw_p10 : lw_okq (⟨"WeakenedPagesModel", "isAt", "(II)Z"⟩, 15) := ⟨⟨by decide +kernel, by decide +kernel⟩, List.mem_of_getElem? (i := 591) (by decide +kernel), List.mem_of_getElem? (i := 836) (by decide +kernel), List.mem_of_getElem? (i := 837) (by decide +kernel)⟩
theorem lw_p11 : lw_okq (⟨"WeakenedPagesModel", "isSign", "(I)Z"⟩, 15) := ⟨⟨by decide +kernel, by decide +kernel⟩, List.mem_of_getElem? (i := 591) (by decide +kernel), List.mem_of_getElem? (i := 840) (by decide +kernel), List.mem_of_getElem? (i := 841) (by decide +kernel)⟩
theorem lw_p12 : lw_okq (⟨"WeakenedPagesModel", "doesOnce", "(I)I"⟩, 15) := ⟨⟨by decide +kernel, by decide +kernel⟩, List.mem_of_getElem? (i := 591) (by decide +kernel), List.mem_of_getElem? (i := 844) (by decide +kernel), List.mem_of_getElem? (i := 845) (by decide +kernel)⟩
theorem lw_p13 : lw_okq (⟨"WeakenedPagesModel", "weakest", "()I"⟩, 15) := ⟨⟨by decide +kernel, by decide +kernel⟩, List.mem_of_getElem? (i := 591) (by decide +kernel), List.mem_of_getElem? (i := 880) (by decide +kernel), List.mem_of_getElem? (i := 881) (by decide +kernel)⟩
def lw_privs_1 : List (MethodName × Nat) := [(⟨"WeakenedPages", "settle", "(I)I"⟩, 11), (⟨"WeakenedPages", "performOnce", "(I)I"⟩, 11), (⟨"WeakenedPages", "noteRefusal", "(III)V"⟩, 11), (⟨"WeakenedPagesModel", "records", "()V"⟩, 15), (⟨"WeakenedPagesModel", "tries", "()V"⟩, 15), (⟨"WeakenedPagesModel", "becomes", "(I)I"⟩, 15), (⟨"WeakenedPagesModel", "readsOn", "([II)I"⟩, 15), (⟨"WeakenedPagesModel", "isText", "()Z"⟩, 15), (⟨"WeakenedPagesModel", "isOrder", "()Z"⟩, 15), (⟨"WeakenedPagesModel", "isNumber", "(II)Z"⟩, 15), (⟨"WeakenedPagesModel", "isAt", "(II)Z"⟩, 15), (⟨"WeakenedPagesModel", "isSign", "(I)Z"⟩, 15), (⟨"WeakenedPagesModel", "doesOnce", "(I)I"⟩, 15), (⟨"WeakenedPagesModel", "weakest", "()I"⟩, 15)]
theorem lw_r1 : ∀ q ∈ lw_privs_1, lw_okq q := List.forall_mem_cons.mpr ⟨lw_p0, List.forall_mem_cons.mpr ⟨lw_p1, List.forall_mem_cons.mpr ⟨lw_p2, List.forall_mem_cons.mpr ⟨lw_p3, List.forall_mem_cons.mpr ⟨lw_p4, List.forall_mem_cons.mpr ⟨lw_p5, List.forall_mem_cons.mpr ⟨lw_p6, List.forall_mem_cons.mpr ⟨lw_p7, List.forall_mem_cons.mpr ⟨lw_p8, List.forall_mem_cons.mpr ⟨lw_p9, List.forall_mem_cons.mpr ⟨lw_p10, List.forall_mem_cons.mpr ⟨lw_p11, List.forall_mem_cons.mpr ⟨lw_p12, List.forall_mem_cons.mpr ⟨lw_p13, fun _ h => absurd h List.not_mem_nil⟩⟩⟩⟩⟩⟩⟩⟩⟩⟩⟩⟩⟩⟩
def lw_privs : List (MethodName × Nat) := lw_privs_1
def lw_tbl : List Cond := k2_sels lw_privs ++ tables_1
theorem lw_privs_ok : ∀ q ∈ lw_privs, lw_okq q := lw_r1
def RX0 : String := "WeakenedPages$Buffer"
def TX0 : u_T := fun k => match k with
  | 0 => ("WeakenedPages$Buffer", "pages", "[I", true)
  | _ => ("WeakenedPages$Buffer", "size", "I", false)
def tyX0 : Nat → FieldType := fun k => match k with
  | 0 => .array .int
  | _ => .int
abbrev wsX00 : List Cond := u_ws RX0 TX0 2
theorem nmX0 : ∀ a, a < 2 → ∀ b, b < 2 → a ≠ b → (TX0 a).2.1 ≠ (TX0 b).2.1 := by decide +kernel
theorem tyX0_ok : ∀ k, k < 2 → parseFieldDescriptor (TX0 k).2.2.1 = some (tyX0 k) := by decide +kernel
abbrev cX0_init : ByteArray := prog_2_method_1_code
def yX0_init : MethodName := ⟨RX0, "<init>", "()V"⟩
abbrev cX0_copyFrom : ByteArray := prog_2_method_2_code
def yX0_copyFrom : MethodName := ⟨RX0, "copyFrom", "(LWeakenedPages$Buffer;)V"⟩
abbrev cX0_rankOf : ByteArray := prog_2_method_3_code
def yX0_rankOf : MethodName := ⟨RX0, "rankOf", "(I)I"⟩
abbrev cX0_putFirst : ByteArray := prog_2_method_4_code
def yX0_putFirst : MethodName := ⟨RX0, "putFirst", "(II)V"⟩
abbrev cX0_drop : ByteArray := prog_2_method_5_code
def yX0_drop : MethodName := ⟨RX0, "drop", "(I)V"⟩
abbrev cX0_shrinkTo : ByteArray := prog_2_method_6_code
def yX0_shrinkTo : MethodName := ⟨RX0, "shrinkTo", "(I)V"⟩
def RX1 : String := "WeakenedPages$ErasureLog"
def TX1 : u_T := fun k => match k with
  | 0 => ("WeakenedPages$ErasureLog", "blocks", "[I", true)
  | 1 => ("WeakenedPages$ErasureLog", "ticks", "[I", true)
  | 2 => ("WeakenedPages$ErasureLog", "weakenings", "[I", true)
  | _ => ("WeakenedPages$ErasureLog", "total", "I", false)
def tyX1 : Nat → FieldType := fun k => match k with
  | 0 => .array .int
  | 1 => .array .int
  | 2 => .array .int
  | _ => .int
abbrev wsX10 : List Cond := u_ws RX1 TX1 4
theorem nmX1 : ∀ a, a < 4 → ∀ b, b < 4 → a ≠ b → (TX1 a).2.1 ≠ (TX1 b).2.1 := by decide +kernel
theorem tyX1_ok : ∀ k, k < 4 → parseFieldDescriptor (TX1 k).2.2.1 = some (tyX1 k) := by decide +kernel
abbrev cX1_init : ByteArray := prog_3_method_1_code
def yX1_init : MethodName := ⟨RX1, "<init>", "()V"⟩
abbrev cX1_copyFrom : ByteArray := prog_3_method_2_code
def yX1_copyFrom : MethodName := ⟨RX1, "copyFrom", "(LWeakenedPages$ErasureLog;)V"⟩
abbrev cX1_note : ByteArray := prog_3_method_3_code
def yX1_note : MethodName := ⟨RX1, "note", "(III)V"⟩
def RX2 : String := "WeakenedPages$History"
def TX2 : u_T := fun k => match k with
  | 0 => ("WeakenedPages$History", "states", "[LWeakenedPages$Store;", true)
  | _ => ("WeakenedPages$History", "size", "I", false)
def tyX2 : Nat → FieldType := fun k => match k with
  | 0 => .array (.object "WeakenedPages$Store")
  | _ => .int
abbrev wsX20 : List Cond := u_ws RX2 TX2 2
theorem nmX2 : ∀ a, a < 2 → ∀ b, b < 2 → a ≠ b → (TX2 a).2.1 ≠ (TX2 b).2.1 := by decide +kernel
theorem tyX2_ok : ∀ k, k < 2 → parseFieldDescriptor (TX2 k).2.2.1 = some (tyX2 k) := by decide +kernel
abbrev cX2_init : ByteArray := prog_4_method_1_code
def yX2_init : MethodName := ⟨RX2, "<init>", "()V"⟩
abbrev cX2_record : ByteArray := prog_4_method_2_code
def yX2_record : MethodName := ⟨RX2, "record", "(LWeakenedPages$Store;)V"⟩
abbrev cX2_takeLatest : ByteArray := prog_4_method_3_code
def yX2_takeLatest : MethodName := ⟨RX2, "takeLatest", "(LWeakenedPages$Store;)V"⟩
def RX3 : String := "WeakenedPages$Orders"
def TX3 : u_T := fun k => match k with
  | 0 => ("WeakenedPages$Orders", "text", "[C", true)
  | 1 => ("WeakenedPages$Orders", "length", "I", false)
  | 2 => ("WeakenedPages$Orders", "letters", "[C", true)
  | 3 => ("WeakenedPages$Orders", "arguments", "[I", true)
  | 4 => ("WeakenedPages$Orders", "times", "[I", true)
  | 5 => ("WeakenedPages$Orders", "number", "I", false)
  | _ => ("WeakenedPages$Orders", "at", "I", false)
def tyX3 : Nat → FieldType := fun k => match k with
  | 0 => .array .char
  | 1 => .int
  | 2 => .array .char
  | 3 => .array .int
  | 4 => .array .int
  | 5 => .int
  | _ => .int
abbrev wsX30 : List Cond := u_ws RX3 TX3 7
theorem nmX3 : ∀ a, a < 7 → ∀ b, b < 7 → a ≠ b → (TX3 a).2.1 ≠ (TX3 b).2.1 := by decide +kernel
theorem tyX3_ok : ∀ k, k < 7 → parseFieldDescriptor (TX3 k).2.2.1 = some (tyX3 k) := by decide +kernel
abbrev cX3_init : ByteArray := prog_5_method_1_code
def yX3_init : MethodName := ⟨RX3, "<init>", "()V"⟩
abbrev cX3_append : ByteArray := prog_5_method_2_code
def yX3_append : MethodName := ⟨RX3, "append", "(C)I"⟩
abbrev cX3_empty : ByteArray := prog_5_method_3_code
def yX3_empty : MethodName := ⟨RX3, "empty", "()I"⟩
abbrev cX3_letterOf : ByteArray := prog_5_method_4_code
def yX3_letterOf : MethodName := ⟨RX3, "letterOf", "(I)C"⟩
abbrev cX3_argumentOf : ByteArray := prog_5_method_5_code
def yX3_argumentOf : MethodName := ⟨RX3, "argumentOf", "(I)I"⟩
abbrev cX3_timesOf : ByteArray := prog_5_method_6_code
def yX3_timesOf : MethodName := ⟨RX3, "timesOf", "(I)I"⟩
abbrev cX3_parse : ByteArray := prog_5_method_7_code
def yX3_parse : MethodName := ⟨RX3, "parse", "()I"⟩
abbrev cX3_parseOrder : ByteArray := prog_5_method_8_code
def yX3_parseOrder : MethodName := ⟨RX3, "parseOrder", "()Z"⟩
abbrev cX3_parseNumber : ByteArray := prog_5_method_9_code
def yX3_parseNumber : MethodName := ⟨RX3, "parseNumber", "(II)I"⟩
abbrev cX3_digitAt : ByteArray := prog_5_method_10_code
def yX3_digitAt : MethodName := ⟨RX3, "digitAt", "(I)I"⟩
def RX4 : String := "WeakenedPages$Store"
def TX4 : u_T := fun k => match k with
  | 0 => ("WeakenedPages$Store", "kinds", "[I", true)
  | 1 => ("WeakenedPages$Store", "erasures", "[I", true)
  | 2 => ("WeakenedPages$Store", "called", "[Z", true)
  | 3 => ("WeakenedPages$Store", "blockReads", "[I", true)
  | 4 => ("WeakenedPages$Store", "used", "[I", true)
  | 5 => ("WeakenedPages$Store", "held", "[I", true)
  | 6 => ("WeakenedPages$Store", "weakenings", "[I", true)
  | 7 => ("WeakenedPages$Store", "written", "[I", true)
  | 8 => ("WeakenedPages$Store", "placeOf", "[I", true)
  | 9 => ("WeakenedPages$Store", "pageReads", "[I", true)
  | 10 => ("WeakenedPages$Store", "settings", "[I", true)
  | 11 => ("WeakenedPages$Store", "buffer", "LWeakenedPages$Buffer;", true)
  | 12 => ("WeakenedPages$Store", "log", "LWeakenedPages$ErasureLog;", true)
  | 13 => ("WeakenedPages$Store", "open", "I", false)
  | 14 => ("WeakenedPages$Store", "tick", "I", false)
  | 15 => ("WeakenedPages$Store", "reads", "I", false)
  | 16 => ("WeakenedPages$Store", "bufferReads", "I", false)
  | _ => ("WeakenedPages$Store", "movedPages", "I", false)
def tyX4 : Nat → FieldType := fun k => match k with
  | 0 => .array .int
  | 1 => .array .int
  | 2 => .array .boolean
  | 3 => .array .int
  | 4 => .array .int
  | 5 => .array .int
  | 6 => .array .int
  | 7 => .array .int
  | 8 => .array .int
  | 9 => .array .int
  | 10 => .array .int
  | 11 => .object "WeakenedPages$Buffer"
  | 12 => .object "WeakenedPages$ErasureLog"
  | 13 => .int
  | 14 => .int
  | 15 => .int
  | 16 => .int
  | _ => .int
abbrev wsX40 : List Cond := u_ws RX4 TX4 18
theorem nmX4 : ∀ a, a < 18 → ∀ b, b < 18 → a ≠ b → (TX4 a).2.1 ≠ (TX4 b).2.1 := by decide +kernel
theorem tyX4_ok : ∀ k, k < 18 → parseFieldDescriptor (TX4 k).2.2.1 = some (tyX4 k) := by decide +kernel
abbrev cX4_init : ByteArray := prog_6_method_1_code
def yX4_init : MethodName := ⟨RX4, "<init>", "()V"⟩
abbrev cX4_copyFrom : ByteArray := prog_6_method_2_code
def yX4_copyFrom : MethodName := ⟨RX4, "copyFrom", "(LWeakenedPages$Store;)V"⟩
abbrev cX4_bears : ByteArray := prog_6_method_3_code
def yX4_bears : MethodName := ⟨RX4, "bears", "(I)I"⟩
abbrev cX4_isFree : ByteArray := prog_6_method_4_code
def yX4_isFree : MethodName := ⟨RX4, "isFree", "(I)Z"⟩
abbrev cX4_freeBlocks : ByteArray := prog_6_method_5_code
def yX4_freeBlocks : MethodName := ⟨RX4, "freeBlocks", "()I"⟩
abbrev cX4_hasPlace : ByteArray := prog_6_method_6_code
def yX4_hasPlace : MethodName := ⟨RX4, "hasPlace", "(I)Z"⟩
abbrev cX4_pagesIn : ByteArray := prog_6_method_7_code
def yX4_pagesIn : MethodName := ⟨RX4, "pagesIn", "(I)I"⟩
abbrev cX4_pagesInAll : ByteArray := prog_6_method_8_code
def yX4_pagesInAll : MethodName := ⟨RX4, "pagesInAll", "()I"⟩
abbrev cX4_greatestOfPages : ByteArray := prog_6_method_9_code
def yX4_greatestOfPages : MethodName := ⟨RX4, "greatestOfPages", "(I)I"⟩
abbrev cX4_hundredths : ByteArray := prog_6_method_10_code
def yX4_hundredths : MethodName := ⟨RX4, "hundredths", "(I)I"⟩
abbrev cX4_greatestHundredths : ByteArray := prog_6_method_11_code
def yX4_greatestHundredths : MethodName := ⟨RX4, "greatestHundredths", "()I"⟩
abbrev cX4_isMarked : ByteArray := prog_6_method_12_code
def yX4_isMarked : MethodName := ⟨RX4, "isMarked", "(I)Z"⟩
abbrev cX4_isOld : ByteArray := prog_6_method_13_code
def yX4_isOld : MethodName := ⟨RX4, "isOld", "(I)Z"⟩
abbrev cX4_markedBlocks : ByteArray := prog_6_method_14_code
def yX4_markedBlocks : MethodName := ⟨RX4, "markedBlocks", "()I"⟩
abbrev cX4_markedAhead : ByteArray := prog_6_method_15_code
def yX4_markedAhead : MethodName := ⟨RX4, "markedAhead", "(I)I"⟩
abbrev cX4_firstMarked : ByteArray := prog_6_method_16_code
def yX4_firstMarked : MethodName := ⟨RX4, "firstMarked", "()I"⟩
abbrev cX4_addedBy : ByteArray := prog_6_method_17_code
def yX4_addedBy : MethodName := ⟨RX4, "addedBy", "(II)I"⟩
abbrev cX4_readsLeft : ByteArray := prog_6_method_18_code
def yX4_readsLeft : MethodName := ⟨RX4, "readsLeft", "(I)I"⟩
abbrev cX4_mayRead : ByteArray := prog_6_method_19_code
def yX4_mayRead : MethodName := ⟨RX4, "mayRead", "(I)Z"⟩
abbrev cX4_readPlace : ByteArray := prog_6_method_20_code
def yX4_readPlace : MethodName := ⟨RX4, "readPlace", "(I)V"⟩
abbrev cX4_blockWithRoom : ByteArray := prog_6_method_21_code
def yX4_blockWithRoom : MethodName := ⟨RX4, "blockWithRoom", "()I"⟩
abbrev cX4_putInto : ByteArray := prog_6_method_22_code
def yX4_putInto : MethodName := ⟨RX4, "putInto", "(II)V"⟩
abbrev cX4_dropPlace : ByteArray := prog_6_method_23_code
def yX4_dropPlace : MethodName := ⟨RX4, "dropPlace", "(I)V"⟩
abbrev cX4_lowestPlaceWithPage : ByteArray := prog_6_method_24_code
def yX4_lowestPlaceWithPage : MethodName := ⟨RX4, "lowestPlaceWithPage", "(I)I"⟩
abbrev cX4_moveLowestPage : ByteArray := prog_6_method_25_code
def yX4_moveLowestPage : MethodName := ⟨RX4, "moveLowestPage", "(I)Z"⟩
abbrev cX4_erase : ByteArray := prog_6_method_26_code
def yX4_erase : MethodName := ⟨RX4, "erase", "(I)V"⟩
abbrev cX4_moveWhole : ByteArray := prog_6_method_27_code
def yX4_moveWhole : MethodName := ⟨RX4, "moveWhole", "(I)I"⟩
abbrev cX4_passOne : ByteArray := prog_6_method_28_code
def yX4_passOne : MethodName := ⟨RX4, "passOne", "()I"⟩
abbrev cX4_changeSetting : ByteArray := prog_6_method_29_code
def yX4_changeSetting : MethodName := ⟨RX4, "changeSetting", "(II)I"⟩
abbrev cX4_changeKind : ByteArray := prog_6_method_30_code
def yX4_changeKind : MethodName := ⟨RX4, "changeKind", "(II)I"⟩
abbrev cX4_changeCall : ByteArray := prog_6_method_31_code
def yX4_changeCall : MethodName := ⟨RX4, "changeCall", "(IZ)I"⟩
abbrev cX4_writePage : ByteArray := prog_6_method_32_code
def yX4_writePage : MethodName := ⟨RX4, "writePage", "(I)I"⟩
abbrev cX4_readPage : ByteArray := prog_6_method_33_code
def yX4_readPage : MethodName := ⟨RX4, "readPage", "(I)I"⟩
abbrev cX4_forgetPage : ByteArray := prog_6_method_34_code
def yX4_forgetPage : MethodName := ⟨RX4, "forgetPage", "(I)I"⟩
abbrev cX4_moveOnDemand : ByteArray := prog_6_method_35_code
def yX4_moveOnDemand : MethodName := ⟨RX4, "moveOnDemand", "(I)I"⟩
abbrev cX4_passTicks : ByteArray := prog_6_method_36_code
def yX4_passTicks : MethodName := ⟨RX4, "passTicks", "(I)I"⟩
def RX5 : String := "WeakenedPages"
def TX5 : u_T := fun k => match k with
  | 0 => ("WeakenedPages", "now", "LWeakenedPages$Store;", true)
  | 1 => ("WeakenedPages", "before", "LWeakenedPages$Store;", true)
  | 2 => ("WeakenedPages", "trial", "LWeakenedPages$Store;", true)
  | 3 => ("WeakenedPages", "snapshot", "LWeakenedPages$Store;", true)
  | 4 => ("WeakenedPages", "hasSnapshot", "Z", false)
  | 5 => ("WeakenedPages", "history", "LWeakenedPages$History;", true)
  | 6 => ("WeakenedPages", "orders", "LWeakenedPages$Orders;", true)
  | 7 => ("WeakenedPages", "wasRefused", "Z", false)
  | 8 => ("WeakenedPages", "refusedOrder", "I", false)
  | 9 => ("WeakenedPages", "refusedError", "I", false)
  | _ => ("WeakenedPages", "refusedTimes", "I", false)
def tyX5 : Nat → FieldType := fun k => match k with
  | 0 => .object "WeakenedPages$Store"
  | 1 => .object "WeakenedPages$Store"
  | 2 => .object "WeakenedPages$Store"
  | 3 => .object "WeakenedPages$Store"
  | 4 => .boolean
  | 5 => .object "WeakenedPages$History"
  | 6 => .object "WeakenedPages$Orders"
  | 7 => .boolean
  | 8 => .int
  | 9 => .int
  | _ => .int
abbrev wsX50 : List Cond := u_ws RX5 TX5 11
theorem nmX5 : ∀ a, a < 11 → ∀ b, b < 11 → a ≠ b → (TX5 a).2.1 ≠ (TX5 b).2.1 := by decide +kernel
theorem tyX5_ok : ∀ k, k < 11 → parseFieldDescriptor (TX5 k).2.2.1 = some (tyX5 k) := by decide +kernel
abbrev cX5_init : ByteArray := prog_1_method_1_code
def yX5_init : MethodName := ⟨RX5, "<init>", "()V"⟩
abbrev cX5_set : ByteArray := prog_1_method_2_code
def yX5_set : MethodName := ⟨RX5, "set", "(II)I"⟩
abbrev cX5_setKind : ByteArray := prog_1_method_3_code
def yX5_setKind : MethodName := ⟨RX5, "setKind", "(II)I"⟩
abbrev cX5_mark : ByteArray := prog_1_method_4_code
def yX5_mark : MethodName := ⟨RX5, "mark", "(IZ)I"⟩
abbrev cX5_write : ByteArray := prog_1_method_5_code
def yX5_write : MethodName := ⟨RX5, "write", "(I)I"⟩
abbrev cX5_read : ByteArray := prog_1_method_6_code
def yX5_read : MethodName := ⟨RX5, "read", "(I)I"⟩
abbrev cX5_forget : ByteArray := prog_1_method_7_code
def yX5_forget : MethodName := ⟨RX5, "forget", "(I)I"⟩
abbrev cX5_moveBlock : ByteArray := prog_1_method_8_code
def yX5_moveBlock : MethodName := ⟨RX5, "moveBlock", "(I)I"⟩
abbrev cX5_pass : ByteArray := prog_1_method_9_code
def yX5_pass : MethodName := ⟨RX5, "pass", "(I)I"⟩
abbrev cX5_settle : ByteArray := prog_1_method_10_code
def yX5_settle : MethodName := ⟨RX5, "settle", "(I)I"⟩
abbrev cX5_type : ByteArray := prog_1_method_11_code
def yX5_type : MethodName := ⟨RX5, "type", "(C)I"⟩
abbrev cX5_clearText : ByteArray := prog_1_method_12_code
def yX5_clearText : MethodName := ⟨RX5, "clearText", "()I"⟩
abbrev cX5_perform : ByteArray := prog_1_method_13_code
def yX5_perform : MethodName := ⟨RX5, "perform", "()I"⟩
abbrev cX5_performOnce : ByteArray := prog_1_method_14_code
def yX5_performOnce : MethodName := ⟨RX5, "performOnce", "(I)I"⟩
abbrev cX5_noteRefusal : ByteArray := prog_1_method_15_code
def yX5_noteRefusal : MethodName := ⟨RX5, "noteRefusal", "(III)V"⟩
abbrev cX5_refusal : ByteArray := prog_1_method_16_code
def yX5_refusal : MethodName := ⟨RX5, "refusal", "(I)I"⟩
abbrev cX5_undo : ByteArray := prog_1_method_17_code
def yX5_undo : MethodName := ⟨RX5, "undo", "()I"⟩
abbrev cX5_keep : ByteArray := prog_1_method_18_code
def yX5_keep : MethodName := ⟨RX5, "keep", "()I"⟩
abbrev cX5_restore : ByteArray := prog_1_method_19_code
def yX5_restore : MethodName := ⟨RX5, "restore", "()I"⟩
abbrev cX5_page : ByteArray := prog_1_method_20_code
def yX5_page : MethodName := ⟨RX5, "page", "(II)I"⟩
abbrev cX5_block : ByteArray := prog_1_method_21_code
def yX5_block : MethodName := ⟨RX5, "block", "(II)I"⟩
abbrev cX5_place : ByteArray := prog_1_method_22_code
def yX5_place : MethodName := ⟨RX5, "place", "(III)I"⟩
abbrev cX5_marked : ByteArray := prog_1_method_23_code
def yX5_marked : MethodName := ⟨RX5, "marked", "(I)I"⟩
abbrev cX5_quietIn : ByteArray := prog_1_method_24_code
def yX5_quietIn : MethodName := ⟨RX5, "quietIn", "()I"⟩
abbrev cX5_erasure : ByteArray := prog_1_method_25_code
def yX5_erasure : MethodName := ⟨RX5, "erasure", "(II)I"⟩
abbrev cX5_count : ByteArray := prog_1_method_26_code
def yX5_count : MethodName := ⟨RX5, "count", "(I)I"⟩
abbrev cX5_setting : ByteArray := prog_1_method_27_code
def yX5_setting : MethodName := ⟨RX5, "setting", "(I)I"⟩
abbrev cX5_isPage : ByteArray := prog_1_method_28_code
def yX5_isPage : MethodName := ⟨RX5, "isPage", "(I)Z"⟩
abbrev cX5_isBlock : ByteArray := prog_1_method_29_code
def yX5_isBlock : MethodName := ⟨RX5, "isBlock", "(I)Z"⟩
abbrev cX5_isSetting : ByteArray := prog_1_method_30_code
def yX5_isSetting : MethodName := ⟨RX5, "isSetting", "(I)Z"⟩
def RX6 : String := "WeakenedPagesModel"
def TX6 : u_T := fun k => match k with
  | 0 => ("WeakenedPagesModel", "now", "[I", true)
  | 1 => ("WeakenedPagesModel", "then", "[I", true)
  | 2 => ("WeakenedPagesModel", "back", "[I", true)
  | 3 => ("WeakenedPagesModel", "past", "[I", true)
  | 4 => ("WeakenedPagesModel", "kept", "I", false)
  | 5 => ("WeakenedPagesModel", "shot", "[I", true)
  | 6 => ("WeakenedPagesModel", "isShot", "Z", false)
  | 7 => ("WeakenedPagesModel", "text", "[I", true)
  | 8 => ("WeakenedPagesModel", "typed", "I", false)
  | 9 => ("WeakenedPagesModel", "at", "I", false)
  | 10 => ("WeakenedPagesModel", "value", "I", false)
  | 11 => ("WeakenedPagesModel", "told", "[I", true)
  | 12 => ("WeakenedPagesModel", "tolds", "I", false)
  | 13 => ("WeakenedPagesModel", "refused", "[I", true)
  | _ => ("WeakenedPagesModel", "isRefused", "Z", false)
def tyX6 : Nat → FieldType := fun k => match k with
  | 0 => .array .int
  | 1 => .array .int
  | 2 => .array .int
  | 3 => .array .int
  | 4 => .int
  | 5 => .array .int
  | 6 => .boolean
  | 7 => .array .int
  | 8 => .int
  | 9 => .int
  | 10 => .int
  | 11 => .array .int
  | 12 => .int
  | 13 => .array .int
  | _ => .boolean
abbrev wsX60 : List Cond := u_ws RX6 TX6 15
theorem nmX6 : ∀ a, a < 15 → ∀ b, b < 15 → a ≠ b → (TX6 a).2.1 ≠ (TX6 b).2.1 := by decide +kernel
theorem tyX6_ok : ∀ k, k < 15 → parseFieldDescriptor (TX6 k).2.2.1 = some (tyX6 k) := by decide +kernel
abbrev cX6_init : ByteArray := prog_8_method_1_code
def yX6_init : MethodName := ⟨RX6, "<init>", "()V"⟩
abbrev cX6_in : ByteArray := prog_8_method_3_code
def yX6_in : MethodName := ⟨RX6, "in", "(III)Z"⟩
abbrev cX6_isPage : ByteArray := prog_8_method_4_code
def yX6_isPage : MethodName := ⟨RX6, "isPage", "(I)Z"⟩
abbrev cX6_isBlock : ByteArray := prog_8_method_5_code
def yX6_isBlock : MethodName := ⟨RX6, "isBlock", "(I)Z"⟩
abbrev cX6_lays : ByteArray := prog_8_method_6_code
def yX6_lays : MethodName := ⟨RX6, "lays", "([II[II)V"⟩
abbrev cX6_records : ByteArray := prog_8_method_7_code
def yX6_records : MethodName := ⟨RX6, "records", "()V"⟩
abbrev cX6_becomes : ByteArray := prog_8_method_8_code
def yX6_becomes : MethodName := ⟨RX6, "becomes", "(I)I"⟩
abbrev cX6_tries : ByteArray := prog_8_method_9_code
def yX6_tries : MethodName := ⟨RX6, "tries", "()V"⟩
abbrev cX6_undo : ByteArray := prog_8_method_10_code
def yX6_undo : MethodName := ⟨RX6, "undo", "()I"⟩
abbrev cX6_keep : ByteArray := prog_8_method_11_code
def yX6_keep : MethodName := ⟨RX6, "keep", "()I"⟩
abbrev cX6_restore : ByteArray := prog_8_method_12_code
def yX6_restore : MethodName := ⟨RX6, "restore", "()I"⟩
abbrev cX6_holds : ByteArray := prog_8_method_13_code
def yX6_holds : MethodName := ⟨RX6, "holds", "([II)I"⟩
abbrev cX6_weak : ByteArray := prog_8_method_14_code
def yX6_weak : MethodName := ⟨RX6, "weak", "([II)I"⟩
abbrev cX6_placeOf : ByteArray := prog_8_method_15_code
def yX6_placeOf : MethodName := ⟨RX6, "placeOf", "([II)I"⟩
abbrev cX6_kind : ByteArray := prog_8_method_16_code
def yX6_kind : MethodName := ⟨RX6, "kind", "([II)I"⟩
abbrev cX6_bears : ByteArray := prog_8_method_17_code
def yX6_bears : MethodName := ⟨RX6, "bears", "([II)I"⟩
abbrev cX6_many : ByteArray := prog_8_method_18_code
def yX6_many : MethodName := ⟨RX6, "many", "([III)I"⟩
abbrev cX6_isFree : ByteArray := prog_8_method_19_code
def yX6_isFree : MethodName := ⟨RX6, "isFree", "([II)Z"⟩
abbrev cX6_free : ByteArray := prog_8_method_20_code
def yX6_free : MethodName := ⟨RX6, "free", "([I)I"⟩
abbrev cX6_weaker : ByteArray := prog_8_method_21_code
def yX6_weaker : MethodName := ⟨RX6, "weaker", "([III)I"⟩
abbrev cX6_readsLeft : ByteArray := prog_8_method_22_code
def yX6_readsLeft : MethodName := ⟨RX6, "readsLeft", "([II)I"⟩
abbrev cX6_reads : ByteArray := prog_8_method_23_code
def yX6_reads : MethodName := ⟨RX6, "reads", "([II)V"⟩
abbrev cX6_greatest : ByteArray := prog_8_method_24_code
def yX6_greatest : MethodName := ⟨RX6, "greatest", "([II)I"⟩
abbrev cX6_hundredths : ByteArray := prog_8_method_25_code
def yX6_hundredths : MethodName := ⟨RX6, "hundredths", "([II)I"⟩
abbrev cX6_isMarked : ByteArray := prog_8_method_26_code
def yX6_isMarked : MethodName := ⟨RX6, "isMarked", "([II)Z"⟩
abbrev cX6_marks : ByteArray := prog_8_method_27_code
def yX6_marks : MethodName := ⟨RX6, "marks", "([I)I"⟩
abbrev cX6_markedAt : ByteArray := prog_8_method_28_code
def yX6_markedAt : MethodName := ⟨RX6, "markedAt", "([II)I"⟩
abbrev cX6_buffered : ByteArray := prog_8_method_29_code
def yX6_buffered : MethodName := ⟨RX6, "buffered", "([II)I"⟩
abbrev cX6_leaves : ByteArray := prog_8_method_30_code
def yX6_leaves : MethodName := ⟨RX6, "leaves", "([II)V"⟩
abbrev cX6_fronts : ByteArray := prog_8_method_31_code
def yX6_fronts : MethodName := ⟨RX6, "fronts", "([II)V"⟩
abbrev cX6_isOpenFull : ByteArray := prog_8_method_32_code
def yX6_isOpenFull : MethodName := ⟨RX6, "isOpenFull", "([I)Z"⟩
abbrev cX6_bestFree : ByteArray := prog_8_method_33_code
def yX6_bestFree : MethodName := ⟨RX6, "bestFree", "([I)I"⟩
abbrev cX6_gives : ByteArray := prog_8_method_34_code
def yX6_gives : MethodName := ⟨RX6, "gives", "([II)I"⟩
abbrev cX6_lowestPage : ByteArray := prog_8_method_35_code
def yX6_lowestPage : MethodName := ⟨RX6, "lowestPage", "([II)I"⟩
abbrev cX6_shuts : ByteArray := prog_8_method_36_code
def yX6_shuts : MethodName := ⟨RX6, "shuts", "([II)V"⟩
abbrev cX6_moves : ByteArray := prog_8_method_37_code
def yX6_moves : MethodName := ⟨RX6, "moves", "([II)Z"⟩
abbrev cX6_erases : ByteArray := prog_8_method_38_code
def yX6_erases : MethodName := ⟨RX6, "erases", "([II)V"⟩
abbrev cX6_movesAll : ByteArray := prog_8_method_39_code
def yX6_movesAll : MethodName := ⟨RX6, "movesAll", "([II)I"⟩
abbrev cX6_ticksOn : ByteArray := prog_8_method_40_code
def yX6_ticksOn : MethodName := ⟨RX6, "ticksOn", "([I)I"⟩
abbrev cX6_writesOn : ByteArray := prog_8_method_41_code
def yX6_writesOn : MethodName := ⟨RX6, "writesOn", "([II)I"⟩
abbrev cX6_readsOn : ByteArray := prog_8_method_42_code
def yX6_readsOn : MethodName := ⟨RX6, "readsOn", "([II)I"⟩
abbrev cX6_passesOn : ByteArray := prog_8_method_43_code
def yX6_passesOn : MethodName := ⟨RX6, "passesOn", "([II)I"⟩
abbrev cX6_isFor : ByteArray := prog_8_method_44_code
def yX6_isFor : MethodName := ⟨RX6, "isFor", "(II)Z"⟩
abbrev cX6_set : ByteArray := prog_8_method_45_code
def yX6_set : MethodName := ⟨RX6, "set", "(II)I"⟩
abbrev cX6_setKind : ByteArray := prog_8_method_46_code
def yX6_setKind : MethodName := ⟨RX6, "setKind", "(II)I"⟩
abbrev cX6_mark : ByteArray := prog_8_method_47_code
def yX6_mark : MethodName := ⟨RX6, "mark", "(IZ)I"⟩
abbrev cX6_write : ByteArray := prog_8_method_48_code
def yX6_write : MethodName := ⟨RX6, "write", "(I)I"⟩
abbrev cX6_read : ByteArray := prog_8_method_49_code
def yX6_read : MethodName := ⟨RX6, "read", "(I)I"⟩
abbrev cX6_placed : ByteArray := prog_8_method_50_code
def yX6_placed : MethodName := ⟨RX6, "placed", "([I)I"⟩
abbrev cX6_forget : ByteArray := prog_8_method_51_code
def yX6_forget : MethodName := ⟨RX6, "forget", "(I)I"⟩
abbrev cX6_moveBlock : ByteArray := prog_8_method_52_code
def yX6_moveBlock : MethodName := ⟨RX6, "moveBlock", "(I)I"⟩
abbrev cX6_pass : ByteArray := prog_8_method_53_code
def yX6_pass : MethodName := ⟨RX6, "pass", "(I)I"⟩
abbrev cX6_type : ByteArray := prog_8_method_54_code
def yX6_type : MethodName := ⟨RX6, "type", "(C)I"⟩
abbrev cX6_clearText : ByteArray := prog_8_method_55_code
def yX6_clearText : MethodName := ⟨RX6, "clearText", "()I"⟩
abbrev cX6_isAt : ByteArray := prog_8_method_56_code
def yX6_isAt : MethodName := ⟨RX6, "isAt", "(II)Z"⟩
abbrev cX6_isSign : ByteArray := prog_8_method_57_code
def yX6_isSign : MethodName := ⟨RX6, "isSign", "(I)Z"⟩
abbrev cX6_isNumber : ByteArray := prog_8_method_58_code
def yX6_isNumber : MethodName := ⟨RX6, "isNumber", "(II)Z"⟩
abbrev cX6_isOrder : ByteArray := prog_8_method_59_code
def yX6_isOrder : MethodName := ⟨RX6, "isOrder", "()Z"⟩
abbrev cX6_isText : ByteArray := prog_8_method_60_code
def yX6_isText : MethodName := ⟨RX6, "isText", "()Z"⟩
abbrev cX6_doesOnce : ByteArray := prog_8_method_61_code
def yX6_doesOnce : MethodName := ⟨RX6, "doesOnce", "(I)I"⟩
abbrev cX6_perform : ByteArray := prog_8_method_62_code
def yX6_perform : MethodName := ⟨RX6, "perform", "()I"⟩
abbrev cX6_refusal : ByteArray := prog_8_method_63_code
def yX6_refusal : MethodName := ⟨RX6, "refusal", "(I)I"⟩
abbrev cX6_page : ByteArray := prog_8_method_64_code
def yX6_page : MethodName := ⟨RX6, "page", "(II)I"⟩
abbrev cX6_block : ByteArray := prog_8_method_65_code
def yX6_block : MethodName := ⟨RX6, "block", "(II)I"⟩
abbrev cX6_place : ByteArray := prog_8_method_66_code
def yX6_place : MethodName := ⟨RX6, "place", "(III)I"⟩
abbrev cX6_marked : ByteArray := prog_8_method_67_code
def yX6_marked : MethodName := ⟨RX6, "marked", "(I)I"⟩
abbrev cX6_quietIn : ByteArray := prog_8_method_68_code
def yX6_quietIn : MethodName := ⟨RX6, "quietIn", "()I"⟩
abbrev cX6_erasure : ByteArray := prog_8_method_69_code
def yX6_erasure : MethodName := ⟨RX6, "erasure", "(II)I"⟩
abbrev cX6_weakest : ByteArray := prog_8_method_70_code
def yX6_weakest : MethodName := ⟨RX6, "weakest", "()I"⟩
abbrev cX6_count : ByteArray := prog_8_method_71_code
def yX6_count : MethodName := ⟨RX6, "count", "(I)I"⟩
abbrev cX6_setting : ByteArray := prog_8_method_72_code
def yX6_setting : MethodName := ⟨RX6, "setting", "(I)I"⟩
def RL : String := "WeakenedPagesLaw"
abbrev cL_law : ByteArray := code
def yL_law : MethodName := ⟨RL, "law", "([I)Z"⟩
abbrev vwCl : List vw_C := [(RX0, TX0, 2), (RX1, TX1, 4), (RX2, TX2, 2), (RX3, TX3, 7), (RX4, TX4, 18), (RX5, TX5, 11), (RX6, TX6, 15)]
def W0 : List Cond := lw_tbl.filter goodWord
theorem W0_good : ∀ w ∈ W0, goodWord w = true := fun w h => (List.mem_filter.mp h).2
theorem W0_tbl : ∀ w ∈ W0, w ∈ lw_tbl := fun w h => (List.mem_filter.mp h).1
theorem W0_of {w : Cond} (h : w ∈ lw_tbl) (hg : goodWord w = true) : w ∈ W0 := List.mem_filter.mpr ⟨h, hg⟩
end
section
theorem k_ini_RL : Cond.initialized RL ∈ lw_tbl := List.mem_of_getElem? (i := 14) (by decide +kernel)
theorem k_ini_RX5 : Cond.initialized RX5 ∈ lw_tbl := List.mem_of_getElem? (i := 15) (by decide +kernel)
theorem k_ini_RX4 : Cond.initialized RX4 ∈ lw_tbl := List.mem_of_getElem? (i := 16) (by decide +kernel)
theorem k_ini_RX0 : Cond.initialized RX0 ∈ lw_tbl := List.mem_of_getElem? (i := 17) (by decide +kernel)
theorem k_ini_RX1 : Cond.initialized RX1 ∈ lw_tbl := List.mem_of_getElem? (i := 18) (by decide +kernel)
theorem k_ini_System : Cond.initialized "java/lang/System" ∈ lw_tbl := List.mem_of_getElem? (i := 19) (by decide +kernel)
theorem k_ini_RX2 : Cond.initialized RX2 ∈ lw_tbl := List.mem_of_getElem? (i := 20) (by decide +kernel)
theorem k_ini_RX3 : Cond.initialized RX3 ∈ lw_tbl := List.mem_of_getElem? (i := 21) (by decide +kernel)
theorem k_ini_RX6 : Cond.initialized RX6 ∈ lw_tbl := List.mem_of_getElem? (i := 22) (by decide +kernel)
theorem k_ini_Math : Cond.initialized "java/lang/Math" ∈ lw_tbl := List.mem_of_getElem? (i := 23) (by decide +kernel)
theorem k_cl_RL_7 : Cond.classLink RL 7 RX5 ∈ lw_tbl := List.mem_of_getElem? (i := 24) (by decide +kernel)
theorem k_new_RX5 : Cond.instantiable RX5 11 ∈ lw_tbl := List.mem_of_getElem? (i := 25) (by decide +kernel)
theorem k_ml_RL_9 : Cond.methodLink RL 9 yX5_init ∈ lw_tbl := List.mem_of_getElem? (i := 26) (by decide +kernel)
theorem k_inst_yX5_init : Cond.instanceMethod yX5_init ∈ lw_tbl := List.mem_of_getElem? (i := 27) (by decide +kernel)
theorem k_code_yX5_init : Cond.code yX5_init prog_1_method_1_code 1 none ∈ lw_tbl := List.mem_of_getElem? (i := 28) (by decide +kernel)
theorem k_ml_RX5_1 : Cond.methodLink RX5 1 objectInit ∈ lw_tbl := List.mem_of_getElem? (i := 29) (by decide +kernel)
theorem k_inst_objectInit : Cond.instanceMethod objectInit ∈ lw_tbl := List.mem_of_getElem? (i := 30) (by decide +kernel)
theorem k_code_objectInit : Cond.code objectInit object_method_1_code 1 none ∈ lw_tbl := List.mem_of_getElem? (i := 31) (by decide +kernel)
theorem k_cl_RX5_7 : Cond.classLink RX5 7 RX4 ∈ lw_tbl := List.mem_of_getElem? (i := 32) (by decide +kernel)
theorem k_new_RX4 : Cond.instantiable RX4 18 ∈ lw_tbl := List.mem_of_getElem? (i := 33) (by decide +kernel)
theorem k_ml_RX5_9 : Cond.methodLink RX5 9 yX4_init ∈ lw_tbl := List.mem_of_getElem? (i := 34) (by decide +kernel)
theorem k_inst_yX4_init : Cond.instanceMethod yX4_init ∈ lw_tbl := List.mem_of_getElem? (i := 35) (by decide +kernel)
theorem k_code_yX4_init : Cond.code yX4_init prog_6_method_1_code 2 none ∈ lw_tbl := List.mem_of_getElem? (i := 36) (by decide +kernel)
theorem k_ml_RX4_3 : Cond.methodLink RX4 3 objectInit ∈ lw_tbl := List.mem_of_getElem? (i := 37) (by decide +kernel)
theorem k_cl_RX4_46 : Cond.classLink RX4 46 RX0 ∈ lw_tbl := List.mem_of_getElem? (i := 38) (by decide +kernel)
theorem k_new_RX0 : Cond.instantiable RX0 2 ∈ lw_tbl := List.mem_of_getElem? (i := 39) (by decide +kernel)
theorem k_mn_RX4_48 : Cond.methodLinkNest RX4 48 yX0_init "WeakenedPages" ∈ lw_tbl := List.mem_of_getElem? (i := 40) (by decide +kernel)
theorem k_inst_yX0_init : Cond.instanceMethod yX0_init ∈ lw_tbl := List.mem_of_getElem? (i := 41) (by decide +kernel)
theorem k_code_yX0_init : Cond.code yX0_init prog_2_method_1_code 1 none ∈ lw_tbl := List.mem_of_getElem? (i := 42) (by decide +kernel)
theorem k_ml_RX0_3 : Cond.methodLink RX0 3 objectInit ∈ lw_tbl := List.mem_of_getElem? (i := 43) (by decide +kernel)
theorem k_fl_RX0_9 : Cond.fieldLink RX0 9 (TX0 0).1 (TX0 0).2.1 (TX0 0).2.2.1 ∈ lw_tbl := List.mem_of_getElem? (i := 44) (by decide +kernel)
theorem k_fl_RX0_15 : Cond.fieldLink RX0 15 (TX0 1).1 (TX0 1).2.1 (TX0 1).2.2.1 ∈ lw_tbl := List.mem_of_getElem? (i := 45) (by decide +kernel)
theorem k_fl_RX5_245 : Cond.fieldLink RX5 245 (TX0 1).1 (TX0 1).2.1 (TX0 1).2.2.1 ∈ lw_tbl := List.mem_of_getElem? (i := 46) (by decide +kernel)
theorem k_arr_int : Cond.arrayClass .int ∈ lw_tbl := List.mem_of_getElem? (i := 52) (by decide +kernel)
theorem k_arr_boolean : Cond.arrayClass .boolean ∈ lw_tbl := List.mem_of_getElem? (i := 53) (by decide +kernel)
theorem k_cl_RX4_53 : Cond.classLink RX4 53 RX1 ∈ lw_tbl := List.mem_of_getElem? (i := 54) (by decide +kernel)
theorem k_new_RX1 : Cond.instantiable RX1 4 ∈ lw_tbl := List.mem_of_getElem? (i := 55) (by decide +kernel)
theorem k_mn_RX4_55 : Cond.methodLinkNest RX4 55 yX1_init "WeakenedPages" ∈ lw_tbl := List.mem_of_getElem? (i := 56) (by decide +kernel)
theorem k_inst_yX1_init : Cond.instanceMethod yX1_init ∈ lw_tbl := List.mem_of_getElem? (i := 57) (by decide +kernel)
theorem k_code_yX1_init : Cond.code yX1_init prog_3_method_1_code 1 none ∈ lw_tbl := List.mem_of_getElem? (i := 58) (by decide +kernel)
theorem k_ml_RX1_3 : Cond.methodLink RX1 3 objectInit ∈ lw_tbl := List.mem_of_getElem? (i := 59) (by decide +kernel)
theorem k_fl_RX1_9 : Cond.fieldLink RX1 9 (TX1 0).1 (TX1 0).2.1 (TX1 0).2.2.1 ∈ lw_tbl := List.mem_of_getElem? (i := 60) (by decide +kernel)
theorem k_fl_RX5_220 : Cond.fieldLink RX5 220 (TX1 0).1 (TX1 0).2.1 (TX1 0).2.2.1 ∈ lw_tbl := List.mem_of_getElem? (i := 61) (by decide +kernel)
theorem k_fl_RX1_15 : Cond.fieldLink RX1 15 (TX1 1).1 (TX1 1).2.1 (TX1 1).2.2.1 ∈ lw_tbl := List.mem_of_getElem? (i := 62) (by decide +kernel)
theorem k_fl_RX5_223 : Cond.fieldLink RX5 223 (TX1 1).1 (TX1 1).2.1 (TX1 1).2.2.1 ∈ lw_tbl := List.mem_of_getElem? (i := 63) (by decide +kernel)
theorem k_fl_RX1_18 : Cond.fieldLink RX1 18 (TX1 2).1 (TX1 2).2.1 (TX1 2).2.2.1 ∈ lw_tbl := List.mem_of_getElem? (i := 64) (by decide +kernel)
theorem k_fl_RX5_226 : Cond.fieldLink RX5 226 (TX1 2).1 (TX1 2).2.1 (TX1 2).2.2.1 ∈ lw_tbl := List.mem_of_getElem? (i := 65) (by decide +kernel)
theorem k_fl_RX1_21 : Cond.fieldLink RX1 21 (TX1 3).1 (TX1 3).2.1 (TX1 3).2.2.1 ∈ lw_tbl := List.mem_of_getElem? (i := 66) (by decide +kernel)
theorem k_fl_RX5_215 : Cond.fieldLink RX5 215 (TX1 3).1 (TX1 3).2.1 (TX1 3).2.2.1 ∈ lw_tbl := List.mem_of_getElem? (i := 67) (by decide +kernel)
theorem k_fn_RX4_76 : Cond.fieldLinkNest RX4 76 "WeakenedPages" "FIRST_KINDS" "[I" "WeakenedPages" ∈ lw_tbl := List.mem_of_getElem? (i := 77) (by decide +kernel)
theorem k_ls_FIRST_KINDS : Cond.laysStatic "WeakenedPages" "FIRST_KINDS" "[I" ∈ lw_tbl := List.mem_of_getElem? (i := 78) (by decide +kernel)
theorem k_ml_RX4_79 : Cond.methodLink RX4 79 arraycopyName ∈ lw_tbl := List.mem_of_getElem? (i := 79) (by decide +kernel)
theorem k_stat_arraycopyName : Cond.static arraycopyName ∈ lw_tbl := List.mem_of_getElem? (i := 80) (by decide +kernel)
theorem k_nati_arraycopyName : Cond.native arraycopyName ∈ lw_tbl := List.mem_of_getElem? (i := 81) (by decide +kernel)
theorem k_fn_RX4_85 : Cond.fieldLinkNest RX4 85 "WeakenedPages" "FIRST_SETTINGS" "[I" "WeakenedPages" ∈ lw_tbl := List.mem_of_getElem? (i := 82) (by decide +kernel)
theorem k_ls_FIRST_SETTINGS : Cond.laysStatic "WeakenedPages" "FIRST_SETTINGS" "[I" ∈ lw_tbl := List.mem_of_getElem? (i := 83) (by decide +kernel)
theorem k_fl_RX4_9 : Cond.fieldLink RX4 9 (TX4 0).1 (TX4 0).2.1 (TX4 0).2.2.1 ∈ lw_tbl := List.mem_of_getElem? (i := 84) (by decide +kernel)
theorem k_fl_RX5_168 : Cond.fieldLink RX5 168 (TX4 0).1 (TX4 0).2.1 (TX4 0).2.2.1 ∈ lw_tbl := List.mem_of_getElem? (i := 85) (by decide +kernel)
theorem k_fl_RX4_15 : Cond.fieldLink RX4 15 (TX4 1).1 (TX4 1).2.1 (TX4 1).2.2.1 ∈ lw_tbl := List.mem_of_getElem? (i := 86) (by decide +kernel)
theorem k_fl_RX5_171 : Cond.fieldLink RX5 171 (TX4 1).1 (TX4 1).2.1 (TX4 1).2.2.1 ∈ lw_tbl := List.mem_of_getElem? (i := 87) (by decide +kernel)
theorem k_fl_RX4_18 : Cond.fieldLink RX4 18 (TX4 2).1 (TX4 2).2.1 (TX4 2).2.2.1 ∈ lw_tbl := List.mem_of_getElem? (i := 88) (by decide +kernel)
theorem k_fl_RX5_195 : Cond.fieldLink RX5 195 (TX4 2).1 (TX4 2).2.1 (TX4 2).2.2.1 ∈ lw_tbl := List.mem_of_getElem? (i := 89) (by decide +kernel)
theorem k_fl_RX4_22 : Cond.fieldLink RX4 22 (TX4 3).1 (TX4 3).2.1 (TX4 3).2.2.1 ∈ lw_tbl := List.mem_of_getElem? (i := 90) (by decide +kernel)
theorem k_fl_RX5_192 : Cond.fieldLink RX5 192 (TX4 3).1 (TX4 3).2.1 (TX4 3).2.2.1 ∈ lw_tbl := List.mem_of_getElem? (i := 91) (by decide +kernel)
theorem k_fl_RX4_25 : Cond.fieldLink RX4 25 (TX4 4).1 (TX4 4).2.1 (TX4 4).2.2.1 ∈ lw_tbl := List.mem_of_getElem? (i := 92) (by decide +kernel)
theorem k_fl_RX5_180 : Cond.fieldLink RX5 180 (TX4 4).1 (TX4 4).2.1 (TX4 4).2.2.1 ∈ lw_tbl := List.mem_of_getElem? (i := 93) (by decide +kernel)
theorem k_fl_RX4_28 : Cond.fieldLink RX4 28 (TX4 5).1 (TX4 5).2.1 (TX4 5).2.2.1 ∈ lw_tbl := List.mem_of_getElem? (i := 94) (by decide +kernel)
theorem k_fl_RX5_199 : Cond.fieldLink RX5 199 (TX4 5).1 (TX4 5).2.1 (TX4 5).2.2.1 ∈ lw_tbl := List.mem_of_getElem? (i := 95) (by decide +kernel)
theorem k_fl_RX4_31 : Cond.fieldLink RX4 31 (TX4 6).1 (TX4 6).2.1 (TX4 6).2.2.1 ∈ lw_tbl := List.mem_of_getElem? (i := 96) (by decide +kernel)
theorem k_fl_RX5_156 : Cond.fieldLink RX5 156 (TX4 6).1 (TX4 6).2.1 (TX4 6).2.2.1 ∈ lw_tbl := List.mem_of_getElem? (i := 97) (by decide +kernel)
theorem k_fl_RX4_34 : Cond.fieldLink RX4 34 (TX4 7).1 (TX4 7).2.1 (TX4 7).2.2.1 ∈ lw_tbl := List.mem_of_getElem? (i := 98) (by decide +kernel)
theorem k_fl_RX5_159 : Cond.fieldLink RX5 159 (TX4 7).1 (TX4 7).2.1 (TX4 7).2.2.1 ∈ lw_tbl := List.mem_of_getElem? (i := 99) (by decide +kernel)
theorem k_fl_RX4_37 : Cond.fieldLink RX4 37 (TX4 8).1 (TX4 8).2.1 (TX4 8).2.2.1 ∈ lw_tbl := List.mem_of_getElem? (i := 100) (by decide +kernel)
theorem k_fl_RX5_153 : Cond.fieldLink RX5 153 (TX4 8).1 (TX4 8).2.1 (TX4 8).2.2.1 ∈ lw_tbl := List.mem_of_getElem? (i := 101) (by decide +kernel)
theorem k_fl_RX4_40 : Cond.fieldLink RX4 40 (TX4 9).1 (TX4 9).2.1 (TX4 9).2.2.1 ∈ lw_tbl := List.mem_of_getElem? (i := 102) (by decide +kernel)
theorem k_fl_RX5_146 : Cond.fieldLink RX5 146 (TX4 9).1 (TX4 9).2.1 (TX4 9).2.2.1 ∈ lw_tbl := List.mem_of_getElem? (i := 103) (by decide +kernel)
theorem k_fl_RX4_43 : Cond.fieldLink RX4 43 (TX4 10).1 (TX4 10).2.1 (TX4 10).2.2.1 ∈ lw_tbl := List.mem_of_getElem? (i := 104) (by decide +kernel)
theorem k_fl_RX5_255 : Cond.fieldLink RX5 255 (TX4 10).1 (TX4 10).2.1 (TX4 10).2.2.1 ∈ lw_tbl := List.mem_of_getElem? (i := 105) (by decide +kernel)
theorem k_fl_RX4_49 : Cond.fieldLink RX4 49 (TX4 11).1 (TX4 11).2.1 (TX4 11).2.2.1 ∈ lw_tbl := List.mem_of_getElem? (i := 106) (by decide +kernel)
theorem k_fl_RX5_137 : Cond.fieldLink RX5 137 (TX4 11).1 (TX4 11).2.1 (TX4 11).2.2.1 ∈ lw_tbl := List.mem_of_getElem? (i := 107) (by decide +kernel)
theorem k_fl_RX4_56 : Cond.fieldLink RX4 56 (TX4 12).1 (TX4 12).2.1 (TX4 12).2.2.1 ∈ lw_tbl := List.mem_of_getElem? (i := 108) (by decide +kernel)
theorem k_fl_RX5_211 : Cond.fieldLink RX5 211 (TX4 12).1 (TX4 12).2.1 (TX4 12).2.2.1 ∈ lw_tbl := List.mem_of_getElem? (i := 109) (by decide +kernel)
theorem k_fl_RX4_60 : Cond.fieldLink RX4 60 (TX4 13).1 (TX4 13).2.1 (TX4 13).2.2.1 ∈ lw_tbl := List.mem_of_getElem? (i := 110) (by decide +kernel)
theorem k_fl_RX5_233 : Cond.fieldLink RX5 233 (TX4 13).1 (TX4 13).2.1 (TX4 13).2.2.1 ∈ lw_tbl := List.mem_of_getElem? (i := 111) (by decide +kernel)
theorem k_fl_RX4_64 : Cond.fieldLink RX4 64 (TX4 14).1 (TX4 14).2.1 (TX4 14).2.2.1 ∈ lw_tbl := List.mem_of_getElem? (i := 112) (by decide +kernel)
theorem k_fl_RX5_130 : Cond.fieldLink RX5 130 (TX4 14).1 (TX4 14).2.1 (TX4 14).2.2.1 ∈ lw_tbl := List.mem_of_getElem? (i := 113) (by decide +kernel)
theorem k_fl_RX4_67 : Cond.fieldLink RX4 67 (TX4 15).1 (TX4 15).2.1 (TX4 15).2.2.1 ∈ lw_tbl := List.mem_of_getElem? (i := 114) (by decide +kernel)
theorem k_fl_RX5_236 : Cond.fieldLink RX5 236 (TX4 15).1 (TX4 15).2.1 (TX4 15).2.2.1 ∈ lw_tbl := List.mem_of_getElem? (i := 115) (by decide +kernel)
theorem k_fl_RX4_70 : Cond.fieldLink RX4 70 (TX4 16).1 (TX4 16).2.1 (TX4 16).2.2.1 ∈ lw_tbl := List.mem_of_getElem? (i := 116) (by decide +kernel)
theorem k_fl_RX5_239 : Cond.fieldLink RX5 239 (TX4 16).1 (TX4 16).2.1 (TX4 16).2.2.1 ∈ lw_tbl := List.mem_of_getElem? (i := 117) (by decide +kernel)
theorem k_fl_RX4_73 : Cond.fieldLink RX4 73 (TX4 17).1 (TX4 17).2.1 (TX4 17).2.2.1 ∈ lw_tbl := List.mem_of_getElem? (i := 118) (by decide +kernel)
theorem k_fl_RX5_242 : Cond.fieldLink RX5 242 (TX4 17).1 (TX4 17).2.1 (TX4 17).2.2.1 ∈ lw_tbl := List.mem_of_getElem? (i := 119) (by decide +kernel)
theorem k_cl_RX5_29 : Cond.classLink RX5 29 RX2 ∈ lw_tbl := List.mem_of_getElem? (i := 157) (by decide +kernel)
theorem k_new_RX2 : Cond.instantiable RX2 2 ∈ lw_tbl := List.mem_of_getElem? (i := 158) (by decide +kernel)
theorem k_ml_RX5_31 : Cond.methodLink RX5 31 yX2_init ∈ lw_tbl := List.mem_of_getElem? (i := 159) (by decide +kernel)
theorem k_inst_yX2_init : Cond.instanceMethod yX2_init ∈ lw_tbl := List.mem_of_getElem? (i := 160) (by decide +kernel)
theorem k_code_yX2_init : Cond.code yX2_init prog_4_method_1_code 2 none ∈ lw_tbl := List.mem_of_getElem? (i := 161) (by decide +kernel)
theorem k_ml_RX2_3 : Cond.methodLink RX2 3 objectInit ∈ lw_tbl := List.mem_of_getElem? (i := 162) (by decide +kernel)
theorem k_cl_RX2_9 : Cond.classLink RX2 9 RX4 ∈ lw_tbl := List.mem_of_getElem? (i := 163) (by decide +kernel)
theorem k_ao : Cond.arrayOver (.object "WeakenedPages$Store") ∈ lw_tbl := List.mem_of_getElem? (i := 164) (by decide +kernel)
theorem k_ml_RX2_21 : Cond.methodLink RX2 21 yX4_init ∈ lw_tbl := List.mem_of_getElem? (i := 165) (by decide +kernel)
theorem k_fl_RX2_11 : Cond.fieldLink RX2 11 (TX2 0).1 (TX2 0).2.1 (TX2 0).2.2.1 ∈ lw_tbl := List.mem_of_getElem? (i := 166) (by decide +kernel)
theorem k_fl_RX2_17 : Cond.fieldLink RX2 17 (TX2 1).1 (TX2 1).2.1 (TX2 1).2.2.1 ∈ lw_tbl := List.mem_of_getElem? (i := 167) (by decide +kernel)
theorem k_fl_RX5_124 : Cond.fieldLink RX5 124 (TX2 1).1 (TX2 1).2.1 (TX2 1).2.2.1 ∈ lw_tbl := List.mem_of_getElem? (i := 168) (by decide +kernel)
theorem k_cl_RX5_36 : Cond.classLink RX5 36 RX3 ∈ lw_tbl := List.mem_of_getElem? (i := 174) (by decide +kernel)
theorem k_new_RX3 : Cond.instantiable RX3 7 ∈ lw_tbl := List.mem_of_getElem? (i := 175) (by decide +kernel)
theorem k_mn_RX5_38 : Cond.methodLinkNest RX5 38 yX3_init "WeakenedPages" ∈ lw_tbl := List.mem_of_getElem? (i := 176) (by decide +kernel)
theorem k_inst_yX3_init : Cond.instanceMethod yX3_init ∈ lw_tbl := List.mem_of_getElem? (i := 177) (by decide +kernel)
theorem k_code_yX3_init : Cond.code yX3_init prog_5_method_1_code 1 none ∈ lw_tbl := List.mem_of_getElem? (i := 178) (by decide +kernel)
theorem k_ml_RX3_3 : Cond.methodLink RX3 3 objectInit ∈ lw_tbl := List.mem_of_getElem? (i := 179) (by decide +kernel)
theorem k_fl_RX3_9 : Cond.fieldLink RX3 9 (TX3 0).1 (TX3 0).2.1 (TX3 0).2.2.1 ∈ lw_tbl := List.mem_of_getElem? (i := 180) (by decide +kernel)
theorem k_fl_RX3_15 : Cond.fieldLink RX3 15 (TX3 1).1 (TX3 1).2.1 (TX3 1).2.2.1 ∈ lw_tbl := List.mem_of_getElem? (i := 181) (by decide +kernel)
theorem k_fl_RX5_249 : Cond.fieldLink RX5 249 (TX3 1).1 (TX3 1).2.1 (TX3 1).2.2.1 ∈ lw_tbl := List.mem_of_getElem? (i := 182) (by decide +kernel)
theorem k_fl_RX3_19 : Cond.fieldLink RX3 19 (TX3 2).1 (TX3 2).2.1 (TX3 2).2.2.1 ∈ lw_tbl := List.mem_of_getElem? (i := 183) (by decide +kernel)
theorem k_fl_RX3_22 : Cond.fieldLink RX3 22 (TX3 3).1 (TX3 3).2.1 (TX3 3).2.2.1 ∈ lw_tbl := List.mem_of_getElem? (i := 184) (by decide +kernel)
theorem k_fl_RX3_26 : Cond.fieldLink RX3 26 (TX3 4).1 (TX3 4).2.1 (TX3 4).2.2.1 ∈ lw_tbl := List.mem_of_getElem? (i := 185) (by decide +kernel)
theorem k_fl_RX3_29 : Cond.fieldLink RX3 29 (TX3 5).1 (TX3 5).2.1 (TX3 5).2.2.1 ∈ lw_tbl := List.mem_of_getElem? (i := 186) (by decide +kernel)
theorem k_fl_RX5_104 : Cond.fieldLink RX5 104 (TX3 5).1 (TX3 5).2.1 (TX3 5).2.2.1 ∈ lw_tbl := List.mem_of_getElem? (i := 187) (by decide +kernel)
theorem k_fl_RX3_32 : Cond.fieldLink RX3 32 (TX3 6).1 (TX3 6).2.1 (TX3 6).2.2.1 ∈ lw_tbl := List.mem_of_getElem? (i := 188) (by decide +kernel)
theorem k_arr_char : Cond.arrayClass .char ∈ lw_tbl := List.mem_of_getElem? (i := 204) (by decide +kernel)
theorem k_fl_RX5_10 : Cond.fieldLink RX5 10 (TX5 0).1 (TX5 0).2.1 (TX5 0).2.2.1 ∈ lw_tbl := List.mem_of_getElem? (i := 205) (by decide +kernel)
theorem k_fl_RX5_16 : Cond.fieldLink RX5 16 (TX5 1).1 (TX5 1).2.1 (TX5 1).2.2.1 ∈ lw_tbl := List.mem_of_getElem? (i := 206) (by decide +kernel)
theorem k_fl_RX5_19 : Cond.fieldLink RX5 19 (TX5 2).1 (TX5 2).2.1 (TX5 2).2.2.1 ∈ lw_tbl := List.mem_of_getElem? (i := 207) (by decide +kernel)
theorem k_fl_RX5_22 : Cond.fieldLink RX5 22 (TX5 3).1 (TX5 3).2.1 (TX5 3).2.2.1 ∈ lw_tbl := List.mem_of_getElem? (i := 208) (by decide +kernel)
theorem k_fl_RX5_25 : Cond.fieldLink RX5 25 (TX5 4).1 (TX5 4).2.1 (TX5 4).2.2.1 ∈ lw_tbl := List.mem_of_getElem? (i := 209) (by decide +kernel)
theorem k_fl_RX5_32 : Cond.fieldLink RX5 32 (TX5 5).1 (TX5 5).2.1 (TX5 5).2.2.1 ∈ lw_tbl := List.mem_of_getElem? (i := 210) (by decide +kernel)
theorem k_fl_RX5_39 : Cond.fieldLink RX5 39 (TX5 6).1 (TX5 6).2.1 (TX5 6).2.2.1 ∈ lw_tbl := List.mem_of_getElem? (i := 211) (by decide +kernel)
theorem k_fl_RX5_43 : Cond.fieldLink RX5 43 (TX5 7).1 (TX5 7).2.1 (TX5 7).2.2.1 ∈ lw_tbl := List.mem_of_getElem? (i := 212) (by decide +kernel)
theorem k_fl_RX5_46 : Cond.fieldLink RX5 46 (TX5 8).1 (TX5 8).2.1 (TX5 8).2.2.1 ∈ lw_tbl := List.mem_of_getElem? (i := 213) (by decide +kernel)
theorem k_fl_RX5_50 : Cond.fieldLink RX5 50 (TX5 9).1 (TX5 9).2.1 (TX5 9).2.2.1 ∈ lw_tbl := List.mem_of_getElem? (i := 214) (by decide +kernel)
theorem k_fl_RX5_53 : Cond.fieldLink RX5 53 (TX5 10).1 (TX5 10).2.1 (TX5 10).2.2.1 ∈ lw_tbl := List.mem_of_getElem? (i := 215) (by decide +kernel)
theorem k_ml_RL_13 : Cond.methodLink RL 13 yX5_set ∈ lw_tbl := List.mem_of_getElem? (i := 239) (by decide +kernel)
theorem k_inst_yX5_set : Cond.instanceMethod yX5_set ∈ lw_tbl := List.mem_of_getElem? (i := 240) (by decide +kernel)
theorem k_sel_yX5_set : Cond.selects RX5 yX5_set yX5_set ∈ lw_tbl := List.mem_of_getElem? (i := 241) (by decide +kernel)
theorem k_code_yX5_set : Cond.code yX5_set prog_1_method_2_code 3 (some .int) ∈ lw_tbl := List.mem_of_getElem? (i := 242) (by decide +kernel)
theorem k_ml_RX5_56 : Cond.methodLink RX5 56 yX4_copyFrom ∈ lw_tbl := List.mem_of_getElem? (i := 243) (by decide +kernel)
theorem k_inst_yX4_copyFrom : Cond.instanceMethod yX4_copyFrom ∈ lw_tbl := List.mem_of_getElem? (i := 244) (by decide +kernel)
theorem k_sel_yX4_copyFrom : Cond.selects RX4 yX4_copyFrom yX4_copyFrom ∈ lw_tbl := List.mem_of_getElem? (i := 245) (by decide +kernel)
theorem k_code_yX4_copyFrom : Cond.code yX4_copyFrom prog_6_method_2_code 3 none ∈ lw_tbl := List.mem_of_getElem? (i := 246) (by decide +kernel)
theorem k_ml_RX4_88 : Cond.methodLink RX4 88 yX0_copyFrom ∈ lw_tbl := List.mem_of_getElem? (i := 247) (by decide +kernel)
theorem k_inst_yX0_copyFrom : Cond.instanceMethod yX0_copyFrom ∈ lw_tbl := List.mem_of_getElem? (i := 248) (by decide +kernel)
theorem k_sel_yX0_copyFrom : Cond.selects RX0 yX0_copyFrom yX0_copyFrom ∈ lw_tbl := List.mem_of_getElem? (i := 249) (by decide +kernel)
theorem k_code_yX0_copyFrom : Cond.code yX0_copyFrom prog_2_method_2_code 2 none ∈ lw_tbl := List.mem_of_getElem? (i := 250) (by decide +kernel)
theorem k_ml_RX0_19 : Cond.methodLink RX0 19 arraycopyName ∈ lw_tbl := List.mem_of_getElem? (i := 251) (by decide +kernel)
theorem k_ml_RX4_92 : Cond.methodLink RX4 92 yX1_copyFrom ∈ lw_tbl := List.mem_of_getElem? (i := 252) (by decide +kernel)
theorem k_inst_yX1_copyFrom : Cond.instanceMethod yX1_copyFrom ∈ lw_tbl := List.mem_of_getElem? (i := 253) (by decide +kernel)
theorem k_sel_yX1_copyFrom : Cond.selects RX1 yX1_copyFrom yX1_copyFrom ∈ lw_tbl := List.mem_of_getElem? (i := 254) (by decide +kernel)
theorem k_code_yX1_copyFrom : Cond.code yX1_copyFrom prog_3_method_2_code 2 none ∈ lw_tbl := List.mem_of_getElem? (i := 255) (by decide +kernel)
theorem k_ml_RX1_25 : Cond.methodLink RX1 25 arraycopyName ∈ lw_tbl := List.mem_of_getElem? (i := 256) (by decide +kernel)
theorem k_ml_RX5_60 : Cond.methodLink RX5 60 yX4_changeSetting ∈ lw_tbl := List.mem_of_getElem? (i := 257) (by decide +kernel)
theorem k_inst_yX4_changeSetting : Cond.instanceMethod yX4_changeSetting ∈ lw_tbl := List.mem_of_getElem? (i := 258) (by decide +kernel)
theorem k_sel_yX4_changeSetting : Cond.selects RX4 yX4_changeSetting yX4_changeSetting ∈ lw_tbl := List.mem_of_getElem? (i := 259) (by decide +kernel)
theorem k_code_yX4_changeSetting : Cond.code yX4_changeSetting prog_6_method_29_code 4 (some .int) ∈ lw_tbl := List.mem_of_getElem? (i := 260) (by decide +kernel)
theorem k_mn_RX4_179 : Cond.methodLinkNest RX4 179 yX5_isSetting "WeakenedPages" ∈ lw_tbl := List.mem_of_getElem? (i := 261) (by decide +kernel)
theorem k_stat_yX5_isSetting : Cond.static yX5_isSetting ∈ lw_tbl := List.mem_of_getElem? (i := 262) (by decide +kernel)
theorem k_code_yX5_isSetting : Cond.code yX5_isSetting prog_1_method_30_code 1 (some .boolean) ∈ lw_tbl := List.mem_of_getElem? (i := 263) (by decide +kernel)
theorem k_fn_RX4_182 : Cond.fieldLinkNest RX4 182 "WeakenedPages" "LEAST_SETTINGS" "[I" "WeakenedPages" ∈ lw_tbl := List.mem_of_getElem? (i := 264) (by decide +kernel)
theorem k_ls_LEAST_SETTINGS : Cond.laysStatic "WeakenedPages" "LEAST_SETTINGS" "[I" ∈ lw_tbl := List.mem_of_getElem? (i := 265) (by decide +kernel)
theorem k_fn_RX4_185 : Cond.fieldLinkNest RX4 185 "WeakenedPages" "GREATEST_SETTINGS" "[I" "WeakenedPages" ∈ lw_tbl := List.mem_of_getElem? (i := 266) (by decide +kernel)
theorem k_ls_GREATEST_SETTINGS : Cond.laysStatic "WeakenedPages" "GREATEST_SETTINGS" "[I" ∈ lw_tbl := List.mem_of_getElem? (i := 267) (by decide +kernel)
theorem k_ml_RX4_188 : Cond.methodLink RX4 188 yX0_shrinkTo ∈ lw_tbl := List.mem_of_getElem? (i := 268) (by decide +kernel)
theorem k_inst_yX0_shrinkTo : Cond.instanceMethod yX0_shrinkTo ∈ lw_tbl := List.mem_of_getElem? (i := 269) (by decide +kernel)
theorem k_sel_yX0_shrinkTo : Cond.selects RX0 yX0_shrinkTo yX0_shrinkTo ∈ lw_tbl := List.mem_of_getElem? (i := 270) (by decide +kernel)
theorem k_code_yX0_shrinkTo : Cond.code yX0_shrinkTo prog_2_method_6_code 2 none ∈ lw_tbl := List.mem_of_getElem? (i := 271) (by decide +kernel)
theorem k_ml_RX0_29 : Cond.methodLink RX0 29 Lib.Math.min.name ∈ lw_tbl := List.mem_of_getElem? (i := 272) (by decide +kernel)
theorem k_stat_Lib_Math_min_name : Cond.static Lib.Math.min.name ∈ lw_tbl := List.mem_of_getElem? (i := 273) (by decide +kernel)
theorem k_code_Lib_Math_min_name : Cond.code Lib.Math.min.name prog_9_method_69_code 2 (some .int) ∈ lw_tbl := List.mem_of_getElem? (i := 274) (by decide +kernel)
theorem k_ml_RX5_64 : Cond.methodLink RX5 64 yX5_settle ∈ lw_tbl := List.mem_of_getElem? (i := 275) (by decide +kernel)
theorem k_priv_yX5_settle : Cond.privateMethod yX5_settle ∈ lw_tbl := List.mem_of_getElem? (i := 276) (by decide +kernel)
theorem k_inst_yX5_settle : Cond.instanceMethod yX5_settle ∈ lw_tbl := List.mem_of_getElem? (i := 277) (by decide +kernel)
theorem k_code_yX5_settle : Cond.code yX5_settle prog_1_method_10_code 2 (some .int) ∈ lw_tbl := List.mem_of_getElem? (i := 278) (by decide +kernel)
theorem k_ml_RX5_90 : Cond.methodLink RX5 90 yX2_record ∈ lw_tbl := List.mem_of_getElem? (i := 279) (by decide +kernel)
theorem k_inst_yX2_record : Cond.instanceMethod yX2_record ∈ lw_tbl := List.mem_of_getElem? (i := 280) (by decide +kernel)
theorem k_sel_yX2_record : Cond.selects RX2 yX2_record yX2_record ∈ lw_tbl := List.mem_of_getElem? (i := 281) (by decide +kernel)
theorem k_code_yX2_record : Cond.code yX2_record prog_4_method_2_code 4 none ∈ lw_tbl := List.mem_of_getElem? (i := 282) (by decide +kernel)
theorem k_ml_RX2_22 : Cond.methodLink RX2 22 yX4_copyFrom ∈ lw_tbl := List.mem_of_getElem? (i := 283) (by decide +kernel)
theorem k_ml_RX2_26 : Cond.methodLink RX2 26 Lib.Math.min.name ∈ lw_tbl := List.mem_of_getElem? (i := 284) (by decide +kernel)
theorem k_ml_RL_18 : Cond.methodLink RL 18 yX5_setKind ∈ lw_tbl := List.mem_of_getElem? (i := 285) (by decide +kernel)
theorem k_inst_yX5_setKind : Cond.instanceMethod yX5_setKind ∈ lw_tbl := List.mem_of_getElem? (i := 286) (by decide +kernel)
theorem k_sel_yX5_setKind : Cond.selects RX5 yX5_setKind yX5_setKind ∈ lw_tbl := List.mem_of_getElem? (i := 287) (by decide +kernel)
theorem k_code_yX5_setKind : Cond.code yX5_setKind prog_1_method_3_code 3 (some .int) ∈ lw_tbl := List.mem_of_getElem? (i := 288) (by decide +kernel)
theorem k_ml_RX5_68 : Cond.methodLink RX5 68 yX4_changeKind ∈ lw_tbl := List.mem_of_getElem? (i := 289) (by decide +kernel)
theorem k_inst_yX4_changeKind : Cond.instanceMethod yX4_changeKind ∈ lw_tbl := List.mem_of_getElem? (i := 290) (by decide +kernel)
theorem k_sel_yX4_changeKind : Cond.selects RX4 yX4_changeKind yX4_changeKind ∈ lw_tbl := List.mem_of_getElem? (i := 291) (by decide +kernel)
theorem k_code_yX4_changeKind : Cond.code yX4_changeKind prog_6_method_30_code 4 (some .int) ∈ lw_tbl := List.mem_of_getElem? (i := 292) (by decide +kernel)
theorem k_mn_RX4_142 : Cond.methodLinkNest RX4 142 yX5_isBlock "WeakenedPages" ∈ lw_tbl := List.mem_of_getElem? (i := 293) (by decide +kernel)
theorem k_stat_yX5_isBlock : Cond.static yX5_isBlock ∈ lw_tbl := List.mem_of_getElem? (i := 294) (by decide +kernel)
theorem k_code_yX5_isBlock : Cond.code yX5_isBlock prog_1_method_29_code 1 (some .boolean) ∈ lw_tbl := List.mem_of_getElem? (i := 295) (by decide +kernel)
theorem k_ml_RX4_101 : Cond.methodLink RX4 101 yX4_isFree ∈ lw_tbl := List.mem_of_getElem? (i := 296) (by decide +kernel)
theorem k_inst_yX4_isFree : Cond.instanceMethod yX4_isFree ∈ lw_tbl := List.mem_of_getElem? (i := 297) (by decide +kernel)
theorem k_sel_yX4_isFree : Cond.selects RX4 yX4_isFree yX4_isFree ∈ lw_tbl := List.mem_of_getElem? (i := 298) (by decide +kernel)
theorem k_code_yX4_isFree : Cond.code yX4_isFree prog_6_method_4_code 2 (some .boolean) ∈ lw_tbl := List.mem_of_getElem? (i := 299) (by decide +kernel)
theorem k_ml_RL_22 : Cond.methodLink RL 22 yX5_mark ∈ lw_tbl := List.mem_of_getElem? (i := 300) (by decide +kernel)
theorem k_inst_yX5_mark : Cond.instanceMethod yX5_mark ∈ lw_tbl := List.mem_of_getElem? (i := 301) (by decide +kernel)
theorem k_sel_yX5_mark : Cond.selects RX5 yX5_mark yX5_mark ∈ lw_tbl := List.mem_of_getElem? (i := 302) (by decide +kernel)
theorem k_code_yX5_mark : Cond.code yX5_mark prog_1_method_4_code 3 (some .int) ∈ lw_tbl := List.mem_of_getElem? (i := 303) (by decide +kernel)
theorem k_ml_RX5_71 : Cond.methodLink RX5 71 yX4_changeCall ∈ lw_tbl := List.mem_of_getElem? (i := 304) (by decide +kernel)
theorem k_inst_yX4_changeCall : Cond.instanceMethod yX4_changeCall ∈ lw_tbl := List.mem_of_getElem? (i := 305) (by decide +kernel)
theorem k_sel_yX4_changeCall : Cond.selects RX4 yX4_changeCall yX4_changeCall ∈ lw_tbl := List.mem_of_getElem? (i := 306) (by decide +kernel)
theorem k_code_yX4_changeCall : Cond.code yX4_changeCall prog_6_method_31_code 3 (some .int) ∈ lw_tbl := List.mem_of_getElem? (i := 307) (by decide +kernel)
theorem k_ml_RX4_191 : Cond.methodLink RX4 191 yX4_markedBlocks ∈ lw_tbl := List.mem_of_getElem? (i := 308) (by decide +kernel)
theorem k_inst_yX4_markedBlocks : Cond.instanceMethod yX4_markedBlocks ∈ lw_tbl := List.mem_of_getElem? (i := 309) (by decide +kernel)
theorem k_sel_yX4_markedBlocks : Cond.selects RX4 yX4_markedBlocks yX4_markedBlocks ∈ lw_tbl := List.mem_of_getElem? (i := 310) (by decide +kernel)
theorem k_code_yX4_markedBlocks : Cond.code yX4_markedBlocks prog_6_method_14_code 3 (some .int) ∈ lw_tbl := List.mem_of_getElem? (i := 311) (by decide +kernel)
theorem k_ml_RX4_130 : Cond.methodLink RX4 130 yX4_isMarked ∈ lw_tbl := List.mem_of_getElem? (i := 312) (by decide +kernel)
theorem k_inst_yX4_isMarked : Cond.instanceMethod yX4_isMarked ∈ lw_tbl := List.mem_of_getElem? (i := 313) (by decide +kernel)
theorem k_sel_yX4_isMarked : Cond.selects RX4 yX4_isMarked yX4_isMarked ∈ lw_tbl := List.mem_of_getElem? (i := 314) (by decide +kernel)
theorem k_code_yX4_isMarked : Cond.code yX4_isMarked prog_6_method_12_code 2 (some .boolean) ∈ lw_tbl := List.mem_of_getElem? (i := 315) (by decide +kernel)
theorem k_ml_RX4_127 : Cond.methodLink RX4 127 yX4_isOld ∈ lw_tbl := List.mem_of_getElem? (i := 316) (by decide +kernel)
theorem k_inst_yX4_isOld : Cond.instanceMethod yX4_isOld ∈ lw_tbl := List.mem_of_getElem? (i := 317) (by decide +kernel)
theorem k_sel_yX4_isOld : Cond.selects RX4 yX4_isOld yX4_isOld ∈ lw_tbl := List.mem_of_getElem? (i := 318) (by decide +kernel)
theorem k_code_yX4_isOld : Cond.code yX4_isOld prog_6_method_13_code 4 (some .boolean) ∈ lw_tbl := List.mem_of_getElem? (i := 319) (by decide +kernel)
theorem k_ml_RX4_112 : Cond.methodLink RX4 112 yX4_greatestOfPages ∈ lw_tbl := List.mem_of_getElem? (i := 320) (by decide +kernel)
theorem k_inst_yX4_greatestOfPages : Cond.instanceMethod yX4_greatestOfPages ∈ lw_tbl := List.mem_of_getElem? (i := 321) (by decide +kernel)
theorem k_sel_yX4_greatestOfPages : Cond.selects RX4 yX4_greatestOfPages yX4_greatestOfPages ∈ lw_tbl := List.mem_of_getElem? (i := 322) (by decide +kernel)
theorem k_code_yX4_greatestOfPages : Cond.code yX4_greatestOfPages prog_6_method_9_code 5 (some .int) ∈ lw_tbl := List.mem_of_getElem? (i := 323) (by decide +kernel)
theorem k_ml_RX4_115 : Cond.methodLink RX4 115 yX4_bears ∈ lw_tbl := List.mem_of_getElem? (i := 324) (by decide +kernel)
theorem k_inst_yX4_bears : Cond.instanceMethod yX4_bears ∈ lw_tbl := List.mem_of_getElem? (i := 325) (by decide +kernel)
theorem k_sel_yX4_bears : Cond.selects RX4 yX4_bears yX4_bears ∈ lw_tbl := List.mem_of_getElem? (i := 326) (by decide +kernel)
theorem k_code_yX4_bears : Cond.code yX4_bears prog_6_method_3_code 4 (some .int) ∈ lw_tbl := List.mem_of_getElem? (i := 327) (by decide +kernel)
theorem k_fn_RX4_95 : Cond.fieldLinkNest RX4 95 "WeakenedPages" "BEARS_AT_FIRST" "[I" "WeakenedPages" ∈ lw_tbl := List.mem_of_getElem? (i := 328) (by decide +kernel)
theorem k_ls_BEARS_AT_FIRST : Cond.laysStatic "WeakenedPages" "BEARS_AT_FIRST" "[I" ∈ lw_tbl := List.mem_of_getElem? (i := 329) (by decide +kernel)
theorem k_fn_RX4_98 : Cond.fieldLinkNest RX4 98 "WeakenedPages" "LOSS_BY_ERASURE" "[I" "WeakenedPages" ∈ lw_tbl := List.mem_of_getElem? (i := 330) (by decide +kernel)
theorem k_ls_LOSS_BY_ERASURE : Cond.laysStatic "WeakenedPages" "LOSS_BY_ERASURE" "[I" ∈ lw_tbl := List.mem_of_getElem? (i := 331) (by decide +kernel)
theorem k_ml_RL_27 : Cond.methodLink RL 27 yX5_write ∈ lw_tbl := List.mem_of_getElem? (i := 332) (by decide +kernel)
theorem k_inst_yX5_write : Cond.instanceMethod yX5_write ∈ lw_tbl := List.mem_of_getElem? (i := 333) (by decide +kernel)
theorem k_sel_yX5_write : Cond.selects RX5 yX5_write yX5_write ∈ lw_tbl := List.mem_of_getElem? (i := 334) (by decide +kernel)
theorem k_code_yX5_write : Cond.code yX5_write prog_1_method_5_code 2 (some .int) ∈ lw_tbl := List.mem_of_getElem? (i := 335) (by decide +kernel)
theorem k_ml_RX5_75 : Cond.methodLink RX5 75 yX4_writePage ∈ lw_tbl := List.mem_of_getElem? (i := 336) (by decide +kernel)
theorem k_inst_yX4_writePage : Cond.instanceMethod yX4_writePage ∈ lw_tbl := List.mem_of_getElem? (i := 337) (by decide +kernel)
theorem k_sel_yX4_writePage : Cond.selects RX4 yX4_writePage yX4_writePage ∈ lw_tbl := List.mem_of_getElem? (i := 338) (by decide +kernel)
theorem k_code_yX4_writePage : Cond.code yX4_writePage prog_6_method_32_code 3 (some .int) ∈ lw_tbl := List.mem_of_getElem? (i := 339) (by decide +kernel)
theorem k_mn_RX4_105 : Cond.methodLinkNest RX4 105 yX5_isPage "WeakenedPages" ∈ lw_tbl := List.mem_of_getElem? (i := 340) (by decide +kernel)
theorem k_stat_yX5_isPage : Cond.static yX5_isPage ∈ lw_tbl := List.mem_of_getElem? (i := 341) (by decide +kernel)
theorem k_code_yX5_isPage : Cond.code yX5_isPage prog_1_method_28_code 1 (some .boolean) ∈ lw_tbl := List.mem_of_getElem? (i := 342) (by decide +kernel)
theorem k_ml_RX4_149 : Cond.methodLink RX4 149 yX4_blockWithRoom ∈ lw_tbl := List.mem_of_getElem? (i := 343) (by decide +kernel)
theorem k_inst_yX4_blockWithRoom : Cond.instanceMethod yX4_blockWithRoom ∈ lw_tbl := List.mem_of_getElem? (i := 344) (by decide +kernel)
theorem k_sel_yX4_blockWithRoom : Cond.selects RX4 yX4_blockWithRoom yX4_blockWithRoom ∈ lw_tbl := List.mem_of_getElem? (i := 345) (by decide +kernel)
theorem k_code_yX4_blockWithRoom : Cond.code yX4_blockWithRoom prog_6_method_21_code 4 (some .int) ∈ lw_tbl := List.mem_of_getElem? (i := 346) (by decide +kernel)
theorem k_ml_RX4_162 : Cond.methodLink RX4 162 yX4_putInto ∈ lw_tbl := List.mem_of_getElem? (i := 347) (by decide +kernel)
theorem k_inst_yX4_putInto : Cond.instanceMethod yX4_putInto ∈ lw_tbl := List.mem_of_getElem? (i := 348) (by decide +kernel)
theorem k_sel_yX4_putInto : Cond.selects RX4 yX4_putInto yX4_putInto ∈ lw_tbl := List.mem_of_getElem? (i := 349) (by decide +kernel)
theorem k_code_yX4_putInto : Cond.code yX4_putInto prog_6_method_22_code 4 none ∈ lw_tbl := List.mem_of_getElem? (i := 350) (by decide +kernel)
theorem k_ml_RX4_145 : Cond.methodLink RX4 145 yX4_dropPlace ∈ lw_tbl := List.mem_of_getElem? (i := 351) (by decide +kernel)
theorem k_inst_yX4_dropPlace : Cond.instanceMethod yX4_dropPlace ∈ lw_tbl := List.mem_of_getElem? (i := 352) (by decide +kernel)
theorem k_sel_yX4_dropPlace : Cond.selects RX4 yX4_dropPlace yX4_dropPlace ∈ lw_tbl := List.mem_of_getElem? (i := 353) (by decide +kernel)
theorem k_code_yX4_dropPlace : Cond.code yX4_dropPlace prog_6_method_23_code 3 none ∈ lw_tbl := List.mem_of_getElem? (i := 354) (by decide +kernel)
theorem k_ml_RX4_194 : Cond.methodLink RX4 194 yX4_freeBlocks ∈ lw_tbl := List.mem_of_getElem? (i := 355) (by decide +kernel)
theorem k_inst_yX4_freeBlocks : Cond.instanceMethod yX4_freeBlocks ∈ lw_tbl := List.mem_of_getElem? (i := 356) (by decide +kernel)
theorem k_sel_yX4_freeBlocks : Cond.selects RX4 yX4_freeBlocks yX4_freeBlocks ∈ lw_tbl := List.mem_of_getElem? (i := 357) (by decide +kernel)
theorem k_code_yX4_freeBlocks : Cond.code yX4_freeBlocks prog_6_method_5_code 3 (some .int) ∈ lw_tbl := List.mem_of_getElem? (i := 358) (by decide +kernel)
theorem k_ml_RX4_197 : Cond.methodLink RX4 197 yX0_drop ∈ lw_tbl := List.mem_of_getElem? (i := 359) (by decide +kernel)
theorem k_inst_yX0_drop : Cond.instanceMethod yX0_drop ∈ lw_tbl := List.mem_of_getElem? (i := 360) (by decide +kernel)
theorem k_sel_yX0_drop : Cond.selects RX0 yX0_drop yX0_drop ∈ lw_tbl := List.mem_of_getElem? (i := 361) (by decide +kernel)
theorem k_code_yX0_drop : Cond.code yX0_drop prog_2_method_5_code 4 none ∈ lw_tbl := List.mem_of_getElem? (i := 362) (by decide +kernel)
theorem k_ml_RX0_38 : Cond.methodLink RX0 38 yX0_rankOf ∈ lw_tbl := List.mem_of_getElem? (i := 363) (by decide +kernel)
theorem k_inst_yX0_rankOf : Cond.instanceMethod yX0_rankOf ∈ lw_tbl := List.mem_of_getElem? (i := 364) (by decide +kernel)
theorem k_sel_yX0_rankOf : Cond.selects RX0 yX0_rankOf yX0_rankOf ∈ lw_tbl := List.mem_of_getElem? (i := 365) (by decide +kernel)
theorem k_code_yX0_rankOf : Cond.code yX0_rankOf prog_2_method_3_code 3 (some .int) ∈ lw_tbl := List.mem_of_getElem? (i := 366) (by decide +kernel)
theorem k_ml_RL_32 : Cond.methodLink RL 32 yX5_read ∈ lw_tbl := List.mem_of_getElem? (i := 367) (by decide +kernel)
theorem k_inst_yX5_read : Cond.instanceMethod yX5_read ∈ lw_tbl := List.mem_of_getElem? (i := 368) (by decide +kernel)
theorem k_sel_yX5_read : Cond.selects RX5 yX5_read yX5_read ∈ lw_tbl := List.mem_of_getElem? (i := 369) (by decide +kernel)
theorem k_code_yX5_read : Cond.code yX5_read prog_1_method_6_code 2 (some .int) ∈ lw_tbl := List.mem_of_getElem? (i := 370) (by decide +kernel)
theorem k_ml_RX5_78 : Cond.methodLink RX5 78 yX4_readPage ∈ lw_tbl := List.mem_of_getElem? (i := 371) (by decide +kernel)
theorem k_inst_yX4_readPage : Cond.instanceMethod yX4_readPage ∈ lw_tbl := List.mem_of_getElem? (i := 372) (by decide +kernel)
theorem k_sel_yX4_readPage : Cond.selects RX4 yX4_readPage yX4_readPage ∈ lw_tbl := List.mem_of_getElem? (i := 373) (by decide +kernel)
theorem k_code_yX4_readPage : Cond.code yX4_readPage prog_6_method_33_code 3 (some .int) ∈ lw_tbl := List.mem_of_getElem? (i := 374) (by decide +kernel)
theorem k_ml_RX4_200 : Cond.methodLink RX4 200 yX4_hasPlace ∈ lw_tbl := List.mem_of_getElem? (i := 375) (by decide +kernel)
theorem k_inst_yX4_hasPlace : Cond.instanceMethod yX4_hasPlace ∈ lw_tbl := List.mem_of_getElem? (i := 376) (by decide +kernel)
theorem k_sel_yX4_hasPlace : Cond.selects RX4 yX4_hasPlace yX4_hasPlace ∈ lw_tbl := List.mem_of_getElem? (i := 377) (by decide +kernel)
theorem k_code_yX4_hasPlace : Cond.code yX4_hasPlace prog_6_method_6_code 2 (some .boolean) ∈ lw_tbl := List.mem_of_getElem? (i := 378) (by decide +kernel)
theorem k_ml_RX4_203 : Cond.methodLink RX4 203 yX0_rankOf ∈ lw_tbl := List.mem_of_getElem? (i := 379) (by decide +kernel)
theorem k_ml_RX4_156 : Cond.methodLink RX4 156 yX4_mayRead ∈ lw_tbl := List.mem_of_getElem? (i := 380) (by decide +kernel)
theorem k_inst_yX4_mayRead : Cond.instanceMethod yX4_mayRead ∈ lw_tbl := List.mem_of_getElem? (i := 381) (by decide +kernel)
theorem k_sel_yX4_mayRead : Cond.selects RX4 yX4_mayRead yX4_mayRead ∈ lw_tbl := List.mem_of_getElem? (i := 382) (by decide +kernel)
theorem k_code_yX4_mayRead : Cond.code yX4_mayRead prog_6_method_19_code 5 (some .boolean) ∈ lw_tbl := List.mem_of_getElem? (i := 383) (by decide +kernel)
theorem k_ml_RX4_136 : Cond.methodLink RX4 136 yX4_addedBy ∈ lw_tbl := List.mem_of_getElem? (i := 384) (by decide +kernel)
theorem k_inst_yX4_addedBy : Cond.instanceMethod yX4_addedBy ∈ lw_tbl := List.mem_of_getElem? (i := 385) (by decide +kernel)
theorem k_sel_yX4_addedBy : Cond.selects RX4 yX4_addedBy yX4_addedBy ∈ lw_tbl := List.mem_of_getElem? (i := 386) (by decide +kernel)
theorem k_code_yX4_addedBy : Cond.code yX4_addedBy prog_6_method_17_code 5 (some .int) ∈ lw_tbl := List.mem_of_getElem? (i := 387) (by decide +kernel)
theorem k_ml_RX4_133 : Cond.methodLink RX4 133 Lib.Math.abs.name ∈ lw_tbl := List.mem_of_getElem? (i := 388) (by decide +kernel)
theorem k_stat_Lib_Math_abs_name : Cond.static Lib.Math.abs.name ∈ lw_tbl := List.mem_of_getElem? (i := 389) (by decide +kernel)
theorem k_code_Lib_Math_abs_name : Cond.code Lib.Math.abs.name prog_9_method_59_code 1 (some .int) ∈ lw_tbl := List.mem_of_getElem? (i := 390) (by decide +kernel)
theorem k_ml_RX4_206 : Cond.methodLink RX4 206 yX4_moveWhole ∈ lw_tbl := List.mem_of_getElem? (i := 391) (by decide +kernel)
theorem k_inst_yX4_moveWhole : Cond.instanceMethod yX4_moveWhole ∈ lw_tbl := List.mem_of_getElem? (i := 392) (by decide +kernel)
theorem k_sel_yX4_moveWhole : Cond.selects RX4 yX4_moveWhole yX4_moveWhole ∈ lw_tbl := List.mem_of_getElem? (i := 393) (by decide +kernel)
theorem k_code_yX4_moveWhole : Cond.code yX4_moveWhole prog_6_method_27_code 4 (some .int) ∈ lw_tbl := List.mem_of_getElem? (i := 394) (by decide +kernel)
theorem k_ml_RX4_108 : Cond.methodLink RX4 108 yX4_pagesIn ∈ lw_tbl := List.mem_of_getElem? (i := 395) (by decide +kernel)
theorem k_inst_yX4_pagesIn : Cond.instanceMethod yX4_pagesIn ∈ lw_tbl := List.mem_of_getElem? (i := 396) (by decide +kernel)
theorem k_sel_yX4_pagesIn : Cond.selects RX4 yX4_pagesIn yX4_pagesIn ∈ lw_tbl := List.mem_of_getElem? (i := 397) (by decide +kernel)
theorem k_code_yX4_pagesIn : Cond.code yX4_pagesIn prog_6_method_7_code 5 (some .int) ∈ lw_tbl := List.mem_of_getElem? (i := 398) (by decide +kernel)
theorem k_ml_RX4_170 : Cond.methodLink RX4 170 yX4_moveLowestPage ∈ lw_tbl := List.mem_of_getElem? (i := 399) (by decide +kernel)
theorem k_inst_yX4_moveLowestPage : Cond.instanceMethod yX4_moveLowestPage ∈ lw_tbl := List.mem_of_getElem? (i := 400) (by decide +kernel)
theorem k_sel_yX4_moveLowestPage : Cond.selects RX4 yX4_moveLowestPage yX4_moveLowestPage ∈ lw_tbl := List.mem_of_getElem? (i := 401) (by decide +kernel)
theorem k_code_yX4_moveLowestPage : Cond.code yX4_moveLowestPage prog_6_method_25_code 4 (some .boolean) ∈ lw_tbl := List.mem_of_getElem? (i := 402) (by decide +kernel)
theorem k_ml_RX4_153 : Cond.methodLink RX4 153 yX4_lowestPlaceWithPage ∈ lw_tbl := List.mem_of_getElem? (i := 403) (by decide +kernel)
theorem k_inst_yX4_lowestPlaceWithPage : Cond.instanceMethod yX4_lowestPlaceWithPage ∈ lw_tbl := List.mem_of_getElem? (i := 404) (by decide +kernel)
theorem k_sel_yX4_lowestPlaceWithPage : Cond.selects RX4 yX4_lowestPlaceWithPage yX4_lowestPlaceWithPage ∈ lw_tbl := List.mem_of_getElem? (i := 405) (by decide +kernel)
theorem k_code_yX4_lowestPlaceWithPage : Cond.code yX4_lowestPlaceWithPage prog_6_method_24_code 4 (some .int) ∈ lw_tbl := List.mem_of_getElem? (i := 406) (by decide +kernel)
theorem k_ml_RX4_159 : Cond.methodLink RX4 159 yX4_readPlace ∈ lw_tbl := List.mem_of_getElem? (i := 407) (by decide +kernel)
theorem k_inst_yX4_readPlace : Cond.instanceMethod yX4_readPlace ∈ lw_tbl := List.mem_of_getElem? (i := 408) (by decide +kernel)
theorem k_sel_yX4_readPlace : Cond.selects RX4 yX4_readPlace yX4_readPlace ∈ lw_tbl := List.mem_of_getElem? (i := 409) (by decide +kernel)
theorem k_code_yX4_readPlace : Cond.code yX4_readPlace prog_6_method_20_code 4 none ∈ lw_tbl := List.mem_of_getElem? (i := 410) (by decide +kernel)
theorem k_ml_RX4_173 : Cond.methodLink RX4 173 yX4_erase ∈ lw_tbl := List.mem_of_getElem? (i := 411) (by decide +kernel)
theorem k_inst_yX4_erase : Cond.instanceMethod yX4_erase ∈ lw_tbl := List.mem_of_getElem? (i := 412) (by decide +kernel)
theorem k_sel_yX4_erase : Cond.selects RX4 yX4_erase yX4_erase ∈ lw_tbl := List.mem_of_getElem? (i := 413) (by decide +kernel)
theorem k_code_yX4_erase : Cond.code yX4_erase prog_6_method_26_code 5 none ∈ lw_tbl := List.mem_of_getElem? (i := 414) (by decide +kernel)
theorem k_ml_RX4_121 : Cond.methodLink RX4 121 Lib.Math.max.name ∈ lw_tbl := List.mem_of_getElem? (i := 415) (by decide +kernel)
theorem k_stat_Lib_Math_max_name : Cond.static Lib.Math.max.name ∈ lw_tbl := List.mem_of_getElem? (i := 416) (by decide +kernel)
theorem k_code_Lib_Math_max_name : Cond.code Lib.Math.max.name prog_9_method_65_code 2 (some .int) ∈ lw_tbl := List.mem_of_getElem? (i := 417) (by decide +kernel)
theorem k_ml_RX4_166 : Cond.methodLink RX4 166 yX1_note ∈ lw_tbl := List.mem_of_getElem? (i := 418) (by decide +kernel)
theorem k_inst_yX1_note : Cond.instanceMethod yX1_note ∈ lw_tbl := List.mem_of_getElem? (i := 419) (by decide +kernel)
theorem k_sel_yX1_note : Cond.selects RX1 yX1_note yX1_note ∈ lw_tbl := List.mem_of_getElem? (i := 420) (by decide +kernel)
theorem k_code_yX1_note : Cond.code yX1_note prog_3_method_3_code 5 none ∈ lw_tbl := List.mem_of_getElem? (i := 421) (by decide +kernel)
theorem k_ml_RX4_209 : Cond.methodLink RX4 209 yX0_putFirst ∈ lw_tbl := List.mem_of_getElem? (i := 422) (by decide +kernel)
theorem k_inst_yX0_putFirst : Cond.instanceMethod yX0_putFirst ∈ lw_tbl := List.mem_of_getElem? (i := 423) (by decide +kernel)
theorem k_sel_yX0_putFirst : Cond.selects RX0 yX0_putFirst yX0_putFirst ∈ lw_tbl := List.mem_of_getElem? (i := 424) (by decide +kernel)
theorem k_code_yX0_putFirst : Cond.code yX0_putFirst prog_2_method_4_code 5 none ∈ lw_tbl := List.mem_of_getElem? (i := 425) (by decide +kernel)
theorem k_ml_RX0_25 : Cond.methodLink RX0 25 yX0_drop ∈ lw_tbl := List.mem_of_getElem? (i := 426) (by decide +kernel)
theorem k_ml_RX0_35 : Cond.methodLink RX0 35 yX0_shrinkTo ∈ lw_tbl := List.mem_of_getElem? (i := 427) (by decide +kernel)
theorem k_ml_RL_36 : Cond.methodLink RL 36 yX5_forget ∈ lw_tbl := List.mem_of_getElem? (i := 428) (by decide +kernel)
theorem k_inst_yX5_forget : Cond.instanceMethod yX5_forget ∈ lw_tbl := List.mem_of_getElem? (i := 429) (by decide +kernel)
theorem k_sel_yX5_forget : Cond.selects RX5 yX5_forget yX5_forget ∈ lw_tbl := List.mem_of_getElem? (i := 430) (by decide +kernel)
theorem k_code_yX5_forget : Cond.code yX5_forget prog_1_method_7_code 2 (some .int) ∈ lw_tbl := List.mem_of_getElem? (i := 431) (by decide +kernel)
theorem k_ml_RX5_81 : Cond.methodLink RX5 81 yX4_forgetPage ∈ lw_tbl := List.mem_of_getElem? (i := 432) (by decide +kernel)
theorem k_inst_yX4_forgetPage : Cond.instanceMethod yX4_forgetPage ∈ lw_tbl := List.mem_of_getElem? (i := 433) (by decide +kernel)
theorem k_sel_yX4_forgetPage : Cond.selects RX4 yX4_forgetPage yX4_forgetPage ∈ lw_tbl := List.mem_of_getElem? (i := 434) (by decide +kernel)
theorem k_code_yX4_forgetPage : Cond.code yX4_forgetPage prog_6_method_34_code 2 (some .int) ∈ lw_tbl := List.mem_of_getElem? (i := 435) (by decide +kernel)
theorem k_ml_RX4_212 : Cond.methodLink RX4 212 yX4_pagesInAll ∈ lw_tbl := List.mem_of_getElem? (i := 436) (by decide +kernel)
theorem k_inst_yX4_pagesInAll : Cond.instanceMethod yX4_pagesInAll ∈ lw_tbl := List.mem_of_getElem? (i := 437) (by decide +kernel)
theorem k_sel_yX4_pagesInAll : Cond.selects RX4 yX4_pagesInAll yX4_pagesInAll ∈ lw_tbl := List.mem_of_getElem? (i := 438) (by decide +kernel)
theorem k_code_yX4_pagesInAll : Cond.code yX4_pagesInAll prog_6_method_8_code 3 (some .int) ∈ lw_tbl := List.mem_of_getElem? (i := 439) (by decide +kernel)
theorem k_ml_RL_40 : Cond.methodLink RL 40 yX5_moveBlock ∈ lw_tbl := List.mem_of_getElem? (i := 440) (by decide +kernel)
theorem k_inst_yX5_moveBlock : Cond.instanceMethod yX5_moveBlock ∈ lw_tbl := List.mem_of_getElem? (i := 441) (by decide +kernel)
theorem k_sel_yX5_moveBlock : Cond.selects RX5 yX5_moveBlock yX5_moveBlock ∈ lw_tbl := List.mem_of_getElem? (i := 442) (by decide +kernel)
theorem k_code_yX5_moveBlock : Cond.code yX5_moveBlock prog_1_method_8_code 2 (some .int) ∈ lw_tbl := List.mem_of_getElem? (i := 443) (by decide +kernel)
theorem k_ml_RX5_84 : Cond.methodLink RX5 84 yX4_moveOnDemand ∈ lw_tbl := List.mem_of_getElem? (i := 444) (by decide +kernel)
theorem k_inst_yX4_moveOnDemand : Cond.instanceMethod yX4_moveOnDemand ∈ lw_tbl := List.mem_of_getElem? (i := 445) (by decide +kernel)
theorem k_sel_yX4_moveOnDemand : Cond.selects RX4 yX4_moveOnDemand yX4_moveOnDemand ∈ lw_tbl := List.mem_of_getElem? (i := 446) (by decide +kernel)
theorem k_code_yX4_moveOnDemand : Cond.code yX4_moveOnDemand prog_6_method_35_code 2 (some .int) ∈ lw_tbl := List.mem_of_getElem? (i := 447) (by decide +kernel)
theorem k_ml_RL_44 : Cond.methodLink RL 44 yX5_pass ∈ lw_tbl := List.mem_of_getElem? (i := 448) (by decide +kernel)
theorem k_inst_yX5_pass : Cond.instanceMethod yX5_pass ∈ lw_tbl := List.mem_of_getElem? (i := 449) (by decide +kernel)
theorem k_sel_yX5_pass : Cond.selects RX5 yX5_pass yX5_pass ∈ lw_tbl := List.mem_of_getElem? (i := 450) (by decide +kernel)
theorem k_code_yX5_pass : Cond.code yX5_pass prog_1_method_9_code 2 (some .int) ∈ lw_tbl := List.mem_of_getElem? (i := 451) (by decide +kernel)
theorem k_ml_RX5_87 : Cond.methodLink RX5 87 yX4_passTicks ∈ lw_tbl := List.mem_of_getElem? (i := 452) (by decide +kernel)
theorem k_inst_yX4_passTicks : Cond.instanceMethod yX4_passTicks ∈ lw_tbl := List.mem_of_getElem? (i := 453) (by decide +kernel)
theorem k_sel_yX4_passTicks : Cond.selects RX4 yX4_passTicks yX4_passTicks ∈ lw_tbl := List.mem_of_getElem? (i := 454) (by decide +kernel)
theorem k_code_yX4_passTicks : Cond.code yX4_passTicks prog_6_method_36_code 4 (some .int) ∈ lw_tbl := List.mem_of_getElem? (i := 455) (by decide +kernel)
theorem k_const_RX4_215 : Cond.constant RX4 215 (99999) ∈ lw_tbl := List.mem_of_getElem? (i := 456) (by decide +kernel)
theorem k_ml_RX4_216 : Cond.methodLink RX4 216 yX4_passOne ∈ lw_tbl := List.mem_of_getElem? (i := 457) (by decide +kernel)
theorem k_inst_yX4_passOne : Cond.instanceMethod yX4_passOne ∈ lw_tbl := List.mem_of_getElem? (i := 458) (by decide +kernel)
theorem k_sel_yX4_passOne : Cond.selects RX4 yX4_passOne yX4_passOne ∈ lw_tbl := List.mem_of_getElem? (i := 459) (by decide +kernel)
theorem k_code_yX4_passOne : Cond.code yX4_passOne prog_6_method_28_code 4 (some .int) ∈ lw_tbl := List.mem_of_getElem? (i := 460) (by decide +kernel)
theorem k_ml_RX4_176 : Cond.methodLink RX4 176 yX4_firstMarked ∈ lw_tbl := List.mem_of_getElem? (i := 461) (by decide +kernel)
theorem k_inst_yX4_firstMarked : Cond.instanceMethod yX4_firstMarked ∈ lw_tbl := List.mem_of_getElem? (i := 462) (by decide +kernel)
theorem k_sel_yX4_firstMarked : Cond.selects RX4 yX4_firstMarked yX4_firstMarked ∈ lw_tbl := List.mem_of_getElem? (i := 463) (by decide +kernel)
theorem k_code_yX4_firstMarked : Cond.code yX4_firstMarked prog_6_method_16_code 5 (some .int) ∈ lw_tbl := List.mem_of_getElem? (i := 464) (by decide +kernel)
theorem k_ml_RX4_118 : Cond.methodLink RX4 118 yX4_hundredths ∈ lw_tbl := List.mem_of_getElem? (i := 465) (by decide +kernel)
theorem k_inst_yX4_hundredths : Cond.instanceMethod yX4_hundredths ∈ lw_tbl := List.mem_of_getElem? (i := 466) (by decide +kernel)
theorem k_sel_yX4_hundredths : Cond.selects RX4 yX4_hundredths yX4_hundredths ∈ lw_tbl := List.mem_of_getElem? (i := 467) (by decide +kernel)
theorem k_code_yX4_hundredths : Cond.code yX4_hundredths prog_6_method_10_code 2 (some .int) ∈ lw_tbl := List.mem_of_getElem? (i := 468) (by decide +kernel)
theorem k_ml_RL_48 : Cond.methodLink RL 48 yX5_type ∈ lw_tbl := List.mem_of_getElem? (i := 469) (by decide +kernel)
theorem k_inst_yX5_type : Cond.instanceMethod yX5_type ∈ lw_tbl := List.mem_of_getElem? (i := 470) (by decide +kernel)
theorem k_sel_yX5_type : Cond.selects RX5 yX5_type yX5_type ∈ lw_tbl := List.mem_of_getElem? (i := 471) (by decide +kernel)
theorem k_code_yX5_type : Cond.code yX5_type prog_1_method_11_code 2 (some .int) ∈ lw_tbl := List.mem_of_getElem? (i := 472) (by decide +kernel)
theorem k_ml_RX5_93 : Cond.methodLink RX5 93 yX3_append ∈ lw_tbl := List.mem_of_getElem? (i := 473) (by decide +kernel)
theorem k_inst_yX3_append : Cond.instanceMethod yX3_append ∈ lw_tbl := List.mem_of_getElem? (i := 474) (by decide +kernel)
theorem k_sel_yX3_append : Cond.selects RX3 yX3_append yX3_append ∈ lw_tbl := List.mem_of_getElem? (i := 475) (by decide +kernel)
theorem k_code_yX3_append : Cond.code yX3_append prog_5_method_2_code 2 (some .int) ∈ lw_tbl := List.mem_of_getElem? (i := 476) (by decide +kernel)
theorem k_ml_RL_53 : Cond.methodLink RL 53 yX5_clearText ∈ lw_tbl := List.mem_of_getElem? (i := 477) (by decide +kernel)
theorem k_inst_yX5_clearText : Cond.instanceMethod yX5_clearText ∈ lw_tbl := List.mem_of_getElem? (i := 478) (by decide +kernel)
theorem k_sel_yX5_clearText : Cond.selects RX5 yX5_clearText yX5_clearText ∈ lw_tbl := List.mem_of_getElem? (i := 479) (by decide +kernel)
theorem k_code_yX5_clearText : Cond.code yX5_clearText prog_1_method_12_code 1 (some .int) ∈ lw_tbl := List.mem_of_getElem? (i := 480) (by decide +kernel)
theorem k_ml_RX5_97 : Cond.methodLink RX5 97 yX3_empty ∈ lw_tbl := List.mem_of_getElem? (i := 481) (by decide +kernel)
theorem k_inst_yX3_empty : Cond.instanceMethod yX3_empty ∈ lw_tbl := List.mem_of_getElem? (i := 482) (by decide +kernel)
theorem k_sel_yX3_empty : Cond.selects RX3 yX3_empty yX3_empty ∈ lw_tbl := List.mem_of_getElem? (i := 483) (by decide +kernel)
theorem k_code_yX3_empty : Cond.code yX3_empty prog_5_method_3_code 2 (some .int) ∈ lw_tbl := List.mem_of_getElem? (i := 484) (by decide +kernel)
theorem k_ml_RL_58 : Cond.methodLink RL 58 yX5_perform ∈ lw_tbl := List.mem_of_getElem? (i := 485) (by decide +kernel)
theorem k_inst_yX5_perform : Cond.instanceMethod yX5_perform ∈ lw_tbl := List.mem_of_getElem? (i := 486) (by decide +kernel)
theorem k_sel_yX5_perform : Cond.selects RX5 yX5_perform yX5_perform ∈ lw_tbl := List.mem_of_getElem? (i := 487) (by decide +kernel)
theorem k_code_yX5_perform : Cond.code yX5_perform prog_1_method_13_code 6 (some .int) ∈ lw_tbl := List.mem_of_getElem? (i := 488) (by decide +kernel)
theorem k_ml_RX5_101 : Cond.methodLink RX5 101 yX3_parse ∈ lw_tbl := List.mem_of_getElem? (i := 489) (by decide +kernel)
theorem k_inst_yX3_parse : Cond.instanceMethod yX3_parse ∈ lw_tbl := List.mem_of_getElem? (i := 490) (by decide +kernel)
theorem k_sel_yX3_parse : Cond.selects RX3 yX3_parse yX3_parse ∈ lw_tbl := List.mem_of_getElem? (i := 491) (by decide +kernel)
theorem k_code_yX3_parse : Cond.code yX3_parse prog_5_method_7_code 2 (some .int) ∈ lw_tbl := List.mem_of_getElem? (i := 492) (by decide +kernel)
theorem k_ml_RX3_35 : Cond.methodLink RX3 35 yX3_parseOrder ∈ lw_tbl := List.mem_of_getElem? (i := 493) (by decide +kernel)
theorem k_inst_yX3_parseOrder : Cond.instanceMethod yX3_parseOrder ∈ lw_tbl := List.mem_of_getElem? (i := 494) (by decide +kernel)
theorem k_sel_yX3_parseOrder : Cond.selects RX3 yX3_parseOrder yX3_parseOrder ∈ lw_tbl := List.mem_of_getElem? (i := 495) (by decide +kernel)
theorem k_code_yX3_parseOrder : Cond.code yX3_parseOrder prog_5_method_8_code 4 (some .boolean) ∈ lw_tbl := List.mem_of_getElem? (i := 496) (by decide +kernel)
theorem k_ml_RX3_39 : Cond.methodLink RX3 39 yX3_parseNumber ∈ lw_tbl := List.mem_of_getElem? (i := 497) (by decide +kernel)
theorem k_inst_yX3_parseNumber : Cond.instanceMethod yX3_parseNumber ∈ lw_tbl := List.mem_of_getElem? (i := 498) (by decide +kernel)
theorem k_sel_yX3_parseNumber : Cond.selects RX3 yX3_parseNumber yX3_parseNumber ∈ lw_tbl := List.mem_of_getElem? (i := 499) (by decide +kernel)
theorem k_code_yX3_parseNumber : Cond.code yX3_parseNumber prog_5_method_9_code 5 (some .int) ∈ lw_tbl := List.mem_of_getElem? (i := 500) (by decide +kernel)
theorem k_ml_RX3_43 : Cond.methodLink RX3 43 yX3_digitAt ∈ lw_tbl := List.mem_of_getElem? (i := 501) (by decide +kernel)
theorem k_inst_yX3_digitAt : Cond.instanceMethod yX3_digitAt ∈ lw_tbl := List.mem_of_getElem? (i := 502) (by decide +kernel)
theorem k_sel_yX3_digitAt : Cond.selects RX3 yX3_digitAt yX3_digitAt ∈ lw_tbl := List.mem_of_getElem? (i := 503) (by decide +kernel)
theorem k_code_yX3_digitAt : Cond.code yX3_digitAt prog_5_method_10_code 2 (some .int) ∈ lw_tbl := List.mem_of_getElem? (i := 504) (by decide +kernel)
theorem k_ml_RX5_107 : Cond.methodLink RX5 107 yX3_timesOf ∈ lw_tbl := List.mem_of_getElem? (i := 505) (by decide +kernel)
theorem k_inst_yX3_timesOf : Cond.instanceMethod yX3_timesOf ∈ lw_tbl := List.mem_of_getElem? (i := 506) (by decide +kernel)
theorem k_sel_yX3_timesOf : Cond.selects RX3 yX3_timesOf yX3_timesOf ∈ lw_tbl := List.mem_of_getElem? (i := 507) (by decide +kernel)
theorem k_code_yX3_timesOf : Cond.code yX3_timesOf prog_5_method_6_code 2 (some .int) ∈ lw_tbl := List.mem_of_getElem? (i := 508) (by decide +kernel)
theorem k_ml_RX5_110 : Cond.methodLink RX5 110 yX5_performOnce ∈ lw_tbl := List.mem_of_getElem? (i := 509) (by decide +kernel)
theorem k_priv_yX5_performOnce : Cond.privateMethod yX5_performOnce ∈ lw_tbl := List.mem_of_getElem? (i := 510) (by decide +kernel)
theorem k_inst_yX5_performOnce : Cond.instanceMethod yX5_performOnce ∈ lw_tbl := List.mem_of_getElem? (i := 511) (by decide +kernel)
theorem k_code_yX5_performOnce : Cond.code yX5_performOnce prog_1_method_14_code 4 (some .int) ∈ lw_tbl := List.mem_of_getElem? (i := 512) (by decide +kernel)
theorem k_ml_RX5_117 : Cond.methodLink RX5 117 yX3_letterOf ∈ lw_tbl := List.mem_of_getElem? (i := 513) (by decide +kernel)
theorem k_inst_yX3_letterOf : Cond.instanceMethod yX3_letterOf ∈ lw_tbl := List.mem_of_getElem? (i := 514) (by decide +kernel)
theorem k_sel_yX3_letterOf : Cond.selects RX3 yX3_letterOf yX3_letterOf ∈ lw_tbl := List.mem_of_getElem? (i := 515) (by decide +kernel)
theorem k_code_yX3_letterOf : Cond.code yX3_letterOf prog_5_method_4_code 2 (some .char) ∈ lw_tbl := List.mem_of_getElem? (i := 516) (by decide +kernel)
theorem k_ml_RX5_121 : Cond.methodLink RX5 121 yX3_argumentOf ∈ lw_tbl := List.mem_of_getElem? (i := 517) (by decide +kernel)
theorem k_inst_yX3_argumentOf : Cond.instanceMethod yX3_argumentOf ∈ lw_tbl := List.mem_of_getElem? (i := 518) (by decide +kernel)
theorem k_sel_yX3_argumentOf : Cond.selects RX3 yX3_argumentOf yX3_argumentOf ∈ lw_tbl := List.mem_of_getElem? (i := 519) (by decide +kernel)
theorem k_code_yX3_argumentOf : Cond.code yX3_argumentOf prog_5_method_5_code 2 (some .int) ∈ lw_tbl := List.mem_of_getElem? (i := 520) (by decide +kernel)
theorem k_ml_RX5_113 : Cond.methodLink RX5 113 yX5_noteRefusal ∈ lw_tbl := List.mem_of_getElem? (i := 521) (by decide +kernel)
theorem k_priv_yX5_noteRefusal : Cond.privateMethod yX5_noteRefusal ∈ lw_tbl := List.mem_of_getElem? (i := 522) (by decide +kernel)
theorem k_inst_yX5_noteRefusal : Cond.instanceMethod yX5_noteRefusal ∈ lw_tbl := List.mem_of_getElem? (i := 523) (by decide +kernel)
theorem k_code_yX5_noteRefusal : Cond.code yX5_noteRefusal prog_1_method_15_code 4 none ∈ lw_tbl := List.mem_of_getElem? (i := 524) (by decide +kernel)
theorem k_ml_RL_62 : Cond.methodLink RL 62 yX5_refusal ∈ lw_tbl := List.mem_of_getElem? (i := 525) (by decide +kernel)
theorem k_inst_yX5_refusal : Cond.instanceMethod yX5_refusal ∈ lw_tbl := List.mem_of_getElem? (i := 526) (by decide +kernel)
theorem k_sel_yX5_refusal : Cond.selects RX5 yX5_refusal yX5_refusal ∈ lw_tbl := List.mem_of_getElem? (i := 527) (by decide +kernel)
theorem k_code_yX5_refusal : Cond.code yX5_refusal prog_1_method_16_code 2 (some .int) ∈ lw_tbl := List.mem_of_getElem? (i := 528) (by decide +kernel)
theorem k_ml_RL_66 : Cond.methodLink RL 66 yX5_undo ∈ lw_tbl := List.mem_of_getElem? (i := 529) (by decide +kernel)
theorem k_inst_yX5_undo : Cond.instanceMethod yX5_undo ∈ lw_tbl := List.mem_of_getElem? (i := 530) (by decide +kernel)
theorem k_sel_yX5_undo : Cond.selects RX5 yX5_undo yX5_undo ∈ lw_tbl := List.mem_of_getElem? (i := 531) (by decide +kernel)
theorem k_code_yX5_undo : Cond.code yX5_undo prog_1_method_17_code 1 (some .int) ∈ lw_tbl := List.mem_of_getElem? (i := 532) (by decide +kernel)
theorem k_ml_RX5_127 : Cond.methodLink RX5 127 yX2_takeLatest ∈ lw_tbl := List.mem_of_getElem? (i := 533) (by decide +kernel)
theorem k_inst_yX2_takeLatest : Cond.instanceMethod yX2_takeLatest ∈ lw_tbl := List.mem_of_getElem? (i := 534) (by decide +kernel)
theorem k_sel_yX2_takeLatest : Cond.selects RX2 yX2_takeLatest yX2_takeLatest ∈ lw_tbl := List.mem_of_getElem? (i := 535) (by decide +kernel)
theorem k_code_yX2_takeLatest : Cond.code yX2_takeLatest prog_4_method_3_code 4 none ∈ lw_tbl := List.mem_of_getElem? (i := 536) (by decide +kernel)
theorem k_ml_RL_70 : Cond.methodLink RL 70 yX5_keep ∈ lw_tbl := List.mem_of_getElem? (i := 537) (by decide +kernel)
theorem k_inst_yX5_keep : Cond.instanceMethod yX5_keep ∈ lw_tbl := List.mem_of_getElem? (i := 538) (by decide +kernel)
theorem k_sel_yX5_keep : Cond.selects RX5 yX5_keep yX5_keep ∈ lw_tbl := List.mem_of_getElem? (i := 539) (by decide +kernel)
theorem k_code_yX5_keep : Cond.code yX5_keep prog_1_method_18_code 1 (some .int) ∈ lw_tbl := List.mem_of_getElem? (i := 540) (by decide +kernel)
theorem k_ml_RL_74 : Cond.methodLink RL 74 yX5_restore ∈ lw_tbl := List.mem_of_getElem? (i := 541) (by decide +kernel)
theorem k_inst_yX5_restore : Cond.instanceMethod yX5_restore ∈ lw_tbl := List.mem_of_getElem? (i := 542) (by decide +kernel)
theorem k_sel_yX5_restore : Cond.selects RX5 yX5_restore yX5_restore ∈ lw_tbl := List.mem_of_getElem? (i := 543) (by decide +kernel)
theorem k_code_yX5_restore : Cond.code yX5_restore prog_1_method_19_code 1 (some .int) ∈ lw_tbl := List.mem_of_getElem? (i := 544) (by decide +kernel)
theorem k_ml_RL_78 : Cond.methodLink RL 78 yX5_page ∈ lw_tbl := List.mem_of_getElem? (i := 545) (by decide +kernel)
theorem k_inst_yX5_page : Cond.instanceMethod yX5_page ∈ lw_tbl := List.mem_of_getElem? (i := 546) (by decide +kernel)
theorem k_sel_yX5_page : Cond.selects RX5 yX5_page yX5_page ∈ lw_tbl := List.mem_of_getElem? (i := 547) (by decide +kernel)
theorem k_code_yX5_page : Cond.code yX5_page prog_1_method_20_code 4 (some .int) ∈ lw_tbl := List.mem_of_getElem? (i := 548) (by decide +kernel)
theorem k_ml_RX5_133 : Cond.methodLink RX5 133 yX5_isPage ∈ lw_tbl := List.mem_of_getElem? (i := 549) (by decide +kernel)
theorem k_ml_RX5_141 : Cond.methodLink RX5 141 yX0_rankOf ∈ lw_tbl := List.mem_of_getElem? (i := 550) (by decide +kernel)
theorem k_ml_RX5_150 : Cond.methodLink RX5 150 yX4_hasPlace ∈ lw_tbl := List.mem_of_getElem? (i := 551) (by decide +kernel)
theorem k_ml_RX5_162 : Cond.methodLink RX5 162 yX4_readsLeft ∈ lw_tbl := List.mem_of_getElem? (i := 552) (by decide +kernel)
theorem k_inst_yX4_readsLeft : Cond.instanceMethod yX4_readsLeft ∈ lw_tbl := List.mem_of_getElem? (i := 553) (by decide +kernel)
theorem k_sel_yX4_readsLeft : Cond.selects RX4 yX4_readsLeft yX4_readsLeft ∈ lw_tbl := List.mem_of_getElem? (i := 554) (by decide +kernel)
theorem k_code_yX4_readsLeft : Cond.code yX4_readsLeft prog_6_method_18_code 7 (some .int) ∈ lw_tbl := List.mem_of_getElem? (i := 555) (by decide +kernel)
theorem k_ml_RX4_139 : Cond.methodLink RX4 139 Lib.Math.min.name ∈ lw_tbl := List.mem_of_getElem? (i := 556) (by decide +kernel)
theorem k_ml_RL_82 : Cond.methodLink RL 82 yX5_block ∈ lw_tbl := List.mem_of_getElem? (i := 557) (by decide +kernel)
theorem k_inst_yX5_block : Cond.instanceMethod yX5_block ∈ lw_tbl := List.mem_of_getElem? (i := 558) (by decide +kernel)
theorem k_sel_yX5_block : Cond.selects RX5 yX5_block yX5_block ∈ lw_tbl := List.mem_of_getElem? (i := 559) (by decide +kernel)
theorem k_code_yX5_block : Cond.code yX5_block prog_1_method_21_code 3 (some .int) ∈ lw_tbl := List.mem_of_getElem? (i := 560) (by decide +kernel)
theorem k_ml_RX5_165 : Cond.methodLink RX5 165 yX5_isBlock ∈ lw_tbl := List.mem_of_getElem? (i := 561) (by decide +kernel)
theorem k_ml_RX5_174 : Cond.methodLink RX5 174 yX4_bears ∈ lw_tbl := List.mem_of_getElem? (i := 562) (by decide +kernel)
theorem k_ml_RX5_177 : Cond.methodLink RX5 177 yX4_pagesIn ∈ lw_tbl := List.mem_of_getElem? (i := 563) (by decide +kernel)
theorem k_ml_RX5_183 : Cond.methodLink RX5 183 yX4_greatestOfPages ∈ lw_tbl := List.mem_of_getElem? (i := 564) (by decide +kernel)
theorem k_ml_RX5_186 : Cond.methodLink RX5 186 yX4_isMarked ∈ lw_tbl := List.mem_of_getElem? (i := 565) (by decide +kernel)
theorem k_ml_RX5_189 : Cond.methodLink RX5 189 yX4_isFree ∈ lw_tbl := List.mem_of_getElem? (i := 566) (by decide +kernel)
theorem k_ml_RL_86 : Cond.methodLink RL 86 yX5_place ∈ lw_tbl := List.mem_of_getElem? (i := 567) (by decide +kernel)
theorem k_inst_yX5_place : Cond.instanceMethod yX5_place ∈ lw_tbl := List.mem_of_getElem? (i := 568) (by decide +kernel)
theorem k_sel_yX5_place : Cond.selects RX5 yX5_place yX5_place ∈ lw_tbl := List.mem_of_getElem? (i := 569) (by decide +kernel)
theorem k_code_yX5_place : Cond.code yX5_place prog_1_method_22_code 6 (some .int) ∈ lw_tbl := List.mem_of_getElem? (i := 570) (by decide +kernel)
theorem k_ml_RL_91 : Cond.methodLink RL 91 yX5_marked ∈ lw_tbl := List.mem_of_getElem? (i := 571) (by decide +kernel)
theorem k_inst_yX5_marked : Cond.instanceMethod yX5_marked ∈ lw_tbl := List.mem_of_getElem? (i := 572) (by decide +kernel)
theorem k_sel_yX5_marked : Cond.selects RX5 yX5_marked yX5_marked ∈ lw_tbl := List.mem_of_getElem? (i := 573) (by decide +kernel)
theorem k_code_yX5_marked : Cond.code yX5_marked prog_1_method_23_code 3 (some .int) ∈ lw_tbl := List.mem_of_getElem? (i := 574) (by decide +kernel)
theorem k_ml_RX5_202 : Cond.methodLink RX5 202 yX4_markedAhead ∈ lw_tbl := List.mem_of_getElem? (i := 575) (by decide +kernel)
theorem k_inst_yX4_markedAhead : Cond.instanceMethod yX4_markedAhead ∈ lw_tbl := List.mem_of_getElem? (i := 576) (by decide +kernel)
theorem k_sel_yX4_markedAhead : Cond.selects RX4 yX4_markedAhead yX4_markedAhead ∈ lw_tbl := List.mem_of_getElem? (i := 577) (by decide +kernel)
theorem k_code_yX4_markedAhead : Cond.code yX4_markedAhead prog_6_method_15_code 6 (some .int) ∈ lw_tbl := List.mem_of_getElem? (i := 578) (by decide +kernel)
theorem k_ml_RL_95 : Cond.methodLink RL 95 yX5_quietIn ∈ lw_tbl := List.mem_of_getElem? (i := 579) (by decide +kernel)
theorem k_inst_yX5_quietIn : Cond.instanceMethod yX5_quietIn ∈ lw_tbl := List.mem_of_getElem? (i := 580) (by decide +kernel)
theorem k_sel_yX5_quietIn : Cond.selects RX5 yX5_quietIn yX5_quietIn ∈ lw_tbl := List.mem_of_getElem? (i := 581) (by decide +kernel)
theorem k_code_yX5_quietIn : Cond.code yX5_quietIn prog_1_method_24_code 2 (some .int) ∈ lw_tbl := List.mem_of_getElem? (i := 582) (by decide +kernel)
theorem k_ml_RX5_205 : Cond.methodLink RX5 205 yX4_markedBlocks ∈ lw_tbl := List.mem_of_getElem? (i := 583) (by decide +kernel)
theorem k_ml_RX5_208 : Cond.methodLink RX5 208 yX4_passOne ∈ lw_tbl := List.mem_of_getElem? (i := 584) (by decide +kernel)
theorem k_ml_RL_99 : Cond.methodLink RL 99 yX5_erasure ∈ lw_tbl := List.mem_of_getElem? (i := 585) (by decide +kernel)
theorem k_inst_yX5_erasure : Cond.instanceMethod yX5_erasure ∈ lw_tbl := List.mem_of_getElem? (i := 586) (by decide +kernel)
theorem k_sel_yX5_erasure : Cond.selects RX5 yX5_erasure yX5_erasure ∈ lw_tbl := List.mem_of_getElem? (i := 587) (by decide +kernel)
theorem k_code_yX5_erasure : Cond.code yX5_erasure prog_1_method_25_code 3 (some .int) ∈ lw_tbl := List.mem_of_getElem? (i := 588) (by decide +kernel)
theorem k_ml_RL_103 : Cond.methodLink RL 103 yX5_count ∈ lw_tbl := List.mem_of_getElem? (i := 589) (by decide +kernel)
theorem k_inst_yX5_count : Cond.instanceMethod yX5_count ∈ lw_tbl := List.mem_of_getElem? (i := 590) (by decide +kernel)
theorem k_sel_yX5_count : Cond.selects RX5 yX5_count yX5_count ∈ lw_tbl := List.mem_of_getElem? (i := 591) (by decide +kernel)
theorem k_code_yX5_count : Cond.code yX5_count prog_1_method_26_code 2 (some .int) ∈ lw_tbl := List.mem_of_getElem? (i := 592) (by decide +kernel)
theorem k_ml_RX5_227 : Cond.methodLink RX5 227 yX4_pagesInAll ∈ lw_tbl := List.mem_of_getElem? (i := 593) (by decide +kernel)
theorem k_ml_RX5_230 : Cond.methodLink RX5 230 yX4_freeBlocks ∈ lw_tbl := List.mem_of_getElem? (i := 594) (by decide +kernel)
theorem k_ml_RX5_246 : Cond.methodLink RX5 246 yX4_greatestHundredths ∈ lw_tbl := List.mem_of_getElem? (i := 595) (by decide +kernel)
theorem k_inst_yX4_greatestHundredths : Cond.instanceMethod yX4_greatestHundredths ∈ lw_tbl := List.mem_of_getElem? (i := 596) (by decide +kernel)
theorem k_sel_yX4_greatestHundredths : Cond.selects RX4 yX4_greatestHundredths yX4_greatestHundredths ∈ lw_tbl := List.mem_of_getElem? (i := 597) (by decide +kernel)
theorem k_code_yX4_greatestHundredths : Cond.code yX4_greatestHundredths prog_6_method_11_code 3 (some .int) ∈ lw_tbl := List.mem_of_getElem? (i := 598) (by decide +kernel)
theorem k_ml_RL_107 : Cond.methodLink RL 107 yX5_setting ∈ lw_tbl := List.mem_of_getElem? (i := 599) (by decide +kernel)
theorem k_inst_yX5_setting : Cond.instanceMethod yX5_setting ∈ lw_tbl := List.mem_of_getElem? (i := 600) (by decide +kernel)
theorem k_sel_yX5_setting : Cond.selects RX5 yX5_setting yX5_setting ∈ lw_tbl := List.mem_of_getElem? (i := 601) (by decide +kernel)
theorem k_code_yX5_setting : Cond.code yX5_setting prog_1_method_27_code 2 (some .int) ∈ lw_tbl := List.mem_of_getElem? (i := 602) (by decide +kernel)
theorem k_ml_RX5_252 : Cond.methodLink RX5 252 yX5_isSetting ∈ lw_tbl := List.mem_of_getElem? (i := 603) (by decide +kernel)
theorem k_cl_RL_10 : Cond.classLink RL 10 RX6 ∈ lw_tbl := List.mem_of_getElem? (i := 604) (by decide +kernel)
theorem k_new_RX6 : Cond.instantiable RX6 15 ∈ lw_tbl := List.mem_of_getElem? (i := 605) (by decide +kernel)
theorem k_ml_RL_12 : Cond.methodLink RL 12 yX6_init ∈ lw_tbl := List.mem_of_getElem? (i := 606) (by decide +kernel)
theorem k_inst_yX6_init : Cond.instanceMethod yX6_init ∈ lw_tbl := List.mem_of_getElem? (i := 607) (by decide +kernel)
theorem k_code_yX6_init : Cond.code yX6_init prog_8_method_1_code 2 none ∈ lw_tbl := List.mem_of_getElem? (i := 608) (by decide +kernel)
theorem k_ml_RX6_1 : Cond.methodLink RX6 1 objectInit ∈ lw_tbl := List.mem_of_getElem? (i := 609) (by decide +kernel)
theorem k_fl_RX6_7 : Cond.fieldLink RX6 7 (TX6 0).1 (TX6 0).2.1 (TX6 0).2.2.1 ∈ lw_tbl := List.mem_of_getElem? (i := 610) (by decide +kernel)
theorem k_fl_RX6_13 : Cond.fieldLink RX6 13 (TX6 1).1 (TX6 1).2.1 (TX6 1).2.2.1 ∈ lw_tbl := List.mem_of_getElem? (i := 611) (by decide +kernel)
theorem k_fl_RX6_16 : Cond.fieldLink RX6 16 (TX6 2).1 (TX6 2).2.1 (TX6 2).2.2.1 ∈ lw_tbl := List.mem_of_getElem? (i := 612) (by decide +kernel)
theorem k_fl_RX6_19 : Cond.fieldLink RX6 19 (TX6 3).1 (TX6 3).2.1 (TX6 3).2.2.1 ∈ lw_tbl := List.mem_of_getElem? (i := 613) (by decide +kernel)
theorem k_fl_RX6_38 : Cond.fieldLink RX6 38 (TX6 4).1 (TX6 4).2.1 (TX6 4).2.2.1 ∈ lw_tbl := List.mem_of_getElem? (i := 614) (by decide +kernel)
theorem k_fl_RX6_22 : Cond.fieldLink RX6 22 (TX6 5).1 (TX6 5).2.1 (TX6 5).2.2.1 ∈ lw_tbl := List.mem_of_getElem? (i := 615) (by decide +kernel)
theorem k_fl_RX6_49 : Cond.fieldLink RX6 49 (TX6 6).1 (TX6 6).2.1 (TX6 6).2.2.1 ∈ lw_tbl := List.mem_of_getElem? (i := 616) (by decide +kernel)
theorem k_fl_RX6_25 : Cond.fieldLink RX6 25 (TX6 7).1 (TX6 7).2.1 (TX6 7).2.2.1 ∈ lw_tbl := List.mem_of_getElem? (i := 617) (by decide +kernel)
theorem k_fl_RX6_174 : Cond.fieldLink RX6 174 (TX6 8).1 (TX6 8).2.1 (TX6 8).2.2.1 ∈ lw_tbl := List.mem_of_getElem? (i := 618) (by decide +kernel)
theorem k_fl_RX6_177 : Cond.fieldLink RX6 177 (TX6 9).1 (TX6 9).2.1 (TX6 9).2.2.1 ∈ lw_tbl := List.mem_of_getElem? (i := 619) (by decide +kernel)
theorem k_fl_RX6_183 : Cond.fieldLink RX6 183 (TX6 10).1 (TX6 10).2.1 (TX6 10).2.2.1 ∈ lw_tbl := List.mem_of_getElem? (i := 620) (by decide +kernel)
theorem k_fl_RX6_28 : Cond.fieldLink RX6 28 (TX6 11).1 (TX6 11).2.1 (TX6 11).2.2.1 ∈ lw_tbl := List.mem_of_getElem? (i := 621) (by decide +kernel)
theorem k_fl_RX6_189 : Cond.fieldLink RX6 189 (TX6 12).1 (TX6 12).2.1 (TX6 12).2.2.1 ∈ lw_tbl := List.mem_of_getElem? (i := 622) (by decide +kernel)
theorem k_fl_RX6_31 : Cond.fieldLink RX6 31 (TX6 13).1 (TX6 13).2.1 (TX6 13).2.2.1 ∈ lw_tbl := List.mem_of_getElem? (i := 623) (by decide +kernel)
theorem k_fl_RX6_205 : Cond.fieldLink RX6 205 (TX6 14).1 (TX6 14).2.1 (TX6 14).2.2.1 ∈ lw_tbl := List.mem_of_getElem? (i := 624) (by decide +kernel)
theorem k_ml_RL_69 : Cond.methodLink RL 69 yX6_undo ∈ lw_tbl := List.mem_of_getElem? (i := 656) (by decide +kernel)
theorem k_inst_yX6_undo : Cond.instanceMethod yX6_undo ∈ lw_tbl := List.mem_of_getElem? (i := 657) (by decide +kernel)
theorem k_sel_yX6_undo : Cond.selects RX6 yX6_undo yX6_undo ∈ lw_tbl := List.mem_of_getElem? (i := 658) (by decide +kernel)
theorem k_code_yX6_undo : Cond.code yX6_undo prog_8_method_10_code 1 (some .int) ∈ lw_tbl := List.mem_of_getElem? (i := 659) (by decide +kernel)
theorem k_ml_RX6_42 : Cond.methodLink RX6 42 yX6_lays ∈ lw_tbl := List.mem_of_getElem? (i := 660) (by decide +kernel)
theorem k_stat_yX6_lays : Cond.static yX6_lays ∈ lw_tbl := List.mem_of_getElem? (i := 661) (by decide +kernel)
theorem k_code_yX6_lays : Cond.code yX6_lays prog_8_method_6_code 5 none ∈ lw_tbl := List.mem_of_getElem? (i := 662) (by decide +kernel)
theorem k_ml_RL_73 : Cond.methodLink RL 73 yX6_keep ∈ lw_tbl := List.mem_of_getElem? (i := 663) (by decide +kernel)
theorem k_inst_yX6_keep : Cond.instanceMethod yX6_keep ∈ lw_tbl := List.mem_of_getElem? (i := 664) (by decide +kernel)
theorem k_sel_yX6_keep : Cond.selects RX6 yX6_keep yX6_keep ∈ lw_tbl := List.mem_of_getElem? (i := 665) (by decide +kernel)
theorem k_code_yX6_keep : Cond.code yX6_keep prog_8_method_11_code 1 (some .int) ∈ lw_tbl := List.mem_of_getElem? (i := 666) (by decide +kernel)
theorem k_ml_RL_77 : Cond.methodLink RL 77 yX6_restore ∈ lw_tbl := List.mem_of_getElem? (i := 667) (by decide +kernel)
theorem k_inst_yX6_restore : Cond.instanceMethod yX6_restore ∈ lw_tbl := List.mem_of_getElem? (i := 668) (by decide +kernel)
theorem k_sel_yX6_restore : Cond.selects RX6 yX6_restore yX6_restore ∈ lw_tbl := List.mem_of_getElem? (i := 669) (by decide +kernel)
theorem k_code_yX6_restore : Cond.code yX6_restore prog_8_method_12_code 1 (some .int) ∈ lw_tbl := List.mem_of_getElem? (i := 670) (by decide +kernel)
theorem k_ml_RX6_46 : Cond.methodLink RX6 46 yX6_records ∈ lw_tbl := List.mem_of_getElem? (i := 671) (by decide +kernel)
theorem k_priv_yX6_records : Cond.privateMethod yX6_records ∈ lw_tbl := List.mem_of_getElem? (i := 672) (by decide +kernel)
theorem k_inst_yX6_records : Cond.instanceMethod yX6_records ∈ lw_tbl := List.mem_of_getElem? (i := 673) (by decide +kernel)
theorem k_code_yX6_records : Cond.code yX6_records prog_8_method_7_code 2 none ∈ lw_tbl := List.mem_of_getElem? (i := 674) (by decide +kernel)
theorem k_ml_RL_17 : Cond.methodLink RL 17 yX6_set ∈ lw_tbl := List.mem_of_getElem? (i := 675) (by decide +kernel)
theorem k_inst_yX6_set : Cond.instanceMethod yX6_set ∈ lw_tbl := List.mem_of_getElem? (i := 676) (by decide +kernel)
theorem k_sel_yX6_set : Cond.selects RX6 yX6_set yX6_set ∈ lw_tbl := List.mem_of_getElem? (i := 677) (by decide +kernel)
theorem k_code_yX6_set : Cond.code yX6_set prog_8_method_45_code 4 (some .int) ∈ lw_tbl := List.mem_of_getElem? (i := 678) (by decide +kernel)
theorem k_ml_RX6_34 : Cond.methodLink RX6 34 yX6_in ∈ lw_tbl := List.mem_of_getElem? (i := 679) (by decide +kernel)
theorem k_stat_yX6_in : Cond.static yX6_in ∈ lw_tbl := List.mem_of_getElem? (i := 680) (by decide +kernel)
theorem k_code_yX6_in : Cond.code yX6_in prog_8_method_3_code 3 (some .boolean) ∈ lw_tbl := List.mem_of_getElem? (i := 681) (by decide +kernel)
theorem k_ml_RX6_145 : Cond.methodLink RX6 145 yX6_isFor ∈ lw_tbl := List.mem_of_getElem? (i := 682) (by decide +kernel)
theorem k_stat_yX6_isFor : Cond.static yX6_isFor ∈ lw_tbl := List.mem_of_getElem? (i := 683) (by decide +kernel)
theorem k_code_yX6_isFor : Cond.code yX6_isFor prog_8_method_44_code 2 (some .boolean) ∈ lw_tbl := List.mem_of_getElem? (i := 684) (by decide +kernel)
theorem k_ml_RL_21 : Cond.methodLink RL 21 yX6_setKind ∈ lw_tbl := List.mem_of_getElem? (i := 685) (by decide +kernel)
theorem k_inst_yX6_setKind : Cond.instanceMethod yX6_setKind ∈ lw_tbl := List.mem_of_getElem? (i := 686) (by decide +kernel)
theorem k_sel_yX6_setKind : Cond.selects RX6 yX6_setKind yX6_setKind ∈ lw_tbl := List.mem_of_getElem? (i := 687) (by decide +kernel)
theorem k_code_yX6_setKind : Cond.code yX6_setKind prog_8_method_46_code 4 (some .int) ∈ lw_tbl := List.mem_of_getElem? (i := 688) (by decide +kernel)
theorem k_ml_RX6_149 : Cond.methodLink RX6 149 yX6_isBlock ∈ lw_tbl := List.mem_of_getElem? (i := 689) (by decide +kernel)
theorem k_stat_yX6_isBlock : Cond.static yX6_isBlock ∈ lw_tbl := List.mem_of_getElem? (i := 690) (by decide +kernel)
theorem k_code_yX6_isBlock : Cond.code yX6_isBlock prog_8_method_5_code 1 (some .boolean) ∈ lw_tbl := List.mem_of_getElem? (i := 691) (by decide +kernel)
theorem k_ml_RX6_64 : Cond.methodLink RX6 64 yX6_isFree ∈ lw_tbl := List.mem_of_getElem? (i := 692) (by decide +kernel)
theorem k_stat_yX6_isFree : Cond.static yX6_isFree ∈ lw_tbl := List.mem_of_getElem? (i := 693) (by decide +kernel)
theorem k_code_yX6_isFree : Cond.code yX6_isFree prog_8_method_19_code 2 (some .boolean) ∈ lw_tbl := List.mem_of_getElem? (i := 694) (by decide +kernel)
theorem k_ml_RX6_60 : Cond.methodLink RX6 60 yX6_many ∈ lw_tbl := List.mem_of_getElem? (i := 695) (by decide +kernel)
theorem k_stat_yX6_many : Cond.static yX6_many ∈ lw_tbl := List.mem_of_getElem? (i := 696) (by decide +kernel)
theorem k_code_yX6_many : Cond.code yX6_many prog_8_method_18_code 5 (some .int) ∈ lw_tbl := List.mem_of_getElem? (i := 697) (by decide +kernel)
theorem k_ml_RX6_53 : Cond.methodLink RX6 53 yX6_holds ∈ lw_tbl := List.mem_of_getElem? (i := 698) (by decide +kernel)
theorem k_stat_yX6_holds : Cond.static yX6_holds ∈ lw_tbl := List.mem_of_getElem? (i := 699) (by decide +kernel)
theorem k_code_yX6_holds : Cond.code yX6_holds prog_8_method_13_code 2 (some .int) ∈ lw_tbl := List.mem_of_getElem? (i := 700) (by decide +kernel)
theorem k_ml_RX6_57 : Cond.methodLink RX6 57 yX6_kind ∈ lw_tbl := List.mem_of_getElem? (i := 701) (by decide +kernel)
theorem k_stat_yX6_kind : Cond.static yX6_kind ∈ lw_tbl := List.mem_of_getElem? (i := 702) (by decide +kernel)
theorem k_code_yX6_kind : Cond.code yX6_kind prog_8_method_16_code 2 (some .int) ∈ lw_tbl := List.mem_of_getElem? (i := 703) (by decide +kernel)
theorem k_ml_RL_26 : Cond.methodLink RL 26 yX6_mark ∈ lw_tbl := List.mem_of_getElem? (i := 704) (by decide +kernel)
theorem k_inst_yX6_mark : Cond.instanceMethod yX6_mark ∈ lw_tbl := List.mem_of_getElem? (i := 705) (by decide +kernel)
theorem k_sel_yX6_mark : Cond.selects RX6 yX6_mark yX6_mark ∈ lw_tbl := List.mem_of_getElem? (i := 706) (by decide +kernel)
theorem k_code_yX6_mark : Cond.code yX6_mark prog_8_method_47_code 4 (some .int) ∈ lw_tbl := List.mem_of_getElem? (i := 707) (by decide +kernel)
theorem k_ml_RX6_152 : Cond.methodLink RX6 152 yX6_marks ∈ lw_tbl := List.mem_of_getElem? (i := 708) (by decide +kernel)
theorem k_stat_yX6_marks : Cond.static yX6_marks ∈ lw_tbl := List.mem_of_getElem? (i := 709) (by decide +kernel)
theorem k_code_yX6_marks : Cond.code yX6_marks prog_8_method_27_code 3 (some .int) ∈ lw_tbl := List.mem_of_getElem? (i := 710) (by decide +kernel)
theorem k_ml_RX6_81 : Cond.methodLink RX6 81 yX6_isMarked ∈ lw_tbl := List.mem_of_getElem? (i := 711) (by decide +kernel)
theorem k_stat_yX6_isMarked : Cond.static yX6_isMarked ∈ lw_tbl := List.mem_of_getElem? (i := 712) (by decide +kernel)
theorem k_code_yX6_isMarked : Cond.code yX6_isMarked prog_8_method_26_code 4 (some .boolean) ∈ lw_tbl := List.mem_of_getElem? (i := 713) (by decide +kernel)
theorem k_ml_RX6_78 : Cond.methodLink RX6 78 yX6_greatest ∈ lw_tbl := List.mem_of_getElem? (i := 714) (by decide +kernel)
theorem k_stat_yX6_greatest : Cond.static yX6_greatest ∈ lw_tbl := List.mem_of_getElem? (i := 715) (by decide +kernel)
theorem k_code_yX6_greatest : Cond.code yX6_greatest prog_8_method_24_code 4 (some .int) ∈ lw_tbl := List.mem_of_getElem? (i := 716) (by decide +kernel)
theorem k_ml_RX6_72 : Cond.methodLink RX6 72 yX6_weak ∈ lw_tbl := List.mem_of_getElem? (i := 717) (by decide +kernel)
theorem k_stat_yX6_weak : Cond.static yX6_weak ∈ lw_tbl := List.mem_of_getElem? (i := 718) (by decide +kernel)
theorem k_code_yX6_weak : Cond.code yX6_weak prog_8_method_14_code 2 (some .int) ∈ lw_tbl := List.mem_of_getElem? (i := 719) (by decide +kernel)
theorem k_ml_RX6_69 : Cond.methodLink RX6 69 yX6_bears ∈ lw_tbl := List.mem_of_getElem? (i := 720) (by decide +kernel)
theorem k_stat_yX6_bears : Cond.static yX6_bears ∈ lw_tbl := List.mem_of_getElem? (i := 721) (by decide +kernel)
theorem k_code_yX6_bears : Cond.code yX6_bears prog_8_method_17_code 4 (some .int) ∈ lw_tbl := List.mem_of_getElem? (i := 722) (by decide +kernel)
theorem k_ml_RL_31 : Cond.methodLink RL 31 yX6_write ∈ lw_tbl := List.mem_of_getElem? (i := 723) (by decide +kernel)
theorem k_inst_yX6_write : Cond.instanceMethod yX6_write ∈ lw_tbl := List.mem_of_getElem? (i := 724) (by decide +kernel)
theorem k_sel_yX6_write : Cond.selects RX6 yX6_write yX6_write ∈ lw_tbl := List.mem_of_getElem? (i := 725) (by decide +kernel)
theorem k_code_yX6_write : Cond.code yX6_write prog_8_method_48_code 3 (some .int) ∈ lw_tbl := List.mem_of_getElem? (i := 726) (by decide +kernel)
theorem k_ml_RX6_155 : Cond.methodLink RX6 155 yX6_tries ∈ lw_tbl := List.mem_of_getElem? (i := 727) (by decide +kernel)
theorem k_priv_yX6_tries : Cond.privateMethod yX6_tries ∈ lw_tbl := List.mem_of_getElem? (i := 728) (by decide +kernel)
theorem k_inst_yX6_tries : Cond.instanceMethod yX6_tries ∈ lw_tbl := List.mem_of_getElem? (i := 729) (by decide +kernel)
theorem k_code_yX6_tries : Cond.code yX6_tries prog_8_method_9_code 1 none ∈ lw_tbl := List.mem_of_getElem? (i := 730) (by decide +kernel)
theorem k_ml_RX6_158 : Cond.methodLink RX6 158 yX6_writesOn ∈ lw_tbl := List.mem_of_getElem? (i := 731) (by decide +kernel)
theorem k_stat_yX6_writesOn : Cond.static yX6_writesOn ∈ lw_tbl := List.mem_of_getElem? (i := 732) (by decide +kernel)
theorem k_code_yX6_writesOn : Cond.code yX6_writesOn prog_8_method_41_code 2 (some .int) ∈ lw_tbl := List.mem_of_getElem? (i := 733) (by decide +kernel)
theorem k_ml_RX6_129 : Cond.methodLink RX6 129 yX6_isPage ∈ lw_tbl := List.mem_of_getElem? (i := 734) (by decide +kernel)
theorem k_stat_yX6_isPage : Cond.static yX6_isPage ∈ lw_tbl := List.mem_of_getElem? (i := 735) (by decide +kernel)
theorem k_code_yX6_isPage : Cond.code yX6_isPage prog_8_method_4_code 1 (some .boolean) ∈ lw_tbl := List.mem_of_getElem? (i := 736) (by decide +kernel)
theorem k_ml_RX6_133 : Cond.methodLink RX6 133 yX6_free ∈ lw_tbl := List.mem_of_getElem? (i := 737) (by decide +kernel)
theorem k_stat_yX6_free : Cond.static yX6_free ∈ lw_tbl := List.mem_of_getElem? (i := 738) (by decide +kernel)
theorem k_code_yX6_free : Cond.code yX6_free prog_8_method_20_code 3 (some .int) ∈ lw_tbl := List.mem_of_getElem? (i := 739) (by decide +kernel)
theorem k_ml_RX6_94 : Cond.methodLink RX6 94 yX6_isOpenFull ∈ lw_tbl := List.mem_of_getElem? (i := 740) (by decide +kernel)
theorem k_stat_yX6_isOpenFull : Cond.static yX6_isOpenFull ∈ lw_tbl := List.mem_of_getElem? (i := 741) (by decide +kernel)
theorem k_code_yX6_isOpenFull : Cond.code yX6_isOpenFull prog_8_method_32_code 1 (some .boolean) ∈ lw_tbl := List.mem_of_getElem? (i := 742) (by decide +kernel)
theorem k_ml_RX6_90 : Cond.methodLink RX6 90 yX6_leaves ∈ lw_tbl := List.mem_of_getElem? (i := 743) (by decide +kernel)
theorem k_stat_yX6_leaves : Cond.static yX6_leaves ∈ lw_tbl := List.mem_of_getElem? (i := 744) (by decide +kernel)
theorem k_code_yX6_leaves : Cond.code yX6_leaves prog_8_method_30_code 4 none ∈ lw_tbl := List.mem_of_getElem? (i := 745) (by decide +kernel)
theorem k_ml_RX6_87 : Cond.methodLink RX6 87 yX6_buffered ∈ lw_tbl := List.mem_of_getElem? (i := 746) (by decide +kernel)
theorem k_stat_yX6_buffered : Cond.static yX6_buffered ∈ lw_tbl := List.mem_of_getElem? (i := 747) (by decide +kernel)
theorem k_code_yX6_buffered : Cond.code yX6_buffered prog_8_method_29_code 3 (some .int) ∈ lw_tbl := List.mem_of_getElem? (i := 748) (by decide +kernel)
theorem k_ml_RX6_117 : Cond.methodLink RX6 117 yX6_gives ∈ lw_tbl := List.mem_of_getElem? (i := 749) (by decide +kernel)
theorem k_stat_yX6_gives : Cond.static yX6_gives ∈ lw_tbl := List.mem_of_getElem? (i := 750) (by decide +kernel)
theorem k_code_yX6_gives : Cond.code yX6_gives prog_8_method_34_code 4 (some .int) ∈ lw_tbl := List.mem_of_getElem? (i := 751) (by decide +kernel)
theorem k_ml_RX6_98 : Cond.methodLink RX6 98 yX6_bestFree ∈ lw_tbl := List.mem_of_getElem? (i := 752) (by decide +kernel)
theorem k_stat_yX6_bestFree : Cond.static yX6_bestFree ∈ lw_tbl := List.mem_of_getElem? (i := 753) (by decide +kernel)
theorem k_code_yX6_bestFree : Cond.code yX6_bestFree prog_8_method_33_code 3 (some .int) ∈ lw_tbl := List.mem_of_getElem? (i := 754) (by decide +kernel)
theorem k_ml_RX6_102 : Cond.methodLink RX6 102 yX6_placeOf ∈ lw_tbl := List.mem_of_getElem? (i := 755) (by decide +kernel)
theorem k_stat_yX6_placeOf : Cond.static yX6_placeOf ∈ lw_tbl := List.mem_of_getElem? (i := 756) (by decide +kernel)
theorem k_code_yX6_placeOf : Cond.code yX6_placeOf prog_8_method_15_code 3 (some .int) ∈ lw_tbl := List.mem_of_getElem? (i := 757) (by decide +kernel)
theorem k_ml_RX6_161 : Cond.methodLink RX6 161 yX6_becomes ∈ lw_tbl := List.mem_of_getElem? (i := 758) (by decide +kernel)
theorem k_priv_yX6_becomes : Cond.privateMethod yX6_becomes ∈ lw_tbl := List.mem_of_getElem? (i := 759) (by decide +kernel)
theorem k_inst_yX6_becomes : Cond.instanceMethod yX6_becomes ∈ lw_tbl := List.mem_of_getElem? (i := 760) (by decide +kernel)
theorem k_code_yX6_becomes : Cond.code yX6_becomes prog_8_method_8_code 2 (some .int) ∈ lw_tbl := List.mem_of_getElem? (i := 761) (by decide +kernel)
theorem k_ml_RL_35 : Cond.methodLink RL 35 yX6_read ∈ lw_tbl := List.mem_of_getElem? (i := 762) (by decide +kernel)
theorem k_inst_yX6_read : Cond.instanceMethod yX6_read ∈ lw_tbl := List.mem_of_getElem? (i := 763) (by decide +kernel)
theorem k_sel_yX6_read : Cond.selects RX6 yX6_read yX6_read ∈ lw_tbl := List.mem_of_getElem? (i := 764) (by decide +kernel)
theorem k_code_yX6_read : Cond.code yX6_read prog_8_method_49_code 3 (some .int) ∈ lw_tbl := List.mem_of_getElem? (i := 765) (by decide +kernel)
theorem k_ml_RX6_165 : Cond.methodLink RX6 165 yX6_readsOn ∈ lw_tbl := List.mem_of_getElem? (i := 766) (by decide +kernel)
theorem k_priv_yX6_readsOn : Cond.privateMethod yX6_readsOn ∈ lw_tbl := List.mem_of_getElem? (i := 767) (by decide +kernel)
theorem k_inst_yX6_readsOn : Cond.instanceMethod yX6_readsOn ∈ lw_tbl := List.mem_of_getElem? (i := 768) (by decide +kernel)
theorem k_code_yX6_readsOn : Cond.code yX6_readsOn prog_8_method_42_code 5 (some .int) ∈ lw_tbl := List.mem_of_getElem? (i := 769) (by decide +kernel)
theorem k_ml_RX6_111 : Cond.methodLink RX6 111 yX6_readsLeft ∈ lw_tbl := List.mem_of_getElem? (i := 770) (by decide +kernel)
theorem k_stat_yX6_readsLeft : Cond.static yX6_readsLeft ∈ lw_tbl := List.mem_of_getElem? (i := 771) (by decide +kernel)
theorem k_code_yX6_readsLeft : Cond.code yX6_readsLeft prog_8_method_22_code 6 (some .int) ∈ lw_tbl := List.mem_of_getElem? (i := 772) (by decide +kernel)
theorem k_const_RX6_68 : Cond.constant RX6 68 (99999) ∈ lw_tbl := List.mem_of_getElem? (i := 773) (by decide +kernel)
theorem k_ml_RX6_75 : Cond.methodLink RX6 75 yX6_weaker ∈ lw_tbl := List.mem_of_getElem? (i := 774) (by decide +kernel)
theorem k_stat_yX6_weaker : Cond.static yX6_weaker ∈ lw_tbl := List.mem_of_getElem? (i := 775) (by decide +kernel)
theorem k_code_yX6_weaker : Cond.code yX6_weaker prog_8_method_21_code 4 (some .int) ∈ lw_tbl := List.mem_of_getElem? (i := 776) (by decide +kernel)
theorem k_ml_RX6_136 : Cond.methodLink RX6 136 yX6_movesAll ∈ lw_tbl := List.mem_of_getElem? (i := 777) (by decide +kernel)
theorem k_stat_yX6_movesAll : Cond.static yX6_movesAll ∈ lw_tbl := List.mem_of_getElem? (i := 778) (by decide +kernel)
theorem k_code_yX6_movesAll : Cond.code yX6_movesAll prog_8_method_39_code 3 (some .int) ∈ lw_tbl := List.mem_of_getElem? (i := 779) (by decide +kernel)
theorem k_ml_RX6_105 : Cond.methodLink RX6 105 yX6_shuts ∈ lw_tbl := List.mem_of_getElem? (i := 780) (by decide +kernel)
theorem k_stat_yX6_shuts : Cond.static yX6_shuts ∈ lw_tbl := List.mem_of_getElem? (i := 781) (by decide +kernel)
theorem k_code_yX6_shuts : Cond.code yX6_shuts prog_8_method_36_code 2 none ∈ lw_tbl := List.mem_of_getElem? (i := 782) (by decide +kernel)
theorem k_ml_RX6_108 : Cond.methodLink RX6 108 yX6_lowestPage ∈ lw_tbl := List.mem_of_getElem? (i := 783) (by decide +kernel)
theorem k_stat_yX6_lowestPage : Cond.static yX6_lowestPage ∈ lw_tbl := List.mem_of_getElem? (i := 784) (by decide +kernel)
theorem k_code_yX6_lowestPage : Cond.code yX6_lowestPage prog_8_method_35_code 3 (some .int) ∈ lw_tbl := List.mem_of_getElem? (i := 785) (by decide +kernel)
theorem k_ml_RX6_120 : Cond.methodLink RX6 120 yX6_moves ∈ lw_tbl := List.mem_of_getElem? (i := 786) (by decide +kernel)
theorem k_stat_yX6_moves : Cond.static yX6_moves ∈ lw_tbl := List.mem_of_getElem? (i := 787) (by decide +kernel)
theorem k_code_yX6_moves : Cond.code yX6_moves prog_8_method_37_code 3 (some .boolean) ∈ lw_tbl := List.mem_of_getElem? (i := 788) (by decide +kernel)
theorem k_ml_RX6_114 : Cond.methodLink RX6 114 yX6_reads ∈ lw_tbl := List.mem_of_getElem? (i := 789) (by decide +kernel)
theorem k_stat_yX6_reads : Cond.static yX6_reads ∈ lw_tbl := List.mem_of_getElem? (i := 790) (by decide +kernel)
theorem k_code_yX6_reads : Cond.code yX6_reads prog_8_method_23_code 4 none ∈ lw_tbl := List.mem_of_getElem? (i := 791) (by decide +kernel)
theorem k_ml_RX6_123 : Cond.methodLink RX6 123 yX6_erases ∈ lw_tbl := List.mem_of_getElem? (i := 792) (by decide +kernel)
theorem k_stat_yX6_erases : Cond.static yX6_erases ∈ lw_tbl := List.mem_of_getElem? (i := 793) (by decide +kernel)
theorem k_code_yX6_erases : Cond.code yX6_erases prog_8_method_38_code 4 none ∈ lw_tbl := List.mem_of_getElem? (i := 794) (by decide +kernel)
theorem k_ml_RX6_139 : Cond.methodLink RX6 139 yX6_fronts ∈ lw_tbl := List.mem_of_getElem? (i := 795) (by decide +kernel)
theorem k_stat_yX6_fronts : Cond.static yX6_fronts ∈ lw_tbl := List.mem_of_getElem? (i := 796) (by decide +kernel)
theorem k_code_yX6_fronts : Cond.code yX6_fronts prog_8_method_31_code 3 none ∈ lw_tbl := List.mem_of_getElem? (i := 797) (by decide +kernel)
theorem k_ml_RL_39 : Cond.methodLink RL 39 yX6_forget ∈ lw_tbl := List.mem_of_getElem? (i := 798) (by decide +kernel)
theorem k_inst_yX6_forget : Cond.instanceMethod yX6_forget ∈ lw_tbl := List.mem_of_getElem? (i := 799) (by decide +kernel)
theorem k_sel_yX6_forget : Cond.selects RX6 yX6_forget yX6_forget ∈ lw_tbl := List.mem_of_getElem? (i := 800) (by decide +kernel)
theorem k_code_yX6_forget : Cond.code yX6_forget prog_8_method_51_code 2 (some .int) ∈ lw_tbl := List.mem_of_getElem? (i := 801) (by decide +kernel)
theorem k_ml_RX6_168 : Cond.methodLink RX6 168 yX6_placed ∈ lw_tbl := List.mem_of_getElem? (i := 802) (by decide +kernel)
theorem k_stat_yX6_placed : Cond.static yX6_placed ∈ lw_tbl := List.mem_of_getElem? (i := 803) (by decide +kernel)
theorem k_code_yX6_placed : Cond.code yX6_placed prog_8_method_50_code 3 (some .int) ∈ lw_tbl := List.mem_of_getElem? (i := 804) (by decide +kernel)
theorem k_ml_RL_43 : Cond.methodLink RL 43 yX6_moveBlock ∈ lw_tbl := List.mem_of_getElem? (i := 805) (by decide +kernel)
theorem k_inst_yX6_moveBlock : Cond.instanceMethod yX6_moveBlock ∈ lw_tbl := List.mem_of_getElem? (i := 806) (by decide +kernel)
theorem k_sel_yX6_moveBlock : Cond.selects RX6 yX6_moveBlock yX6_moveBlock ∈ lw_tbl := List.mem_of_getElem? (i := 807) (by decide +kernel)
theorem k_code_yX6_moveBlock : Cond.code yX6_moveBlock prog_8_method_52_code 3 (some .int) ∈ lw_tbl := List.mem_of_getElem? (i := 808) (by decide +kernel)
theorem k_ml_RL_47 : Cond.methodLink RL 47 yX6_pass ∈ lw_tbl := List.mem_of_getElem? (i := 809) (by decide +kernel)
theorem k_inst_yX6_pass : Cond.instanceMethod yX6_pass ∈ lw_tbl := List.mem_of_getElem? (i := 810) (by decide +kernel)
theorem k_sel_yX6_pass : Cond.selects RX6 yX6_pass yX6_pass ∈ lw_tbl := List.mem_of_getElem? (i := 811) (by decide +kernel)
theorem k_code_yX6_pass : Cond.code yX6_pass prog_8_method_53_code 3 (some .int) ∈ lw_tbl := List.mem_of_getElem? (i := 812) (by decide +kernel)
theorem k_ml_RX6_171 : Cond.methodLink RX6 171 yX6_passesOn ∈ lw_tbl := List.mem_of_getElem? (i := 813) (by decide +kernel)
theorem k_stat_yX6_passesOn : Cond.static yX6_passesOn ∈ lw_tbl := List.mem_of_getElem? (i := 814) (by decide +kernel)
theorem k_code_yX6_passesOn : Cond.code yX6_passesOn prog_8_method_43_code 4 (some .int) ∈ lw_tbl := List.mem_of_getElem? (i := 815) (by decide +kernel)
theorem k_ml_RX6_142 : Cond.methodLink RX6 142 yX6_ticksOn ∈ lw_tbl := List.mem_of_getElem? (i := 816) (by decide +kernel)
theorem k_stat_yX6_ticksOn : Cond.static yX6_ticksOn ∈ lw_tbl := List.mem_of_getElem? (i := 817) (by decide +kernel)
theorem k_code_yX6_ticksOn : Cond.code yX6_ticksOn prog_8_method_40_code 4 (some .int) ∈ lw_tbl := List.mem_of_getElem? (i := 818) (by decide +kernel)
theorem k_ml_RX6_126 : Cond.methodLink RX6 126 yX6_markedAt ∈ lw_tbl := List.mem_of_getElem? (i := 819) (by decide +kernel)
theorem k_stat_yX6_markedAt : Cond.static yX6_markedAt ∈ lw_tbl := List.mem_of_getElem? (i := 820) (by decide +kernel)
theorem k_code_yX6_markedAt : Cond.code yX6_markedAt prog_8_method_28_code 6 (some .int) ∈ lw_tbl := List.mem_of_getElem? (i := 821) (by decide +kernel)
theorem k_ml_RX6_84 : Cond.methodLink RX6 84 yX6_hundredths ∈ lw_tbl := List.mem_of_getElem? (i := 822) (by decide +kernel)
theorem k_stat_yX6_hundredths : Cond.static yX6_hundredths ∈ lw_tbl := List.mem_of_getElem? (i := 823) (by decide +kernel)
theorem k_code_yX6_hundredths : Cond.code yX6_hundredths prog_8_method_25_code 2 (some .int) ∈ lw_tbl := List.mem_of_getElem? (i := 824) (by decide +kernel)
theorem k_ml_RL_52 : Cond.methodLink RL 52 yX6_type ∈ lw_tbl := List.mem_of_getElem? (i := 825) (by decide +kernel)
theorem k_inst_yX6_type : Cond.instanceMethod yX6_type ∈ lw_tbl := List.mem_of_getElem? (i := 826) (by decide +kernel)
theorem k_sel_yX6_type : Cond.selects RX6 yX6_type yX6_type ∈ lw_tbl := List.mem_of_getElem? (i := 827) (by decide +kernel)
theorem k_code_yX6_type : Cond.code yX6_type prog_8_method_54_code 2 (some .int) ∈ lw_tbl := List.mem_of_getElem? (i := 828) (by decide +kernel)
theorem k_ml_RL_57 : Cond.methodLink RL 57 yX6_clearText ∈ lw_tbl := List.mem_of_getElem? (i := 829) (by decide +kernel)
theorem k_inst_yX6_clearText : Cond.instanceMethod yX6_clearText ∈ lw_tbl := List.mem_of_getElem? (i := 830) (by decide +kernel)
theorem k_sel_yX6_clearText : Cond.selects RX6 yX6_clearText yX6_clearText ∈ lw_tbl := List.mem_of_getElem? (i := 831) (by decide +kernel)
theorem k_code_yX6_clearText : Cond.code yX6_clearText prog_8_method_55_code 2 (some .int) ∈ lw_tbl := List.mem_of_getElem? (i := 832) (by decide +kernel)
theorem k_ml_RL_61 : Cond.methodLink RL 61 yX6_perform ∈ lw_tbl := List.mem_of_getElem? (i := 833) (by decide +kernel)
theorem k_inst_yX6_perform : Cond.instanceMethod yX6_perform ∈ lw_tbl := List.mem_of_getElem? (i := 834) (by decide +kernel)
theorem k_sel_yX6_perform : Cond.selects RX6 yX6_perform yX6_perform ∈ lw_tbl := List.mem_of_getElem? (i := 835) (by decide +kernel)
theorem k_code_yX6_perform : Cond.code yX6_perform prog_8_method_62_code 4 (some .int) ∈ lw_tbl := List.mem_of_getElem? (i := 836) (by decide +kernel)
theorem k_ml_RX6_199 : Cond.methodLink RX6 199 yX6_isText ∈ lw_tbl := List.mem_of_getElem? (i := 837) (by decide +kernel)
theorem k_priv_yX6_isText : Cond.privateMethod yX6_isText ∈ lw_tbl := List.mem_of_getElem? (i := 838) (by decide +kernel)
theorem k_inst_yX6_isText : Cond.instanceMethod yX6_isText ∈ lw_tbl := List.mem_of_getElem? (i := 839) (by decide +kernel)
theorem k_code_yX6_isText : Cond.code yX6_isText prog_8_method_60_code 2 (some .boolean) ∈ lw_tbl := List.mem_of_getElem? (i := 840) (by decide +kernel)
theorem k_ml_RX6_195 : Cond.methodLink RX6 195 yX6_isOrder ∈ lw_tbl := List.mem_of_getElem? (i := 841) (by decide +kernel)
theorem k_priv_yX6_isOrder : Cond.privateMethod yX6_isOrder ∈ lw_tbl := List.mem_of_getElem? (i := 842) (by decide +kernel)
theorem k_inst_yX6_isOrder : Cond.instanceMethod yX6_isOrder ∈ lw_tbl := List.mem_of_getElem? (i := 843) (by decide +kernel)
theorem k_code_yX6_isOrder : Cond.code yX6_isOrder prog_8_method_59_code 3 (some .boolean) ∈ lw_tbl := List.mem_of_getElem? (i := 844) (by decide +kernel)
theorem k_ml_RX6_186 : Cond.methodLink RX6 186 yX6_isNumber ∈ lw_tbl := List.mem_of_getElem? (i := 845) (by decide +kernel)
theorem k_priv_yX6_isNumber : Cond.privateMethod yX6_isNumber ∈ lw_tbl := List.mem_of_getElem? (i := 846) (by decide +kernel)
theorem k_inst_yX6_isNumber : Cond.instanceMethod yX6_isNumber ∈ lw_tbl := List.mem_of_getElem? (i := 847) (by decide +kernel)
theorem k_code_yX6_isNumber : Cond.code yX6_isNumber prog_8_method_58_code 3 (some .boolean) ∈ lw_tbl := List.mem_of_getElem? (i := 848) (by decide +kernel)
theorem k_ml_RX6_180 : Cond.methodLink RX6 180 yX6_isAt ∈ lw_tbl := List.mem_of_getElem? (i := 849) (by decide +kernel)
theorem k_priv_yX6_isAt : Cond.privateMethod yX6_isAt ∈ lw_tbl := List.mem_of_getElem? (i := 850) (by decide +kernel)
theorem k_inst_yX6_isAt : Cond.instanceMethod yX6_isAt ∈ lw_tbl := List.mem_of_getElem? (i := 851) (by decide +kernel)
theorem k_code_yX6_isAt : Cond.code yX6_isAt prog_8_method_56_code 3 (some .boolean) ∈ lw_tbl := List.mem_of_getElem? (i := 852) (by decide +kernel)
theorem k_ml_RX6_192 : Cond.methodLink RX6 192 yX6_isSign ∈ lw_tbl := List.mem_of_getElem? (i := 853) (by decide +kernel)
theorem k_priv_yX6_isSign : Cond.privateMethod yX6_isSign ∈ lw_tbl := List.mem_of_getElem? (i := 854) (by decide +kernel)
theorem k_inst_yX6_isSign : Cond.instanceMethod yX6_isSign ∈ lw_tbl := List.mem_of_getElem? (i := 855) (by decide +kernel)
theorem k_code_yX6_isSign : Cond.code yX6_isSign prog_8_method_57_code 3 (some .boolean) ∈ lw_tbl := List.mem_of_getElem? (i := 856) (by decide +kernel)
theorem k_ml_RX6_202 : Cond.methodLink RX6 202 yX6_doesOnce ∈ lw_tbl := List.mem_of_getElem? (i := 857) (by decide +kernel)
theorem k_priv_yX6_doesOnce : Cond.privateMethod yX6_doesOnce ∈ lw_tbl := List.mem_of_getElem? (i := 858) (by decide +kernel)
theorem k_inst_yX6_doesOnce : Cond.instanceMethod yX6_doesOnce ∈ lw_tbl := List.mem_of_getElem? (i := 859) (by decide +kernel)
theorem k_code_yX6_doesOnce : Cond.code yX6_doesOnce prog_8_method_61_code 3 (some .int) ∈ lw_tbl := List.mem_of_getElem? (i := 860) (by decide +kernel)
theorem k_ml_RL_65 : Cond.methodLink RL 65 yX6_refusal ∈ lw_tbl := List.mem_of_getElem? (i := 861) (by decide +kernel)
theorem k_inst_yX6_refusal : Cond.instanceMethod yX6_refusal ∈ lw_tbl := List.mem_of_getElem? (i := 862) (by decide +kernel)
theorem k_sel_yX6_refusal : Cond.selects RX6 yX6_refusal yX6_refusal ∈ lw_tbl := List.mem_of_getElem? (i := 863) (by decide +kernel)
theorem k_code_yX6_refusal : Cond.code yX6_refusal prog_8_method_63_code 2 (some .int) ∈ lw_tbl := List.mem_of_getElem? (i := 864) (by decide +kernel)
theorem k_ml_RL_81 : Cond.methodLink RL 81 yX6_page ∈ lw_tbl := List.mem_of_getElem? (i := 865) (by decide +kernel)
theorem k_inst_yX6_page : Cond.instanceMethod yX6_page ∈ lw_tbl := List.mem_of_getElem? (i := 866) (by decide +kernel)
theorem k_sel_yX6_page : Cond.selects RX6 yX6_page yX6_page ∈ lw_tbl := List.mem_of_getElem? (i := 867) (by decide +kernel)
theorem k_code_yX6_page : Cond.code yX6_page prog_8_method_64_code 4 (some .int) ∈ lw_tbl := List.mem_of_getElem? (i := 868) (by decide +kernel)
theorem k_ml_RL_85 : Cond.methodLink RL 85 yX6_block ∈ lw_tbl := List.mem_of_getElem? (i := 869) (by decide +kernel)
theorem k_inst_yX6_block : Cond.instanceMethod yX6_block ∈ lw_tbl := List.mem_of_getElem? (i := 870) (by decide +kernel)
theorem k_sel_yX6_block : Cond.selects RX6 yX6_block yX6_block ∈ lw_tbl := List.mem_of_getElem? (i := 871) (by decide +kernel)
theorem k_code_yX6_block : Cond.code yX6_block prog_8_method_65_code 4 (some .int) ∈ lw_tbl := List.mem_of_getElem? (i := 872) (by decide +kernel)
theorem k_ml_RL_90 : Cond.methodLink RL 90 yX6_place ∈ lw_tbl := List.mem_of_getElem? (i := 873) (by decide +kernel)
theorem k_inst_yX6_place : Cond.instanceMethod yX6_place ∈ lw_tbl := List.mem_of_getElem? (i := 874) (by decide +kernel)
theorem k_sel_yX6_place : Cond.selects RX6 yX6_place yX6_place ∈ lw_tbl := List.mem_of_getElem? (i := 875) (by decide +kernel)
theorem k_code_yX6_place : Cond.code yX6_place prog_8_method_66_code 6 (some .int) ∈ lw_tbl := List.mem_of_getElem? (i := 876) (by decide +kernel)
theorem k_ml_RL_94 : Cond.methodLink RL 94 yX6_marked ∈ lw_tbl := List.mem_of_getElem? (i := 877) (by decide +kernel)
theorem k_inst_yX6_marked : Cond.instanceMethod yX6_marked ∈ lw_tbl := List.mem_of_getElem? (i := 878) (by decide +kernel)
theorem k_sel_yX6_marked : Cond.selects RX6 yX6_marked yX6_marked ∈ lw_tbl := List.mem_of_getElem? (i := 879) (by decide +kernel)
theorem k_code_yX6_marked : Cond.code yX6_marked prog_8_method_67_code 2 (some .int) ∈ lw_tbl := List.mem_of_getElem? (i := 880) (by decide +kernel)
theorem k_ml_RL_98 : Cond.methodLink RL 98 yX6_quietIn ∈ lw_tbl := List.mem_of_getElem? (i := 881) (by decide +kernel)
theorem k_inst_yX6_quietIn : Cond.instanceMethod yX6_quietIn ∈ lw_tbl := List.mem_of_getElem? (i := 882) (by decide +kernel)
theorem k_sel_yX6_quietIn : Cond.selects RX6 yX6_quietIn yX6_quietIn ∈ lw_tbl := List.mem_of_getElem? (i := 883) (by decide +kernel)
theorem k_code_yX6_quietIn : Cond.code yX6_quietIn prog_8_method_68_code 2 (some .int) ∈ lw_tbl := List.mem_of_getElem? (i := 884) (by decide +kernel)
theorem k_ml_RL_102 : Cond.methodLink RL 102 yX6_erasure ∈ lw_tbl := List.mem_of_getElem? (i := 885) (by decide +kernel)
theorem k_inst_yX6_erasure : Cond.instanceMethod yX6_erasure ∈ lw_tbl := List.mem_of_getElem? (i := 886) (by decide +kernel)
theorem k_sel_yX6_erasure : Cond.selects RX6 yX6_erasure yX6_erasure ∈ lw_tbl := List.mem_of_getElem? (i := 887) (by decide +kernel)
theorem k_code_yX6_erasure : Cond.code yX6_erasure prog_8_method_69_code 3 (some .int) ∈ lw_tbl := List.mem_of_getElem? (i := 888) (by decide +kernel)
theorem k_ml_RL_106 : Cond.methodLink RL 106 yX6_count ∈ lw_tbl := List.mem_of_getElem? (i := 889) (by decide +kernel)
theorem k_inst_yX6_count : Cond.instanceMethod yX6_count ∈ lw_tbl := List.mem_of_getElem? (i := 890) (by decide +kernel)
theorem k_sel_yX6_count : Cond.selects RX6 yX6_count yX6_count ∈ lw_tbl := List.mem_of_getElem? (i := 891) (by decide +kernel)
theorem k_code_yX6_count : Cond.code yX6_count prog_8_method_71_code 2 (some .int) ∈ lw_tbl := List.mem_of_getElem? (i := 892) (by decide +kernel)
theorem k_ml_RX6_208 : Cond.methodLink RX6 208 yX6_weakest ∈ lw_tbl := List.mem_of_getElem? (i := 893) (by decide +kernel)
theorem k_priv_yX6_weakest : Cond.privateMethod yX6_weakest ∈ lw_tbl := List.mem_of_getElem? (i := 894) (by decide +kernel)
theorem k_inst_yX6_weakest : Cond.instanceMethod yX6_weakest ∈ lw_tbl := List.mem_of_getElem? (i := 895) (by decide +kernel)
theorem k_code_yX6_weakest : Cond.code yX6_weakest prog_8_method_70_code 3 (some .int) ∈ lw_tbl := List.mem_of_getElem? (i := 896) (by decide +kernel)
theorem k_ml_RL_110 : Cond.methodLink RL 110 yX6_setting ∈ lw_tbl := List.mem_of_getElem? (i := 897) (by decide +kernel)
theorem k_inst_yX6_setting : Cond.instanceMethod yX6_setting ∈ lw_tbl := List.mem_of_getElem? (i := 898) (by decide +kernel)
theorem k_sel_yX6_setting : Cond.selects RX6 yX6_setting yX6_setting ∈ lw_tbl := List.mem_of_getElem? (i := 899) (by decide +kernel)
theorem k_code_yX6_setting : Cond.code yX6_setting prog_8_method_72_code 2 (some .int) ∈ lw_tbl := List.mem_of_getElem? (i := 900) (by decide +kernel)
theorem k_sel_yX5_settle : Cond.selects RX5 yX5_settle yX5_settle ∈ lw_tbl := List.mem_of_getElem? (i := 0) (by decide +kernel)
theorem k_sel_yX5_performOnce : Cond.selects RX5 yX5_performOnce yX5_performOnce ∈ lw_tbl := List.mem_of_getElem? (i := 1) (by decide +kernel)
theorem k_sel_yX5_noteRefusal : Cond.selects RX5 yX5_noteRefusal yX5_noteRefusal ∈ lw_tbl := List.mem_of_getElem? (i := 2) (by decide +kernel)
theorem k_sel_yX6_records : Cond.selects RX6 yX6_records yX6_records ∈ lw_tbl := List.mem_of_getElem? (i := 3) (by decide +kernel)
theorem k_sel_yX6_tries : Cond.selects RX6 yX6_tries yX6_tries ∈ lw_tbl := List.mem_of_getElem? (i := 4) (by decide +kernel)
theorem k_sel_yX6_becomes : Cond.selects RX6 yX6_becomes yX6_becomes ∈ lw_tbl := List.mem_of_getElem? (i := 5) (by decide +kernel)
theorem k_sel_yX6_readsOn : Cond.selects RX6 yX6_readsOn yX6_readsOn ∈ lw_tbl := List.mem_of_getElem? (i := 6) (by decide +kernel)
theorem k_sel_yX6_isText : Cond.selects RX6 yX6_isText yX6_isText ∈ lw_tbl := List.mem_of_getElem? (i := 7) (by decide +kernel)
theorem k_sel_yX6_isOrder : Cond.selects RX6 yX6_isOrder yX6_isOrder ∈ lw_tbl := List.mem_of_getElem? (i := 8) (by decide +kernel)
theorem k_sel_yX6_isNumber : Cond.selects RX6 yX6_isNumber yX6_isNumber ∈ lw_tbl := List.mem_of_getElem? (i := 9) (by decide +kernel)
theorem k_sel_yX6_isAt : Cond.selects RX6 yX6_isAt yX6_isAt ∈ lw_tbl := List.mem_of_getElem? (i := 10) (by decide +kernel)
theorem k_sel_yX6_isSign : Cond.selects RX6 yX6_isSign yX6_isSign ∈ lw_tbl := List.mem_of_getElem? (i := 11) (by decide +kernel)
theorem k_sel_yX6_doesOnce : Cond.selects RX6 yX6_doesOnce yX6_doesOnce ∈ lw_tbl := List.mem_of_getElem? (i := 12) (by decide +kernel)
theorem k_sel_yX6_weakest : Cond.selects RX6 yX6_weakest yX6_weakest ∈ lw_tbl := List.mem_of_getElem? (i := 13) (by decide +kernel)
end
