-- ===== PART A: goes FIRST, ahead of the names: the tables' words, and 'selects' of the private methods out of them =====
/-- a private method of a class that the tables say can be made, by its rows of tables_1 -/
def lw_okq (q : MethodName × Nat) : Prop := (q.1.cls ≠ "java/lang/invoke/MethodHandle" ∧ q.1.cls ≠ "java/lang/invoke/VarHandle") ∧ Cond.instantiable q.1.cls q.2 ∈ tables_1 ∧ Cond.privateMethod q.1 ∈ tables_1 ∧ Cond.instanceMethod q.1 ∈ tables_1
theorem lw_p0 : lw_okq (⟨"EventLineDesk", "bytesToOpen", "()I"⟩, 6) := ⟨⟨by decide +kernel, by decide +kernel⟩, List.mem_of_getElem? (i := 5) (by decide +kernel), List.mem_of_getElem? (i := 37) (by decide +kernel), List.mem_of_getElem? (i := 38) (by decide +kernel)⟩
theorem lw_p1 : lw_okq (⟨"EventLineDesk", "hasRoomFor", "(I)Z"⟩, 6) := ⟨⟨by decide +kernel, by decide +kernel⟩, List.mem_of_getElem? (i := 5) (by decide +kernel), List.mem_of_getElem? (i := 41) (by decide +kernel), List.mem_of_getElem? (i := 42) (by decide +kernel)⟩
theorem lw_p2 : lw_okq (⟨"EventLineDesk", "openLine", "(I)V"⟩, 6) := ⟨⟨by decide +kernel, by decide +kernel⟩, List.mem_of_getElem? (i := 5) (by decide +kernel), List.mem_of_getElem? (i := 45) (by decide +kernel), List.mem_of_getElem? (i := 46) (by decide +kernel)⟩
theorem lw_p3 : lw_okq (⟨"EventLineDesk", "endLine", "()V"⟩, 6) := ⟨⟨by decide +kernel, by decide +kernel⟩, List.mem_of_getElem? (i := 5) (by decide +kernel), List.mem_of_getElem? (i := 49) (by decide +kernel), List.mem_of_getElem? (i := 50) (by decide +kernel)⟩
theorem lw_p4 : lw_okq (⟨"EventLineDesk", "put", "(I)V"⟩, 6) := ⟨⟨by decide +kernel, by decide +kernel⟩, List.mem_of_getElem? (i := 5) (by decide +kernel), List.mem_of_getElem? (i := 53) (by decide +kernel), List.mem_of_getElem? (i := 54) (by decide +kernel)⟩
theorem lw_p5 : lw_okq (⟨"EventLineDesk", "putCharacter", "(I)V"⟩, 6) := ⟨⟨by decide +kernel, by decide +kernel⟩, List.mem_of_getElem? (i := 5) (by decide +kernel), List.mem_of_getElem? (i := 77) (by decide +kernel), List.mem_of_getElem? (i := 78) (by decide +kernel)⟩
theorem lw_p6 : lw_okq (⟨"EventLineDesk", "putUtf8", "(I)V"⟩, 6) := ⟨⟨by decide +kernel, by decide +kernel⟩, List.mem_of_getElem? (i := 5) (by decide +kernel), List.mem_of_getElem? (i := 81) (by decide +kernel), List.mem_of_getElem? (i := 82) (by decide +kernel)⟩
theorem lw_p7 : lw_okq (⟨"EventLineDesk", "putTail", "(I)V"⟩, 6) := ⟨⟨by decide +kernel, by decide +kernel⟩, List.mem_of_getElem? (i := 5) (by decide +kernel), List.mem_of_getElem? (i := 85) (by decide +kernel), List.mem_of_getElem? (i := 86) (by decide +kernel)⟩
theorem lw_p8 : lw_okq (⟨"EventLineDesk", "isBetweenLines", "(I)Z"⟩, 6) := ⟨⟨by decide +kernel, by decide +kernel⟩, List.mem_of_getElem? (i := 5) (by decide +kernel), List.mem_of_getElem? (i := 101) (by decide +kernel), List.mem_of_getElem? (i := 102) (by decide +kernel)⟩
theorem lw_p9 : lw_okq (⟨"EventLineDesk", "byteAt", "(I)I"⟩, 6) := ⟨⟨by decide +kernel, by decide +kernel⟩, List.mem_of_getElem? (i := 5) (by decide +kernel), List.mem_of_getElem? (i := 105) (by decide +kernel), List.mem_of_getElem? (i := 106) (by decide +kernel)⟩
theorem lw_p10 : lw_okq (⟨"EventLineDesk", "lineEndsFrom", "(I)I"⟩, 6) := ⟨⟨by decide +kernel, by decide +kernel⟩, List.mem_of_getElem? (i := 5) (by decide +kernel), List.mem_of_getElem? (i := 109) (by decide +kernel), List.mem_of_getElem? (i := 110) (by decide +kernel)⟩
theorem lw_p11 : lw_okq (⟨"EventLineDesk", "endOfEndedLines", "()I"⟩, 6) := ⟨⟨by decide +kernel, by decide +kernel⟩, List.mem_of_getElem? (i := 5) (by decide +kernel), List.mem_of_getElem? (i := 121) (by decide +kernel), List.mem_of_getElem? (i := 122) (by decide +kernel)⟩
theorem lw_p12 : lw_okq (⟨"EventLineDeskModel", "start", "(I)V"⟩, 9) := ⟨⟨by decide +kernel, by decide +kernel⟩, List.mem_of_getElem? (i := 132) (by decide +kernel), List.mem_of_getElem? (i := 171) (by decide +kernel), List.mem_of_getElem? (i := 172) (by decide +kernel)⟩
theorem lw_p13 : lw_okq (⟨"EventLineDeskModel", "close", "()V"⟩, 9) := ⟨⟨by decide +kernel, by decide +kernel⟩, List.mem_of_getElem? (i := 132) (by decide +kernel), List.mem_of_getElem? (i := 175) (by decide +kernel), List.mem_of_getElem? (i := 176) (by decide +kernel)⟩
theorem lw_p14 : lw_okq (⟨"EventLineDeskModel", "put", "(I)V"⟩, 9) := ⟨⟨by decide +kernel, by decide +kernel⟩, List.mem_of_getElem? (i := 132) (by decide +kernel), List.mem_of_getElem? (i := 179) (by decide +kernel), List.mem_of_getElem? (i := 180) (by decide +kernel)⟩
theorem lw_p15 : lw_okq (⟨"EventLineDeskModel", "code", "(I)Z"⟩, 9) := ⟨⟨by decide +kernel, by decide +kernel⟩, List.mem_of_getElem? (i := 132) (by decide +kernel), List.mem_of_getElem? (i := 187) (by decide +kernel), List.mem_of_getElem? (i := 188) (by decide +kernel)⟩
def lw_privs_1 : List (MethodName × Nat) := [(⟨"EventLineDesk", "bytesToOpen", "()I"⟩, 6), (⟨"EventLineDesk", "hasRoomFor", "(I)Z"⟩, 6), (⟨"EventLineDesk", "openLine", "(I)V"⟩, 6), (⟨"EventLineDesk", "endLine", "()V"⟩, 6), (⟨"EventLineDesk", "put", "(I)V"⟩, 6), (⟨"EventLineDesk", "putCharacter", "(I)V"⟩, 6), (⟨"EventLineDesk", "putUtf8", "(I)V"⟩, 6), (⟨"EventLineDesk", "putTail", "(I)V"⟩, 6), (⟨"EventLineDesk", "isBetweenLines", "(I)Z"⟩, 6), (⟨"EventLineDesk", "byteAt", "(I)I"⟩, 6), (⟨"EventLineDesk", "lineEndsFrom", "(I)I"⟩, 6), (⟨"EventLineDesk", "endOfEndedLines", "()I"⟩, 6), (⟨"EventLineDeskModel", "start", "(I)V"⟩, 9), (⟨"EventLineDeskModel", "close", "()V"⟩, 9), (⟨"EventLineDeskModel", "put", "(I)V"⟩, 9), (⟨"EventLineDeskModel", "code", "(I)Z"⟩, 9)]
theorem lw_r1 : ∀ q ∈ lw_privs_1, lw_okq q := List.forall_mem_cons.mpr ⟨lw_p0, List.forall_mem_cons.mpr ⟨lw_p1, List.forall_mem_cons.mpr ⟨lw_p2, List.forall_mem_cons.mpr ⟨lw_p3, List.forall_mem_cons.mpr ⟨lw_p4, List.forall_mem_cons.mpr ⟨lw_p5, List.forall_mem_cons.mpr ⟨lw_p6, List.forall_mem_cons.mpr ⟨lw_p7, List.forall_mem_cons.mpr ⟨lw_p8, List.forall_mem_cons.mpr ⟨lw_p9, List.forall_mem_cons.mpr ⟨lw_p10, List.forall_mem_cons.mpr ⟨lw_p11, List.forall_mem_cons.mpr ⟨lw_p12, List.forall_mem_cons.mpr ⟨lw_p13, List.forall_mem_cons.mpr ⟨lw_p14, List.forall_mem_cons.mpr ⟨lw_p15, fun _ h => absurd h List.not_mem_nil⟩⟩⟩⟩⟩⟩⟩⟩⟩⟩⟩⟩⟩⟩⟩⟩
def lw_privs : List (MethodName × Nat) := lw_privs_1
def lw_tbl : List Cond := k2_sels lw_privs ++ tables_1
theorem lw_privs_ok : ∀ q ∈ lw_privs, lw_okq q := lw_r1
/-! ===== BEGIN words of one list among another's, by their places ===== -/
theorem goodIn_r {big : List Cond} (ws : List Cond) (ps : List Nat) (hp : ws = ps.filterMap (fun i => big[i]?)) (h : ws.all goodWord = true) : GoodIn big ws := by
  intro w hw
  have h1 := List.all_eq_true.mp h w hw
  rw [hp] at hw
  obtain ⟨i, -, hi⟩ := List.mem_filterMap.mp hw
  have hm : w ∈ big := by first | exact List.mem_of_getElem? hi | exact List.getElem?_mem hi
  exact ⟨hm, good_of_word h1⟩
theorem goodIn_app {big a b : List Cond} (ha : GoodIn big a) (hb : GoodIn big b) : GoodIn big (a ++ b) := fun w h => (List.mem_append.mp h).elim (ha w) (hb w)
theorem goodIn_ca {big a b : List Cond} {c : Cond} (ha : GoodIn big (c :: a)) (hb : GoodIn big b) : GoodIn big (c :: (a ++ b)) := fun w h => (List.mem_cons.mp h).elim (fun e => ha w (List.mem_cons.mpr (Or.inl e))) (fun h => (List.mem_append.mp h).elim (fun h => ha w (List.mem_cons.mpr (Or.inr h))) (hb w))
theorem goodIn_sub {big ws : List Cond} (hm : ∀ w ∈ ws, w ∈ big) (h : ws.all goodWord = true) : GoodIn big ws := fun w hw => ⟨hm w hw, good_of_word (List.all_eq_true.mp h w hw)⟩
/-! ===== END ===== -/

/-! ===== BEGIN printed: names, fields, word lists, decode rows ===== -/
def RX0 : String := "EventLineDesk"
def TX0 : u_T := fun k => match k with
  | 0 => ("EventLineDesk", "ring", "[B", true)
  | 1 => ("EventLineDesk", "total", "I", false)
  | 2 => ("EventLineDesk", "taken", "I", false)
  | 3 => ("EventLineDesk", "endedLines", "I", false)
  | 4 => ("EventLineDesk", "openKind", "I", false)
  | _ => ("EventLineDesk", "openStart", "I", false)
def tyX0 : Nat → FieldType := fun k => match k with
  | 0 => .array .byte
  | 1 => .int
  | 2 => .int
  | 3 => .int
  | 4 => .int
  | _ => .int
abbrev wsX00 : List Cond := u_ws RX0 TX0 6
theorem nmX0 : ∀ a, a < 6 → ∀ b, b < 6 → a ≠ b → (TX0 a).2.1 ≠ (TX0 b).2.1 := by decide +kernel
theorem tyX0_ok : ∀ k, k < 6 → parseFieldDescriptor (TX0 k).2.2.1 = some (tyX0 k) := by decide +kernel
abbrev cX0_init : ByteArray := prog_1_method_1_code
def yX0_init : MethodName := ⟨RX0, "<init>", "()V"⟩
abbrev cX0_begin : ByteArray := prog_1_method_2_code
def yX0_begin : MethodName := ⟨RX0, "begin", "(I)Z"⟩
abbrev cX0_add : ByteArray := prog_1_method_3_code
def yX0_add : MethodName := ⟨RX0, "add", "(I)Z"⟩
abbrev cX0_text : ByteArray := prog_1_method_4_code
def yX0_text : MethodName := ⟨RX0, "text", "(I)Z"⟩
abbrev cX0_end : ByteArray := prog_1_method_5_code
def yX0_end : MethodName := ⟨RX0, "end", "()I"⟩
abbrev cX0_back : ByteArray := prog_1_method_6_code
def yX0_back : MethodName := ⟨RX0, "back", "(I)Z"⟩
abbrev cX0_mark : ByteArray := prog_1_method_7_code
def yX0_mark : MethodName := ⟨RX0, "mark", "()I"⟩
abbrev cX0_take : ByteArray := prog_1_method_8_code
def yX0_take : MethodName := ⟨RX0, "take", "()J"⟩
abbrev cX0_count : ByteArray := prog_1_method_9_code
def yX0_count : MethodName := ⟨RX0, "count", "(I)I"⟩
abbrev cX0_hasRoomFor : ByteArray := prog_1_method_10_code
def yX0_hasRoomFor : MethodName := ⟨RX0, "hasRoomFor", "(I)Z"⟩
abbrev cX0_bytesToOpen : ByteArray := prog_1_method_11_code
def yX0_bytesToOpen : MethodName := ⟨RX0, "bytesToOpen", "()I"⟩
abbrev cX0_openLine : ByteArray := prog_1_method_12_code
def yX0_openLine : MethodName := ⟨RX0, "openLine", "(I)V"⟩
abbrev cX0_endLine : ByteArray := prog_1_method_13_code
def yX0_endLine : MethodName := ⟨RX0, "endLine", "()V"⟩
abbrev cX0_endOfEndedLines : ByteArray := prog_1_method_14_code
def yX0_endOfEndedLines : MethodName := ⟨RX0, "endOfEndedLines", "()I"⟩
abbrev cX0_isBetweenLines : ByteArray := prog_1_method_15_code
def yX0_isBetweenLines : MethodName := ⟨RX0, "isBetweenLines", "(I)Z"⟩
abbrev cX0_lineEndsFrom : ByteArray := prog_1_method_16_code
def yX0_lineEndsFrom : MethodName := ⟨RX0, "lineEndsFrom", "(I)I"⟩
abbrev cX0_firstByteOf : ByteArray := prog_1_method_17_code
def yX0_firstByteOf : MethodName := ⟨RX0, "firstByteOf", "(I)I"⟩
abbrev cX0_isCharacter : ByteArray := prog_1_method_18_code
def yX0_isCharacter : MethodName := ⟨RX0, "isCharacter", "(I)Z"⟩
abbrev cX0_escapedFormOf : ByteArray := prog_1_method_19_code
def yX0_escapedFormOf : MethodName := ⟨RX0, "escapedFormOf", "(I)I"⟩
abbrev cX0_sizeOf : ByteArray := prog_1_method_20_code
def yX0_sizeOf : MethodName := ⟨RX0, "sizeOf", "(I)I"⟩
abbrev cX0_putCharacter : ByteArray := prog_1_method_21_code
def yX0_putCharacter : MethodName := ⟨RX0, "putCharacter", "(I)V"⟩
abbrev cX0_putUtf8 : ByteArray := prog_1_method_22_code
def yX0_putUtf8 : MethodName := ⟨RX0, "putUtf8", "(I)V"⟩
abbrev cX0_putTail : ByteArray := prog_1_method_23_code
def yX0_putTail : MethodName := ⟨RX0, "putTail", "(I)V"⟩
abbrev cX0_put : ByteArray := prog_1_method_24_code
def yX0_put : MethodName := ⟨RX0, "put", "(I)V"⟩
abbrev cX0_byteAt : ByteArray := prog_1_method_25_code
def yX0_byteAt : MethodName := ⟨RX0, "byteAt", "(I)I"⟩
def RX1 : String := "EventLineDeskModel"
def TX1 : u_T := fun k => match k with
  | 0 => ("EventLineDeskModel", "row", "[I", true)
  | 1 => ("EventLineDeskModel", "size", "I", false)
  | 2 => ("EventLineDeskModel", "open", "I", false)
  | 3 => ("EventLineDeskModel", "kind", "I", false)
  | 4 => ("EventLineDeskModel", "taken", "I", false)
  | 5 => ("EventLineDeskModel", "last", "I", false)
  | 6 => ("EventLineDeskModel", "lines", "I", false)
  | 7 => ("EventLineDeskModel", "bytes", "[I", true)
  | _ => ("EventLineDeskModel", "many", "I", false)
def tyX1 : Nat → FieldType := fun k => match k with
  | 0 => .array .int
  | 1 => .int
  | 2 => .int
  | 3 => .int
  | 4 => .int
  | 5 => .int
  | 6 => .int
  | 7 => .array .int
  | _ => .int
abbrev wsX10 : List Cond := u_ws RX1 TX1 9
theorem nmX1 : ∀ a, a < 9 → ∀ b, b < 9 → a ≠ b → (TX1 a).2.1 ≠ (TX1 b).2.1 := by decide +kernel
theorem tyX1_ok : ∀ k, k < 9 → parseFieldDescriptor (TX1 k).2.2.1 = some (tyX1 k) := by decide +kernel
abbrev cX1_init : ByteArray := prog_3_method_1_code
def yX1_init : MethodName := ⟨RX1, "<init>", "()V"⟩
abbrev cX1_put : ByteArray := prog_3_method_2_code
def yX1_put : MethodName := ⟨RX1, "put", "(I)V"⟩
abbrev cX1_code : ByteArray := prog_3_method_3_code
def yX1_code : MethodName := ⟨RX1, "code", "(I)Z"⟩
abbrev cX1_close : ByteArray := prog_3_method_4_code
def yX1_close : MethodName := ⟨RX1, "close", "()V"⟩
abbrev cX1_start : ByteArray := prog_3_method_5_code
def yX1_start : MethodName := ⟨RX1, "start", "(I)V"⟩
abbrev cX1_begin : ByteArray := prog_3_method_6_code
def yX1_begin : MethodName := ⟨RX1, "begin", "(I)Z"⟩
abbrev cX1_add : ByteArray := prog_3_method_7_code
def yX1_add : MethodName := ⟨RX1, "add", "(I)Z"⟩
abbrev cX1_text : ByteArray := prog_3_method_8_code
def yX1_text : MethodName := ⟨RX1, "text", "(I)Z"⟩
abbrev cX1_end : ByteArray := prog_3_method_9_code
def yX1_end : MethodName := ⟨RX1, "end", "()I"⟩
abbrev cX1_back : ByteArray := prog_3_method_10_code
def yX1_back : MethodName := ⟨RX1, "back", "(I)Z"⟩
abbrev cX1_mark : ByteArray := prog_3_method_11_code
def yX1_mark : MethodName := ⟨RX1, "mark", "()I"⟩
abbrev cX1_take : ByteArray := prog_3_method_12_code
def yX1_take : MethodName := ⟨RX1, "take", "()J"⟩
abbrev cX1_count : ByteArray := prog_3_method_13_code
def yX1_count : MethodName := ⟨RX1, "count", "(I)I"⟩
def RJ9 : String := "java/lang/Math"
def TJ9 : u_T := fun k => match k with
  | _ => ("", "", "", false)
def tyJ9 : Nat → FieldType := fun k => match k with
  | _ => .int
abbrev wsJ90 : List Cond := u_ws RJ9 TJ9 0
theorem nmJ9 : ∀ a, a < 0 → ∀ b, b < 0 → a ≠ b → (TJ9 a).2.1 ≠ (TJ9 b).2.1 := by decide +kernel
theorem tyJ9_ok : ∀ k, k < 0 → parseFieldDescriptor (TJ9 k).2.2.1 = some (tyJ9 k) := by decide +kernel
abbrev cJ9_min_7cf53 : ByteArray := prog_4_method_69_code
def yJ9_min_7cf53 : MethodName := ⟨RJ9, "min", "(II)I"⟩
def RL : String := "EventLineDeskLaw"
abbrev cL_law : ByteArray := code
def yL_law : MethodName := ⟨RL, "law", "([I)Z"⟩
def wsX0_init : List Cond := .code yX0_init cX0_init 1 none :: ([.methodLink RX0 3 objectInit, .instanceMethod objectInit, .code objectInit ⟨#[0xb1]⟩ 1 none, .arrayClass .byte, .fieldLink RX0 9 "EventLineDesk" "ring" "[B", .fieldLink RX0 13 "EventLineDesk" "total" "I", .fieldLink RX0 17 "EventLineDesk" "taken" "I", .fieldLink RX0 20 "EventLineDesk" "endedLines" "I", .fieldLink RX0 23 "EventLineDesk" "openKind" "I", .fieldLink RX0 26 "EventLineDesk" "openStart" "I"] ++ wsX00)
def wsX0_bytesToOpen : List Cond := .code yX0_bytesToOpen cX0_bytesToOpen 1 (some .int) :: ([.fieldLink RX0 23 "EventLineDesk" "openKind" "I"] ++ wsX00)
def wsX0_hasRoomFor : List Cond := .code yX0_hasRoomFor cX0_hasRoomFor 2 (some .boolean) :: ([.fieldLink RX0 13 "EventLineDesk" "total" "I", .fieldLink RX0 17 "EventLineDesk" "taken" "I"] ++ wsX00)
def wsX0_put : List Cond := .code yX0_put cX0_put 3 none :: ([.fieldLink RX0 13 "EventLineDesk" "total" "I", .fieldLink RX0 9 "EventLineDesk" "ring" "[B"] ++ wsX00)
def wsX0_endLine : List Cond := .code yX0_endLine cX0_endLine 1 none :: ([.fieldLink RX0 20 "EventLineDesk" "endedLines" "I", .fieldLink RX0 23 "EventLineDesk" "openKind" "I", .methodLink RX0 75 yX0_put, .instanceMethod yX0_put, .selects RX0 yX0_put yX0_put, .initialized RX0, .code yX0_put cX0_put 3 none, .fieldLink RX0 13 "EventLineDesk" "total" "I", .fieldLink RX0 9 "EventLineDesk" "ring" "[B"] ++ wsX00)
def wsX0_firstByteOf : List Cond := .code yX0_firstByteOf cX0_firstByteOf 1 (some .int) :: ([])
def wsX0_openLine : List Cond := .code yX0_openLine cX0_openLine 2 none :: ([.fieldLink RX0 23 "EventLineDesk" "openKind" "I", .fieldLink RX0 13 "EventLineDesk" "total" "I", .fieldLink RX0 26 "EventLineDesk" "openStart" "I", .methodLink RX0 51 yX0_endLine, .instanceMethod yX0_endLine, .selects RX0 yX0_endLine yX0_endLine, .initialized RX0, .code yX0_endLine cX0_endLine 1 none, .fieldLink RX0 20 "EventLineDesk" "endedLines" "I", .methodLink RX0 75 yX0_put, .instanceMethod yX0_put, .selects RX0 yX0_put yX0_put, .code yX0_put cX0_put 3 none, .fieldLink RX0 9 "EventLineDesk" "ring" "[B", .methodLink RX0 72 yX0_firstByteOf, .static yX0_firstByteOf, .code yX0_firstByteOf cX0_firstByteOf 1 (some .int)] ++ wsX00)
def wsX0_begin_r1 : List Cond := [Cond.methodLink RX0 29 yX0_bytesToOpen, Cond.instanceMethod yX0_bytesToOpen, Cond.selects RX0 yX0_bytesToOpen yX0_bytesToOpen, Cond.initialized RX0, Cond.code yX0_bytesToOpen cX0_bytesToOpen 1 (some .int), Cond.fieldLink RX0 23 "EventLineDesk" "openKind" "I", Cond.methodLink RX0 33 yX0_hasRoomFor, Cond.instanceMethod yX0_hasRoomFor, Cond.selects RX0 yX0_hasRoomFor yX0_hasRoomFor, Cond.code yX0_hasRoomFor cX0_hasRoomFor 2 (some .boolean), Cond.fieldLink RX0 13 "EventLineDesk" "total" "I", Cond.fieldLink RX0 17 "EventLineDesk" "taken" "I", Cond.methodLink RX0 37 yX0_openLine, Cond.instanceMethod yX0_openLine, Cond.selects RX0 yX0_openLine yX0_openLine, Cond.code yX0_openLine cX0_openLine 2 none, Cond.fieldLink RX0 26 "EventLineDesk" "openStart" "I", Cond.methodLink RX0 51 yX0_endLine, Cond.instanceMethod yX0_endLine, Cond.selects RX0 yX0_endLine yX0_endLine, Cond.code yX0_endLine cX0_endLine 1 none, Cond.fieldLink RX0 20 "EventLineDesk" "endedLines" "I", Cond.methodLink RX0 75 yX0_put, Cond.instanceMethod yX0_put]
def wsX0_begin_r2 : List Cond := [Cond.selects RX0 yX0_put yX0_put, Cond.code yX0_put cX0_put 3 none, Cond.fieldLink RX0 9 "EventLineDesk" "ring" "[B", Cond.methodLink RX0 72 yX0_firstByteOf, Cond.static yX0_firstByteOf, Cond.code yX0_firstByteOf cX0_firstByteOf 1 (some .int)]
def wsX0_begin : List Cond := .code yX0_begin cX0_begin 2 (some .boolean) :: ((wsX0_begin_r1 ++ wsX0_begin_r2) ++ wsX00)
def wsX0_isCharacter : List Cond := .code yX0_isCharacter cX0_isCharacter 1 (some .boolean) :: ([.constant RX0 78 (55295), .constant RX0 79 (57344), .constant RX0 80 (1114111)])
def wsX0_escapedFormOf : List Cond := .code yX0_escapedFormOf cX0_escapedFormOf 1 (some .int) :: ([])
def wsX0_sizeOf : List Cond := .code yX0_sizeOf cX0_sizeOf 1 (some .int) :: ([.constant RX0 84 (65536), .methodLink RX0 81 yX0_escapedFormOf, .static yX0_escapedFormOf, .initialized RX0, .code yX0_escapedFormOf cX0_escapedFormOf 1 (some .int)])
def wsX0_putTail : List Cond := .code yX0_putTail cX0_putTail 2 none :: ([.methodLink RX0 75 yX0_put, .instanceMethod yX0_put, .selects RX0 yX0_put yX0_put, .initialized RX0, .code yX0_put cX0_put 3 none, .fieldLink RX0 13 "EventLineDesk" "total" "I", .fieldLink RX0 9 "EventLineDesk" "ring" "[B"] ++ wsX00)
def wsX0_putUtf8 : List Cond := .code yX0_putUtf8 cX0_putUtf8 2 none :: ([.constant RX0 84 (65536), .methodLink RX0 75 yX0_put, .instanceMethod yX0_put, .selects RX0 yX0_put yX0_put, .initialized RX0, .code yX0_put cX0_put 3 none, .fieldLink RX0 13 "EventLineDesk" "total" "I", .fieldLink RX0 9 "EventLineDesk" "ring" "[B", .methodLink RX0 88 yX0_putTail, .instanceMethod yX0_putTail, .selects RX0 yX0_putTail yX0_putTail, .code yX0_putTail cX0_putTail 2 none] ++ wsX00)
def wsX0_putCharacter : List Cond := .code yX0_putCharacter cX0_putCharacter 3 none :: ([.methodLink RX0 81 yX0_escapedFormOf, .static yX0_escapedFormOf, .initialized RX0, .code yX0_escapedFormOf cX0_escapedFormOf 1 (some .int), .methodLink RX0 75 yX0_put, .instanceMethod yX0_put, .selects RX0 yX0_put yX0_put, .code yX0_put cX0_put 3 none, .fieldLink RX0 13 "EventLineDesk" "total" "I", .fieldLink RX0 9 "EventLineDesk" "ring" "[B", .methodLink RX0 85 yX0_putUtf8, .instanceMethod yX0_putUtf8, .selects RX0 yX0_putUtf8 yX0_putUtf8, .code yX0_putUtf8 cX0_putUtf8 2 none, .constant RX0 84 (65536), .methodLink RX0 88 yX0_putTail, .instanceMethod yX0_putTail, .selects RX0 yX0_putTail yX0_putTail, .code yX0_putTail cX0_putTail 2 none] ++ wsX00)
def wsX0_add_r1 : List Cond := [Cond.fieldLink RX0 23 "EventLineDesk" "openKind" "I", Cond.methodLink RX0 41 yX0_isCharacter, Cond.static yX0_isCharacter, Cond.initialized RX0, Cond.code yX0_isCharacter cX0_isCharacter 1 (some .boolean), Cond.constant RX0 78 (55295), Cond.constant RX0 79 (57344), Cond.constant RX0 80 (1114111), Cond.methodLink RX0 44 yX0_sizeOf, Cond.static yX0_sizeOf, Cond.code yX0_sizeOf cX0_sizeOf 1 (some .int), Cond.constant RX0 84 (65536), Cond.methodLink RX0 81 yX0_escapedFormOf, Cond.static yX0_escapedFormOf, Cond.code yX0_escapedFormOf cX0_escapedFormOf 1 (some .int), Cond.methodLink RX0 33 yX0_hasRoomFor, Cond.instanceMethod yX0_hasRoomFor, Cond.selects RX0 yX0_hasRoomFor yX0_hasRoomFor, Cond.code yX0_hasRoomFor cX0_hasRoomFor 2 (some .boolean), Cond.fieldLink RX0 13 "EventLineDesk" "total" "I", Cond.fieldLink RX0 17 "EventLineDesk" "taken" "I", Cond.methodLink RX0 48 yX0_putCharacter, Cond.instanceMethod yX0_putCharacter, Cond.selects RX0 yX0_putCharacter yX0_putCharacter]
def wsX0_add_r2 : List Cond := [Cond.code yX0_putCharacter cX0_putCharacter 3 none, Cond.methodLink RX0 75 yX0_put, Cond.instanceMethod yX0_put, Cond.selects RX0 yX0_put yX0_put, Cond.code yX0_put cX0_put 3 none, Cond.fieldLink RX0 9 "EventLineDesk" "ring" "[B", Cond.methodLink RX0 85 yX0_putUtf8, Cond.instanceMethod yX0_putUtf8, Cond.selects RX0 yX0_putUtf8 yX0_putUtf8, Cond.code yX0_putUtf8 cX0_putUtf8 2 none, Cond.methodLink RX0 88 yX0_putTail, Cond.instanceMethod yX0_putTail, Cond.selects RX0 yX0_putTail yX0_putTail, Cond.code yX0_putTail cX0_putTail 2 none]
def wsX0_add : List Cond := .code yX0_add cX0_add 2 (some .boolean) :: ((wsX0_add_r1 ++ wsX0_add_r2) ++ wsX00)
def wsX0_text_r1 : List Cond := [Cond.fieldLink RX0 23 "EventLineDesk" "openKind" "I", Cond.methodLink RX0 41 yX0_isCharacter, Cond.static yX0_isCharacter, Cond.initialized RX0, Cond.code yX0_isCharacter cX0_isCharacter 1 (some .boolean), Cond.constant RX0 78 (55295), Cond.constant RX0 79 (57344), Cond.constant RX0 80 (1114111), Cond.methodLink RX0 29 yX0_bytesToOpen, Cond.instanceMethod yX0_bytesToOpen, Cond.selects RX0 yX0_bytesToOpen yX0_bytesToOpen, Cond.code yX0_bytesToOpen cX0_bytesToOpen 1 (some .int), Cond.methodLink RX0 44 yX0_sizeOf, Cond.static yX0_sizeOf, Cond.code yX0_sizeOf cX0_sizeOf 1 (some .int), Cond.constant RX0 84 (65536), Cond.methodLink RX0 81 yX0_escapedFormOf, Cond.static yX0_escapedFormOf, Cond.code yX0_escapedFormOf cX0_escapedFormOf 1 (some .int), Cond.methodLink RX0 33 yX0_hasRoomFor, Cond.instanceMethod yX0_hasRoomFor, Cond.selects RX0 yX0_hasRoomFor yX0_hasRoomFor, Cond.code yX0_hasRoomFor cX0_hasRoomFor 2 (some .boolean), Cond.fieldLink RX0 13 "EventLineDesk" "total" "I"]
def wsX0_text_r2 : List Cond := [Cond.fieldLink RX0 17 "EventLineDesk" "taken" "I", Cond.methodLink RX0 37 yX0_openLine, Cond.instanceMethod yX0_openLine, Cond.selects RX0 yX0_openLine yX0_openLine, Cond.code yX0_openLine cX0_openLine 2 none, Cond.fieldLink RX0 26 "EventLineDesk" "openStart" "I", Cond.methodLink RX0 51 yX0_endLine, Cond.instanceMethod yX0_endLine, Cond.selects RX0 yX0_endLine yX0_endLine, Cond.code yX0_endLine cX0_endLine 1 none, Cond.fieldLink RX0 20 "EventLineDesk" "endedLines" "I", Cond.methodLink RX0 75 yX0_put, Cond.instanceMethod yX0_put, Cond.selects RX0 yX0_put yX0_put, Cond.code yX0_put cX0_put 3 none, Cond.fieldLink RX0 9 "EventLineDesk" "ring" "[B", Cond.methodLink RX0 72 yX0_firstByteOf, Cond.static yX0_firstByteOf, Cond.code yX0_firstByteOf cX0_firstByteOf 1 (some .int), Cond.methodLink RX0 48 yX0_putCharacter, Cond.instanceMethod yX0_putCharacter, Cond.selects RX0 yX0_putCharacter yX0_putCharacter, Cond.code yX0_putCharacter cX0_putCharacter 3 none, Cond.methodLink RX0 85 yX0_putUtf8]
def wsX0_text_r3 : List Cond := [Cond.instanceMethod yX0_putUtf8, Cond.selects RX0 yX0_putUtf8 yX0_putUtf8, Cond.code yX0_putUtf8 cX0_putUtf8 2 none, Cond.methodLink RX0 88 yX0_putTail, Cond.instanceMethod yX0_putTail, Cond.selects RX0 yX0_putTail yX0_putTail, Cond.code yX0_putTail cX0_putTail 2 none]
def wsX0_text : List Cond := .code yX0_text cX0_text 3 (some .boolean) :: ((wsX0_text_r1 ++ (wsX0_text_r2 ++ wsX0_text_r3)) ++ wsX00)
def wsX0_end : List Cond := .code yX0_end cX0_end 2 (some .int) :: ([.fieldLink RX0 23 "EventLineDesk" "openKind" "I", .methodLink RX0 51 yX0_endLine, .instanceMethod yX0_endLine, .selects RX0 yX0_endLine yX0_endLine, .initialized RX0, .code yX0_endLine cX0_endLine 1 none, .fieldLink RX0 20 "EventLineDesk" "endedLines" "I", .methodLink RX0 75 yX0_put, .instanceMethod yX0_put, .selects RX0 yX0_put yX0_put, .code yX0_put cX0_put 3 none, .fieldLink RX0 13 "EventLineDesk" "total" "I", .fieldLink RX0 9 "EventLineDesk" "ring" "[B"] ++ wsX00)
def wsX0_byteAt : List Cond := .code yX0_byteAt cX0_byteAt 3 (some .int) :: ([.fieldLink RX0 9 "EventLineDesk" "ring" "[B"] ++ wsX00)
def wsX0_isBetweenLines : List Cond := .code yX0_isBetweenLines cX0_isBetweenLines 2 (some .boolean) :: ([.methodLink RX0 69 yX0_byteAt, .instanceMethod yX0_byteAt, .selects RX0 yX0_byteAt yX0_byteAt, .initialized RX0, .code yX0_byteAt cX0_byteAt 3 (some .int), .fieldLink RX0 9 "EventLineDesk" "ring" "[B"] ++ wsX00)
def wsX0_lineEndsFrom : List Cond := .code yX0_lineEndsFrom cX0_lineEndsFrom 4 (some .int) :: ([.fieldLink RX0 13 "EventLineDesk" "total" "I", .methodLink RX0 69 yX0_byteAt, .instanceMethod yX0_byteAt, .selects RX0 yX0_byteAt yX0_byteAt, .initialized RX0, .code yX0_byteAt cX0_byteAt 3 (some .int), .fieldLink RX0 9 "EventLineDesk" "ring" "[B"] ++ wsX00)
def wsX0_back : List Cond := .code yX0_back cX0_back 2 (some .boolean) :: ([.fieldLink RX0 17 "EventLineDesk" "taken" "I", .fieldLink RX0 13 "EventLineDesk" "total" "I", .fieldLink RX0 20 "EventLineDesk" "endedLines" "I", .fieldLink RX0 23 "EventLineDesk" "openKind" "I", .methodLink RX0 54 yX0_isBetweenLines, .instanceMethod yX0_isBetweenLines, .selects RX0 yX0_isBetweenLines yX0_isBetweenLines, .initialized RX0, .code yX0_isBetweenLines cX0_isBetweenLines 2 (some .boolean), .methodLink RX0 69 yX0_byteAt, .instanceMethod yX0_byteAt, .selects RX0 yX0_byteAt yX0_byteAt, .code yX0_byteAt cX0_byteAt 3 (some .int), .fieldLink RX0 9 "EventLineDesk" "ring" "[B", .methodLink RX0 57 yX0_lineEndsFrom, .instanceMethod yX0_lineEndsFrom, .selects RX0 yX0_lineEndsFrom yX0_lineEndsFrom, .code yX0_lineEndsFrom cX0_lineEndsFrom 4 (some .int)] ++ wsX00)
def wsX0_mark : List Cond := .code yX0_mark cX0_mark 1 (some .int) :: ([.fieldLink RX0 23 "EventLineDesk" "openKind" "I", .fieldLink RX0 13 "EventLineDesk" "total" "I"] ++ wsX00)
def wsX0_endOfEndedLines : List Cond := .code yX0_endOfEndedLines cX0_endOfEndedLines 1 (some .int) :: ([.fieldLink RX0 23 "EventLineDesk" "openKind" "I", .fieldLink RX0 13 "EventLineDesk" "total" "I", .fieldLink RX0 26 "EventLineDesk" "openStart" "I"] ++ wsX00)
def wsX0_take : List Cond := .code yX0_take cX0_take 5 (some .long) :: ([.fieldLink RX0 17 "EventLineDesk" "taken" "I", .methodLink RX0 63 Lib.Math.min.name, .static Lib.Math.min.name, .initialized "java/lang/Math", .code Lib.Math.min.name Lib.Math.min.code 2 (some .int), .methodLink RX0 60 yX0_endOfEndedLines, .instanceMethod yX0_endOfEndedLines, .selects RX0 yX0_endOfEndedLines yX0_endOfEndedLines, .initialized RX0, .code yX0_endOfEndedLines cX0_endOfEndedLines 1 (some .int), .fieldLink RX0 23 "EventLineDesk" "openKind" "I", .fieldLink RX0 13 "EventLineDesk" "total" "I", .fieldLink RX0 26 "EventLineDesk" "openStart" "I", .methodLink RX0 69 yX0_byteAt, .instanceMethod yX0_byteAt, .selects RX0 yX0_byteAt yX0_byteAt, .code yX0_byteAt cX0_byteAt 3 (some .int), .fieldLink RX0 9 "EventLineDesk" "ring" "[B"] ++ wsX00)
def wsX0_count : List Cond := .code yX0_count cX0_count 2 (some .int) :: ([.fieldLink RX0 13 "EventLineDesk" "total" "I", .fieldLink RX0 17 "EventLineDesk" "taken" "I", .fieldLink RX0 20 "EventLineDesk" "endedLines" "I", .fieldLink RX0 23 "EventLineDesk" "openKind" "I", .methodLink RX0 60 yX0_endOfEndedLines, .instanceMethod yX0_endOfEndedLines, .selects RX0 yX0_endOfEndedLines yX0_endOfEndedLines, .initialized RX0, .code yX0_endOfEndedLines cX0_endOfEndedLines 1 (some .int), .fieldLink RX0 26 "EventLineDesk" "openStart" "I"] ++ wsX00)
def wsX1_init : List Cond := .code yX1_init cX1_init 1 none :: ([.methodLink RX1 1 objectInit, .instanceMethod objectInit, .code objectInit ⟨#[0xb1]⟩ 1 none, .arrayClass .int, .fieldLink RX1 7 "EventLineDeskModel" "row" "[I", .fieldLink RX1 13 "EventLineDeskModel" "kind" "I", .fieldLink RX1 17 "EventLineDeskModel" "last" "I", .fieldLink RX1 20 "EventLineDeskModel" "bytes" "[I"] ++ wsX10)
def wsX1_put : List Cond := .code yX1_put cX1_put 2 none :: ([.fieldLink RX1 7 "EventLineDeskModel" "row" "[I", .fieldLink RX1 23 "EventLineDeskModel" "size" "I", .fieldLink RX1 26 "EventLineDeskModel" "open" "I"] ++ wsX10)
def wsX1_code : List Cond := .code yX1_code cX1_code 4 (some .boolean) :: ([.constant RX1 29 (1114111), .constant RX1 30 (55296), .constant RX1 31 (57344), .constant RX1 32 (65536), .fieldLink RX1 33 "EventLineDeskModel" "many" "I", .fieldLink RX1 20 "EventLineDeskModel" "bytes" "[I"] ++ wsX10)
def wsX1_close : List Cond := .code yX1_close cX1_close 1 none :: ([.fieldLink RX1 7 "EventLineDeskModel" "row" "[I", .fieldLink RX1 23 "EventLineDeskModel" "size" "I", .fieldLink RX1 26 "EventLineDeskModel" "open" "I", .fieldLink RX1 13 "EventLineDeskModel" "kind" "I"] ++ wsX10)
def wsX1_start : List Cond := .code yX1_start cX1_start 2 none :: ([.fieldLink RX1 13 "EventLineDeskModel" "kind" "I", .methodLink RX1 36 yX1_close, .instanceMethod yX1_close, .selects RX1 yX1_close yX1_close, .initialized RX1, .code yX1_close cX1_close 1 none, .fieldLink RX1 7 "EventLineDeskModel" "row" "[I", .fieldLink RX1 23 "EventLineDeskModel" "size" "I", .fieldLink RX1 26 "EventLineDeskModel" "open" "I", .methodLink RX1 39 yX1_put, .instanceMethod yX1_put, .selects RX1 yX1_put yX1_put, .code yX1_put cX1_put 2 none] ++ wsX10)
def wsX1_begin : List Cond := .code yX1_begin cX1_begin 2 (some .boolean) :: ([.fieldLink RX1 23 "EventLineDeskModel" "size" "I", .fieldLink RX1 13 "EventLineDeskModel" "kind" "I", .methodLink RX1 43 yX1_start, .instanceMethod yX1_start, .selects RX1 yX1_start yX1_start, .initialized RX1, .code yX1_start cX1_start 2 none, .methodLink RX1 36 yX1_close, .instanceMethod yX1_close, .selects RX1 yX1_close yX1_close, .code yX1_close cX1_close 1 none, .fieldLink RX1 7 "EventLineDeskModel" "row" "[I", .fieldLink RX1 26 "EventLineDeskModel" "open" "I", .methodLink RX1 39 yX1_put, .instanceMethod yX1_put, .selects RX1 yX1_put yX1_put, .code yX1_put cX1_put 2 none] ++ wsX10)
def wsX1_add : List Cond := .code yX1_add cX1_add 3 (some .boolean) :: ([.fieldLink RX1 13 "EventLineDeskModel" "kind" "I", .fieldLink RX1 23 "EventLineDeskModel" "size" "I", .fieldLink RX1 33 "EventLineDeskModel" "many" "I", .fieldLink RX1 20 "EventLineDeskModel" "bytes" "[I", .methodLink RX1 46 yX1_code, .instanceMethod yX1_code, .selects RX1 yX1_code yX1_code, .initialized RX1, .code yX1_code cX1_code 4 (some .boolean), .constant RX1 29 (1114111), .constant RX1 30 (55296), .constant RX1 31 (57344), .constant RX1 32 (65536), .methodLink RX1 39 yX1_put, .instanceMethod yX1_put, .selects RX1 yX1_put yX1_put, .code yX1_put cX1_put 2 none, .fieldLink RX1 7 "EventLineDeskModel" "row" "[I", .fieldLink RX1 26 "EventLineDeskModel" "open" "I"] ++ wsX10)
def wsX1_text_r1 : List Cond := [Cond.fieldLink RX1 13 "EventLineDeskModel" "kind" "I", Cond.fieldLink RX1 23 "EventLineDeskModel" "size" "I", Cond.fieldLink RX1 33 "EventLineDeskModel" "many" "I", Cond.fieldLink RX1 20 "EventLineDeskModel" "bytes" "[I", Cond.methodLink RX1 46 yX1_code, Cond.instanceMethod yX1_code, Cond.selects RX1 yX1_code yX1_code, Cond.initialized RX1, Cond.code yX1_code cX1_code 4 (some .boolean), Cond.constant RX1 29 (1114111), Cond.constant RX1 30 (55296), Cond.constant RX1 31 (57344), Cond.constant RX1 32 (65536), Cond.methodLink RX1 43 yX1_start, Cond.instanceMethod yX1_start, Cond.selects RX1 yX1_start yX1_start, Cond.code yX1_start cX1_start 2 none, Cond.methodLink RX1 36 yX1_close, Cond.instanceMethod yX1_close, Cond.selects RX1 yX1_close yX1_close, Cond.code yX1_close cX1_close 1 none, Cond.fieldLink RX1 7 "EventLineDeskModel" "row" "[I", Cond.fieldLink RX1 26 "EventLineDeskModel" "open" "I", Cond.methodLink RX1 39 yX1_put]
def wsX1_text_r2 : List Cond := [Cond.instanceMethod yX1_put, Cond.selects RX1 yX1_put yX1_put, Cond.code yX1_put cX1_put 2 none]
def wsX1_text : List Cond := .code yX1_text cX1_text 4 (some .boolean) :: ((wsX1_text_r1 ++ wsX1_text_r2) ++ wsX10)
def wsX1_end : List Cond := .code yX1_end cX1_end 2 (some .int) :: ([.fieldLink RX1 13 "EventLineDeskModel" "kind" "I", .methodLink RX1 36 yX1_close, .instanceMethod yX1_close, .selects RX1 yX1_close yX1_close, .initialized RX1, .code yX1_close cX1_close 1 none, .fieldLink RX1 7 "EventLineDeskModel" "row" "[I", .fieldLink RX1 23 "EventLineDeskModel" "size" "I", .fieldLink RX1 26 "EventLineDeskModel" "open" "I"] ++ wsX10)
def wsX1_back : List Cond := .code yX1_back cX1_back 4 (some .boolean) :: ([.fieldLink RX1 50 "EventLineDeskModel" "taken" "I", .fieldLink RX1 23 "EventLineDeskModel" "size" "I", .fieldLink RX1 7 "EventLineDeskModel" "row" "[I", .fieldLink RX1 17 "EventLineDeskModel" "last" "I", .fieldLink RX1 26 "EventLineDeskModel" "open" "I", .fieldLink RX1 13 "EventLineDeskModel" "kind" "I"] ++ wsX10)
def wsX1_mark : List Cond := .code yX1_mark cX1_mark 1 (some .int) :: ([.fieldLink RX1 13 "EventLineDeskModel" "kind" "I", .fieldLink RX1 50 "EventLineDeskModel" "taken" "I", .fieldLink RX1 23 "EventLineDeskModel" "size" "I"] ++ wsX10)
def wsX1_take : List Cond := .code yX1_take cX1_take 5 (some .long) :: ([.fieldLink RX1 23 "EventLineDeskModel" "size" "I", .fieldLink RX1 26 "EventLineDeskModel" "open" "I", .fieldLink RX1 7 "EventLineDeskModel" "row" "[I", .fieldLink RX1 53 "EventLineDeskModel" "lines" "I", .fieldLink RX1 17 "EventLineDeskModel" "last" "I", .fieldLink RX1 50 "EventLineDeskModel" "taken" "I"] ++ wsX10)
def wsX1_count : List Cond := .code yX1_count cX1_count 4 (some .int) :: ([.fieldLink RX1 23 "EventLineDeskModel" "size" "I", .fieldLink RX1 13 "EventLineDeskModel" "kind" "I", .fieldLink RX1 26 "EventLineDeskModel" "open" "I", .fieldLink RX1 53 "EventLineDeskModel" "lines" "I", .fieldLink RX1 7 "EventLineDeskModel" "row" "[I"] ++ wsX10)
def wsJ9_min_7cf53 : List Cond := .code yJ9_min_7cf53 cJ9_min_7cf53 2 (some .int) :: ([])
def wsL_law_r1 : List Cond := [Cond.classLink RL 7 RX0, Cond.instantiable RX0 6, Cond.initialized RX0, Cond.classLink RL 10 RX1, Cond.instantiable RX1 9, Cond.initialized RX1, Cond.methodLink RL 9 yX0_init, Cond.instanceMethod yX0_init, Cond.code yX0_init cX0_init 1 none, Cond.methodLink RX0 3 objectInit, Cond.instanceMethod objectInit, Cond.code objectInit ⟨#[0xb1]⟩ 1 none, Cond.arrayClass .byte, Cond.fieldLink RX0 9 "EventLineDesk" "ring" "[B", Cond.fieldLink RX0 13 "EventLineDesk" "total" "I", Cond.fieldLink RX0 17 "EventLineDesk" "taken" "I", Cond.fieldLink RX0 20 "EventLineDesk" "endedLines" "I", Cond.fieldLink RX0 23 "EventLineDesk" "openKind" "I", Cond.fieldLink RX0 26 "EventLineDesk" "openStart" "I", Cond.methodLink RL 12 yX1_init, Cond.instanceMethod yX1_init, Cond.code yX1_init cX1_init 1 none, Cond.methodLink RX1 1 objectInit, Cond.arrayClass .int]
def wsL_law_r2 : List Cond := [Cond.fieldLink RX1 7 "EventLineDeskModel" "row" "[I", Cond.fieldLink RX1 13 "EventLineDeskModel" "kind" "I", Cond.fieldLink RX1 17 "EventLineDeskModel" "last" "I", Cond.fieldLink RX1 20 "EventLineDeskModel" "bytes" "[I", Cond.methodLink RL 13 yX0_begin, Cond.instanceMethod yX0_begin, Cond.selects RX0 yX0_begin yX0_begin, Cond.code yX0_begin cX0_begin 2 (some .boolean), Cond.methodLink RX0 29 yX0_bytesToOpen, Cond.instanceMethod yX0_bytesToOpen, Cond.selects RX0 yX0_bytesToOpen yX0_bytesToOpen, Cond.code yX0_bytesToOpen cX0_bytesToOpen 1 (some .int), Cond.methodLink RX0 33 yX0_hasRoomFor, Cond.instanceMethod yX0_hasRoomFor, Cond.selects RX0 yX0_hasRoomFor yX0_hasRoomFor, Cond.code yX0_hasRoomFor cX0_hasRoomFor 2 (some .boolean), Cond.methodLink RX0 37 yX0_openLine, Cond.instanceMethod yX0_openLine, Cond.selects RX0 yX0_openLine yX0_openLine, Cond.code yX0_openLine cX0_openLine 2 none, Cond.methodLink RX0 51 yX0_endLine, Cond.instanceMethod yX0_endLine, Cond.selects RX0 yX0_endLine yX0_endLine, Cond.code yX0_endLine cX0_endLine 1 none]
def wsL_law_r3 : List Cond := [Cond.methodLink RX0 75 yX0_put, Cond.instanceMethod yX0_put, Cond.selects RX0 yX0_put yX0_put, Cond.code yX0_put cX0_put 3 none, Cond.methodLink RX0 72 yX0_firstByteOf, Cond.static yX0_firstByteOf, Cond.code yX0_firstByteOf cX0_firstByteOf 1 (some .int), Cond.methodLink RL 17 yX1_begin, Cond.instanceMethod yX1_begin, Cond.selects RX1 yX1_begin yX1_begin, Cond.code yX1_begin cX1_begin 2 (some .boolean), Cond.fieldLink RX1 23 "EventLineDeskModel" "size" "I", Cond.methodLink RX1 43 yX1_start, Cond.instanceMethod yX1_start, Cond.selects RX1 yX1_start yX1_start, Cond.code yX1_start cX1_start 2 none, Cond.methodLink RX1 36 yX1_close, Cond.instanceMethod yX1_close, Cond.selects RX1 yX1_close yX1_close, Cond.code yX1_close cX1_close 1 none, Cond.fieldLink RX1 26 "EventLineDeskModel" "open" "I", Cond.methodLink RX1 39 yX1_put, Cond.instanceMethod yX1_put, Cond.selects RX1 yX1_put yX1_put]
def wsL_law_r4 : List Cond := [Cond.code yX1_put cX1_put 2 none, Cond.methodLink RL 18 yX0_add, Cond.instanceMethod yX0_add, Cond.selects RX0 yX0_add yX0_add, Cond.code yX0_add cX0_add 2 (some .boolean), Cond.methodLink RX0 41 yX0_isCharacter, Cond.static yX0_isCharacter, Cond.code yX0_isCharacter cX0_isCharacter 1 (some .boolean), Cond.constant RX0 78 (55295), Cond.constant RX0 79 (57344), Cond.constant RX0 80 (1114111), Cond.methodLink RX0 44 yX0_sizeOf, Cond.static yX0_sizeOf, Cond.code yX0_sizeOf cX0_sizeOf 1 (some .int), Cond.constant RX0 84 (65536), Cond.methodLink RX0 81 yX0_escapedFormOf, Cond.static yX0_escapedFormOf, Cond.code yX0_escapedFormOf cX0_escapedFormOf 1 (some .int), Cond.methodLink RX0 48 yX0_putCharacter, Cond.instanceMethod yX0_putCharacter, Cond.selects RX0 yX0_putCharacter yX0_putCharacter, Cond.code yX0_putCharacter cX0_putCharacter 3 none, Cond.methodLink RX0 85 yX0_putUtf8, Cond.instanceMethod yX0_putUtf8]
def wsL_law_r5 : List Cond := [Cond.selects RX0 yX0_putUtf8 yX0_putUtf8, Cond.code yX0_putUtf8 cX0_putUtf8 2 none, Cond.methodLink RX0 88 yX0_putTail, Cond.instanceMethod yX0_putTail, Cond.selects RX0 yX0_putTail yX0_putTail, Cond.code yX0_putTail cX0_putTail 2 none, Cond.methodLink RL 21 yX1_add, Cond.instanceMethod yX1_add, Cond.selects RX1 yX1_add yX1_add, Cond.code yX1_add cX1_add 3 (some .boolean), Cond.fieldLink RX1 33 "EventLineDeskModel" "many" "I", Cond.methodLink RX1 46 yX1_code, Cond.instanceMethod yX1_code, Cond.selects RX1 yX1_code yX1_code, Cond.code yX1_code cX1_code 4 (some .boolean), Cond.constant RX1 29 (1114111), Cond.constant RX1 30 (55296), Cond.constant RX1 31 (57344), Cond.constant RX1 32 (65536), Cond.methodLink RL 22 yX0_text, Cond.instanceMethod yX0_text, Cond.selects RX0 yX0_text yX0_text, Cond.code yX0_text cX0_text 3 (some .boolean), Cond.methodLink RL 25 yX1_text]
def wsL_law_r6 : List Cond := [Cond.instanceMethod yX1_text, Cond.selects RX1 yX1_text yX1_text, Cond.code yX1_text cX1_text 4 (some .boolean), Cond.methodLink RL 26 yX0_end, Cond.instanceMethod yX0_end, Cond.selects RX0 yX0_end yX0_end, Cond.code yX0_end cX0_end 2 (some .int), Cond.methodLink RL 30 yX1_end, Cond.instanceMethod yX1_end, Cond.selects RX1 yX1_end yX1_end, Cond.code yX1_end cX1_end 2 (some .int), Cond.methodLink RL 31 yX0_back, Cond.instanceMethod yX0_back, Cond.selects RX0 yX0_back yX0_back, Cond.code yX0_back cX0_back 2 (some .boolean), Cond.methodLink RX0 54 yX0_isBetweenLines, Cond.instanceMethod yX0_isBetweenLines, Cond.selects RX0 yX0_isBetweenLines yX0_isBetweenLines, Cond.code yX0_isBetweenLines cX0_isBetweenLines 2 (some .boolean), Cond.methodLink RX0 69 yX0_byteAt, Cond.instanceMethod yX0_byteAt, Cond.selects RX0 yX0_byteAt yX0_byteAt, Cond.code yX0_byteAt cX0_byteAt 3 (some .int), Cond.methodLink RX0 57 yX0_lineEndsFrom]
def wsL_law_r7 : List Cond := [Cond.instanceMethod yX0_lineEndsFrom, Cond.selects RX0 yX0_lineEndsFrom yX0_lineEndsFrom, Cond.code yX0_lineEndsFrom cX0_lineEndsFrom 4 (some .int), Cond.methodLink RL 34 yX1_back, Cond.instanceMethod yX1_back, Cond.selects RX1 yX1_back yX1_back, Cond.code yX1_back cX1_back 4 (some .boolean), Cond.fieldLink RX1 50 "EventLineDeskModel" "taken" "I", Cond.methodLink RL 35 yX0_mark, Cond.instanceMethod yX0_mark, Cond.selects RX0 yX0_mark yX0_mark, Cond.code yX0_mark cX0_mark 1 (some .int), Cond.methodLink RL 38 yX1_mark, Cond.instanceMethod yX1_mark, Cond.selects RX1 yX1_mark yX1_mark, Cond.code yX1_mark cX1_mark 1 (some .int), Cond.methodLink RL 39 yX0_take, Cond.instanceMethod yX0_take, Cond.selects RX0 yX0_take yX0_take, Cond.code yX0_take cX0_take 5 (some .long), Cond.methodLink RX0 63 Lib.Math.min.name, Cond.static Lib.Math.min.name, Cond.initialized "java/lang/Math", Cond.code Lib.Math.min.name Lib.Math.min.code 2 (some .int)]
def wsL_law_r8 : List Cond := [Cond.methodLink RX0 60 yX0_endOfEndedLines, Cond.instanceMethod yX0_endOfEndedLines, Cond.selects RX0 yX0_endOfEndedLines yX0_endOfEndedLines, Cond.code yX0_endOfEndedLines cX0_endOfEndedLines 1 (some .int), Cond.methodLink RL 43 yX1_take, Cond.instanceMethod yX1_take, Cond.selects RX1 yX1_take yX1_take, Cond.code yX1_take cX1_take 5 (some .long), Cond.fieldLink RX1 53 "EventLineDeskModel" "lines" "I", Cond.methodLink RL 44 yX0_count, Cond.instanceMethod yX0_count, Cond.selects RX0 yX0_count yX0_count, Cond.code yX0_count cX0_count 2 (some .int), Cond.methodLink RL 48 yX1_count, Cond.instanceMethod yX1_count, Cond.selects RX1 yX1_count yX1_count, Cond.code yX1_count cX1_count 4 (some .int)]
def wsL_law : List Cond := (wsL_law_r1 ++ (wsL_law_r2 ++ (wsL_law_r3 ++ (wsL_law_r4 ++ (wsL_law_r5 ++ (wsL_law_r6 ++ (wsL_law_r7 ++ wsL_law_r8))))))) ++ wsX00 ++ wsX10 ++ ([] : List Cond)
set_option maxRecDepth 20000 in
theorem wsL_law_in : ∀ w ∈ wsL_law, w ∈ lw_tbl := fun w h => (goodIn_p wsL_law [24, 27, 151, 51, 55, 59, 63, 67, 71, 74, 185, 189, 193, 197, 78, 81, 87, 90, 95, 99, 103, 201, 205, 107, 213, 111, 217, 115, 119, 123, 127, 221, 131, 225, 135, 142, 139, 229, 146, 233] (by decide +kernel) (by decide +kernel) w h).1
theorem inlX0 : ∀ w ∈ wsX00, w ∈ wsL_law := fun _ h => List.mem_append_left _ (List.mem_append_left _ (List.mem_append_right _ h))
theorem inX0 : ∀ w ∈ wsX00, w ∈ lw_tbl := fun w h => wsL_law_in w (inlX0 w h)
theorem inlX1 : ∀ w ∈ wsX10, w ∈ wsL_law := fun _ h => List.mem_append_left _ (List.mem_append_right _ h)
theorem inX1 : ∀ w ∈ wsX10, w ∈ lw_tbl := fun w h => wsL_law_in w (inlX1 w h)
theorem inJ9 : ∀ w ∈ wsJ90, w ∈ lw_tbl := by decide +kernel
theorem dX0_init_0 : decode cX0_init 0 = .ok (.aload_n 0, 1) := by decide +kernel
theorem dX0_init_1 : decode cX0_init 1 = .ok (.invokespecial 3, 3) := by decide +kernel
theorem dX0_init_4 : decode cX0_init 4 = .ok (.aload_n 0, 1) := by decide +kernel
theorem dX0_init_5 : decode cX0_init 5 = .ok (.sipush 4096, 3) := by decide +kernel
theorem dX0_init_8 : decode cX0_init 8 = .ok (.newarray .byte, 2) := by decide +kernel
theorem dX0_init_10 : decode cX0_init 10 = .ok (.putfield 9, 3) := by decide +kernel
theorem dX0_init_13 : decode cX0_init 13 = .ok (.aload_n 0, 1) := by decide +kernel
theorem dX0_init_14 : decode cX0_init 14 = .ok (.iconst 0, 1) := by decide +kernel
theorem dX0_init_15 : decode cX0_init 15 = .ok (.putfield 13, 3) := by decide +kernel
theorem dX0_init_18 : decode cX0_init 18 = .ok (.aload_n 0, 1) := by decide +kernel
theorem dX0_init_19 : decode cX0_init 19 = .ok (.iconst 0, 1) := by decide +kernel
theorem dX0_init_20 : decode cX0_init 20 = .ok (.putfield 17, 3) := by decide +kernel
theorem dX0_init_23 : decode cX0_init 23 = .ok (.aload_n 0, 1) := by decide +kernel
theorem dX0_init_24 : decode cX0_init 24 = .ok (.iconst 0, 1) := by decide +kernel
theorem dX0_init_25 : decode cX0_init 25 = .ok (.putfield 20, 3) := by decide +kernel
theorem dX0_init_28 : decode cX0_init 28 = .ok (.aload_n 0, 1) := by decide +kernel
theorem dX0_init_29 : decode cX0_init 29 = .ok (.iconst (-1), 1) := by decide +kernel
theorem dX0_init_30 : decode cX0_init 30 = .ok (.putfield 23, 3) := by decide +kernel
theorem dX0_init_33 : decode cX0_init 33 = .ok (.aload_n 0, 1) := by decide +kernel
theorem dX0_init_34 : decode cX0_init 34 = .ok (.iconst 0, 1) := by decide +kernel
theorem dX0_init_35 : decode cX0_init 35 = .ok (.putfield 26, 3) := by decide +kernel
theorem dX0_init_38 : decode cX0_init 38 = .ok (.return_, 1) := by decide +kernel
set_option maxRecDepth 20000 in
theorem ggX0_begin_X0_bytesToOpen : GoodIn wsX0_begin wsX0_bytesToOpen := goodIn_r _ [5, 6, 31, 32, 33, 34, 35, 36] (by decide +kernel) (by decide +kernel)
set_option maxRecDepth 20000 in
theorem gX0_begin_X0_bytesToOpen : GoodIn wsX0_begin (wsV RX0 29 RX0 yX0_bytesToOpen wsX0_bytesToOpen) := goodIn_app (goodIn_of _ (by decide +kernel)) ggX0_begin_X0_bytesToOpen
set_option maxRecDepth 20000 in
theorem ggX0_begin_X0_hasRoomFor : GoodIn wsX0_begin wsX0_hasRoomFor := goodIn_r _ [10, 11, 12, 31, 32, 33, 34, 35, 36] (by decide +kernel) (by decide +kernel)
set_option maxRecDepth 20000 in
theorem gX0_begin_X0_hasRoomFor : GoodIn wsX0_begin (wsV RX0 33 RX0 yX0_hasRoomFor wsX0_hasRoomFor) := goodIn_app (goodIn_of _ (by decide +kernel)) ggX0_begin_X0_hasRoomFor
set_option maxRecDepth 20000 in
theorem ggX0_begin_X0_openLine : GoodIn wsX0_begin wsX0_openLine := goodIn_r _ [16, 6, 11, 17, 18, 19, 20, 4, 21, 22, 23, 24, 25, 26, 27, 28, 29, 30, 31, 32, 33, 34, 35, 36] (by decide +kernel) (by decide +kernel)
set_option maxRecDepth 20000 in
theorem gX0_begin_X0_openLine : GoodIn wsX0_begin (wsV RX0 37 RX0 yX0_openLine wsX0_openLine) := goodIn_app (goodIn_of _ (by decide +kernel)) ggX0_begin_X0_openLine
theorem dX0_begin_0 : decode cX0_begin 0 = .ok (.iload_n 1, 1) := by decide +kernel
theorem dX0_begin_1 : decode cX0_begin 1 = .ok (.ifCond .lt 19, 3) := by decide +kernel
theorem dX0_begin_4 : decode cX0_begin 4 = .ok (.iload_n 1, 1) := by decide +kernel
theorem dX0_begin_5 : decode cX0_begin 5 = .ok (.iconst 3, 1) := by decide +kernel
theorem dX0_begin_6 : decode cX0_begin 6 = .ok (.if_icmp .gt 14, 3) := by decide +kernel
theorem dX0_begin_9 : decode cX0_begin 9 = .ok (.aload_n 0, 1) := by decide +kernel
theorem dX0_begin_10 : decode cX0_begin 10 = .ok (.aload_n 0, 1) := by decide +kernel
theorem dX0_begin_11 : decode cX0_begin 11 = .ok (.invokevirtual 29, 3) := by decide +kernel
theorem dX0_begin_14 : decode cX0_begin 14 = .ok (.invokevirtual 33, 3) := by decide +kernel
theorem dX0_begin_17 : decode cX0_begin 17 = .ok (.ifCond .ne 5, 3) := by decide +kernel
theorem dX0_begin_20 : decode cX0_begin 20 = .ok (.iconst 0, 1) := by decide +kernel
theorem dX0_begin_21 : decode cX0_begin 21 = .ok (.ireturn, 1) := by decide +kernel
theorem dX0_begin_22 : decode cX0_begin 22 = .ok (.aload_n 0, 1) := by decide +kernel
theorem dX0_begin_23 : decode cX0_begin 23 = .ok (.iload_n 1, 1) := by decide +kernel
theorem dX0_begin_24 : decode cX0_begin 24 = .ok (.invokevirtual 37, 3) := by decide +kernel
theorem dX0_begin_27 : decode cX0_begin 27 = .ok (.iconst 1, 1) := by decide +kernel
theorem dX0_begin_28 : decode cX0_begin 28 = .ok (.ireturn, 1) := by decide +kernel
set_option maxRecDepth 20000 in
theorem ggX0_add_X0_isCharacter : GoodIn wsX0_add wsX0_isCharacter := goodIn_r _ [5, 6, 7, 8] (by decide +kernel) (by decide +kernel)
set_option maxRecDepth 20000 in
theorem gX0_add_X0_isCharacter : GoodIn wsX0_add (va_wsS RX0 41 yX0_isCharacter wsX0_isCharacter) := goodIn_app (goodIn_of _ (by decide +kernel)) ggX0_add_X0_isCharacter
set_option maxRecDepth 20000 in
theorem ggX0_add_X0_sizeOf : GoodIn wsX0_add wsX0_sizeOf := goodIn_r _ [11, 12, 13, 14, 4, 15] (by decide +kernel) (by decide +kernel)
set_option maxRecDepth 20000 in
theorem gX0_add_X0_sizeOf : GoodIn wsX0_add (va_wsS RX0 44 yX0_sizeOf wsX0_sizeOf) := goodIn_app (goodIn_of _ (by decide +kernel)) ggX0_add_X0_sizeOf
set_option maxRecDepth 20000 in
theorem ggX0_add_X0_hasRoomFor : GoodIn wsX0_add wsX0_hasRoomFor := goodIn_r _ [19, 20, 21, 39, 40, 41, 42, 43, 44] (by decide +kernel) (by decide +kernel)
set_option maxRecDepth 20000 in
theorem gX0_add_X0_hasRoomFor : GoodIn wsX0_add (wsV RX0 33 RX0 yX0_hasRoomFor wsX0_hasRoomFor) := goodIn_app (goodIn_of _ (by decide +kernel)) ggX0_add_X0_hasRoomFor
set_option maxRecDepth 20000 in
theorem ggX0_add_X0_putCharacter : GoodIn wsX0_add wsX0_putCharacter := goodIn_r _ [25, 13, 14, 4, 15, 26, 27, 28, 29, 20, 30, 31, 32, 33, 34, 12, 35, 36, 37, 38, 39, 40, 41, 42, 43, 44] (by decide +kernel) (by decide +kernel)
set_option maxRecDepth 20000 in
theorem gX0_add_X0_putCharacter : GoodIn wsX0_add (wsV RX0 48 RX0 yX0_putCharacter wsX0_putCharacter) := goodIn_app (goodIn_of _ (by decide +kernel)) ggX0_add_X0_putCharacter
theorem dX0_add_0 : decode cX0_add 0 = .ok (.aload_n 0, 1) := by decide +kernel
theorem dX0_add_1 : decode cX0_add 1 = .ok (.getfield 23, 3) := by decide +kernel
theorem dX0_add_4 : decode cX0_add 4 = .ok (.iconst (-1), 1) := by decide +kernel
theorem dX0_add_5 : decode cX0_add 5 = .ok (.if_icmp .eq 18, 3) := by decide +kernel
theorem dX0_add_8 : decode cX0_add 8 = .ok (.aload_n 0, 1) := by decide +kernel
theorem dX0_add_9 : decode cX0_add 9 = .ok (.getfield 23, 3) := by decide +kernel
theorem dX0_add_12 : decode cX0_add 12 = .ok (.iconst 4, 1) := by decide +kernel
theorem dX0_add_13 : decode cX0_add 13 = .ok (.if_icmp .eq 10, 3) := by decide +kernel
theorem dX0_add_16 : decode cX0_add 16 = .ok (.iload_n 1, 1) := by decide +kernel
theorem dX0_add_17 : decode cX0_add 17 = .ok (.invokestatic 41, 3) := by decide +kernel
theorem dX0_add_20 : decode cX0_add 20 = .ok (.ifCond .ne 5, 3) := by decide +kernel
theorem dX0_add_23 : decode cX0_add 23 = .ok (.iconst 0, 1) := by decide +kernel
theorem dX0_add_24 : decode cX0_add 24 = .ok (.ireturn, 1) := by decide +kernel
theorem dX0_add_25 : decode cX0_add 25 = .ok (.aload_n 0, 1) := by decide +kernel
theorem dX0_add_26 : decode cX0_add 26 = .ok (.iload_n 1, 1) := by decide +kernel
theorem dX0_add_27 : decode cX0_add 27 = .ok (.invokestatic 44, 3) := by decide +kernel
theorem dX0_add_30 : decode cX0_add 30 = .ok (.invokevirtual 33, 3) := by decide +kernel
theorem dX0_add_33 : decode cX0_add 33 = .ok (.ifCond .ne 5, 3) := by decide +kernel
theorem dX0_add_36 : decode cX0_add 36 = .ok (.iconst 0, 1) := by decide +kernel
theorem dX0_add_37 : decode cX0_add 37 = .ok (.ireturn, 1) := by decide +kernel
theorem dX0_add_38 : decode cX0_add 38 = .ok (.aload_n 0, 1) := by decide +kernel
theorem dX0_add_39 : decode cX0_add 39 = .ok (.iload_n 1, 1) := by decide +kernel
theorem dX0_add_40 : decode cX0_add 40 = .ok (.invokevirtual 48, 3) := by decide +kernel
theorem dX0_add_43 : decode cX0_add 43 = .ok (.iconst 1, 1) := by decide +kernel
theorem dX0_add_44 : decode cX0_add 44 = .ok (.ireturn, 1) := by decide +kernel
set_option maxRecDepth 20000 in
theorem ggX0_text_X0_isCharacter : GoodIn wsX0_text wsX0_isCharacter := goodIn_r _ [5, 6, 7, 8] (by decide +kernel) (by decide +kernel)
set_option maxRecDepth 20000 in
theorem gX0_text_X0_isCharacter : GoodIn wsX0_text (va_wsS RX0 41 yX0_isCharacter wsX0_isCharacter) := goodIn_app (goodIn_of _ (by decide +kernel)) ggX0_text_X0_isCharacter
set_option maxRecDepth 20000 in
theorem ggX0_text_X0_bytesToOpen : GoodIn wsX0_text wsX0_bytesToOpen := goodIn_r _ [12, 1, 56, 57, 58, 59, 60, 61] (by decide +kernel) (by decide +kernel)
set_option maxRecDepth 20000 in
theorem gX0_text_X0_bytesToOpen : GoodIn wsX0_text (wsV RX0 29 RX0 yX0_bytesToOpen wsX0_bytesToOpen) := goodIn_app (goodIn_of _ (by decide +kernel)) ggX0_text_X0_bytesToOpen
set_option maxRecDepth 20000 in
theorem ggX0_text_X0_sizeOf : GoodIn wsX0_text wsX0_sizeOf := goodIn_r _ [15, 16, 17, 18, 4, 19] (by decide +kernel) (by decide +kernel)
set_option maxRecDepth 20000 in
theorem gX0_text_X0_sizeOf : GoodIn wsX0_text (va_wsS RX0 44 yX0_sizeOf wsX0_sizeOf) := goodIn_app (goodIn_of _ (by decide +kernel)) ggX0_text_X0_sizeOf
set_option maxRecDepth 20000 in
theorem ggX0_text_X0_hasRoomFor : GoodIn wsX0_text wsX0_hasRoomFor := goodIn_r _ [23, 24, 25, 56, 57, 58, 59, 60, 61] (by decide +kernel) (by decide +kernel)
set_option maxRecDepth 20000 in
theorem gX0_text_X0_hasRoomFor : GoodIn wsX0_text (wsV RX0 33 RX0 yX0_hasRoomFor wsX0_hasRoomFor) := goodIn_app (goodIn_of _ (by decide +kernel)) ggX0_text_X0_hasRoomFor
set_option maxRecDepth 20000 in
theorem ggX0_text_X0_openLine : GoodIn wsX0_text wsX0_openLine := goodIn_r _ [29, 1, 24, 30, 31, 32, 33, 4, 34, 35, 36, 37, 38, 39, 40, 41, 42, 43, 56, 57, 58, 59, 60, 61] (by decide +kernel) (by decide +kernel)
set_option maxRecDepth 20000 in
theorem gX0_text_X0_openLine : GoodIn wsX0_text (wsV RX0 37 RX0 yX0_openLine wsX0_openLine) := goodIn_app (goodIn_of _ (by decide +kernel)) ggX0_text_X0_openLine
set_option maxRecDepth 20000 in
theorem ggX0_text_X0_putCharacter : GoodIn wsX0_text wsX0_putCharacter := goodIn_r _ [47, 17, 18, 4, 19, 36, 37, 38, 39, 24, 40, 48, 49, 50, 51, 16, 52, 53, 54, 55, 56, 57, 58, 59, 60, 61] (by decide +kernel) (by decide +kernel)
set_option maxRecDepth 20000 in
theorem gX0_text_X0_putCharacter : GoodIn wsX0_text (wsV RX0 48 RX0 yX0_putCharacter wsX0_putCharacter) := goodIn_app (goodIn_of _ (by decide +kernel)) ggX0_text_X0_putCharacter
theorem dX0_text_0 : decode cX0_text 0 = .ok (.iload_n 1, 1) := by decide +kernel
theorem dX0_text_1 : decode cX0_text 1 = .ok (.invokestatic 41, 3) := by decide +kernel
theorem dX0_text_4 : decode cX0_text 4 = .ok (.ifCond .ne 5, 3) := by decide +kernel
theorem dX0_text_7 : decode cX0_text 7 = .ok (.iconst 0, 1) := by decide +kernel
theorem dX0_text_8 : decode cX0_text 8 = .ok (.ireturn, 1) := by decide +kernel
theorem dX0_text_9 : decode cX0_text 9 = .ok (.aload_n 0, 1) := by decide +kernel
theorem dX0_text_10 : decode cX0_text 10 = .ok (.getfield 23, 3) := by decide +kernel
theorem dX0_text_13 : decode cX0_text 13 = .ok (.iconst 4, 1) := by decide +kernel
theorem dX0_text_14 : decode cX0_text 14 = .ok (.if_icmp .ne 7, 3) := by decide +kernel
theorem dX0_text_17 : decode cX0_text 17 = .ok (.iconst 0, 1) := by decide +kernel
theorem dX0_text_18 : decode cX0_text 18 = .ok (.goto 7, 3) := by decide +kernel
theorem dX0_text_21 : decode cX0_text 21 = .ok (.aload_n 0, 1) := by decide +kernel
theorem dX0_text_22 : decode cX0_text 22 = .ok (.invokevirtual 29, 3) := by decide +kernel
theorem dX0_text_25 : decode cX0_text 25 = .ok (.istore_n 2, 1) := by decide +kernel
theorem dX0_text_26 : decode cX0_text 26 = .ok (.aload_n 0, 1) := by decide +kernel
theorem dX0_text_27 : decode cX0_text 27 = .ok (.iload_n 2, 1) := by decide +kernel
theorem dX0_text_28 : decode cX0_text 28 = .ok (.iload_n 1, 1) := by decide +kernel
theorem dX0_text_29 : decode cX0_text 29 = .ok (.invokestatic 44, 3) := by decide +kernel
theorem dX0_text_32 : decode cX0_text 32 = .ok (.iadd, 1) := by decide +kernel
theorem dX0_text_33 : decode cX0_text 33 = .ok (.invokevirtual 33, 3) := by decide +kernel
theorem dX0_text_36 : decode cX0_text 36 = .ok (.ifCond .ne 5, 3) := by decide +kernel
theorem dX0_text_39 : decode cX0_text 39 = .ok (.iconst 0, 1) := by decide +kernel
theorem dX0_text_40 : decode cX0_text 40 = .ok (.ireturn, 1) := by decide +kernel
theorem dX0_text_41 : decode cX0_text 41 = .ok (.aload_n 0, 1) := by decide +kernel
theorem dX0_text_42 : decode cX0_text 42 = .ok (.getfield 23, 3) := by decide +kernel
theorem dX0_text_45 : decode cX0_text 45 = .ok (.iconst 4, 1) := by decide +kernel
theorem dX0_text_46 : decode cX0_text 46 = .ok (.if_icmp .eq 8, 3) := by decide +kernel
theorem dX0_text_49 : decode cX0_text 49 = .ok (.aload_n 0, 1) := by decide +kernel
theorem dX0_text_50 : decode cX0_text 50 = .ok (.iconst 4, 1) := by decide +kernel
theorem dX0_text_51 : decode cX0_text 51 = .ok (.invokevirtual 37, 3) := by decide +kernel
theorem dX0_text_54 : decode cX0_text 54 = .ok (.aload_n 0, 1) := by decide +kernel
theorem dX0_text_55 : decode cX0_text 55 = .ok (.iload_n 1, 1) := by decide +kernel
theorem dX0_text_56 : decode cX0_text 56 = .ok (.invokevirtual 48, 3) := by decide +kernel
theorem dX0_text_59 : decode cX0_text 59 = .ok (.iconst 1, 1) := by decide +kernel
theorem dX0_text_60 : decode cX0_text 60 = .ok (.ireturn, 1) := by decide +kernel
set_option maxRecDepth 20000 in
theorem ggX0_end_X0_endLine : GoodIn wsX0_end wsX0_endLine := goodIn_r _ [6, 7, 1, 8, 9, 10, 5, 11, 12, 13, 14, 15, 16, 17, 18, 19] (by decide +kernel) (by decide +kernel)
set_option maxRecDepth 20000 in
theorem gX0_end_X0_endLine : GoodIn wsX0_end (wsV RX0 51 RX0 yX0_endLine wsX0_endLine) := goodIn_app (goodIn_of _ (by decide +kernel)) ggX0_end_X0_endLine
theorem dX0_end_0 : decode cX0_end 0 = .ok (.aload_n 0, 1) := by decide +kernel
theorem dX0_end_1 : decode cX0_end 1 = .ok (.getfield 23, 3) := by decide +kernel
theorem dX0_end_4 : decode cX0_end 4 = .ok (.istore_n 1, 1) := by decide +kernel
theorem dX0_end_5 : decode cX0_end 5 = .ok (.iload_n 1, 1) := by decide +kernel
theorem dX0_end_6 : decode cX0_end 6 = .ok (.iconst (-1), 1) := by decide +kernel
theorem dX0_end_7 : decode cX0_end 7 = .ok (.if_icmp .eq 7, 3) := by decide +kernel
theorem dX0_end_10 : decode cX0_end 10 = .ok (.aload_n 0, 1) := by decide +kernel
theorem dX0_end_11 : decode cX0_end 11 = .ok (.invokevirtual 51, 3) := by decide +kernel
theorem dX0_end_14 : decode cX0_end 14 = .ok (.iload_n 1, 1) := by decide +kernel
theorem dX0_end_15 : decode cX0_end 15 = .ok (.ireturn, 1) := by decide +kernel
set_option maxRecDepth 20000 in
theorem ggX0_back_X0_isBetweenLines : GoodIn wsX0_back wsX0_isBetweenLines := goodIn_r _ [9, 10, 11, 12, 8, 13, 14, 19, 20, 21, 22, 23, 24] (by decide +kernel) (by decide +kernel)
set_option maxRecDepth 20000 in
theorem gX0_back_X0_isBetweenLines : GoodIn wsX0_back (wsV RX0 54 RX0 yX0_isBetweenLines wsX0_isBetweenLines) := goodIn_app (goodIn_of _ (by decide +kernel)) ggX0_back_X0_isBetweenLines
set_option maxRecDepth 20000 in
theorem ggX0_back_X0_lineEndsFrom : GoodIn wsX0_back wsX0_lineEndsFrom := goodIn_r _ [18, 2, 10, 11, 12, 8, 13, 14, 19, 20, 21, 22, 23, 24] (by decide +kernel) (by decide +kernel)
set_option maxRecDepth 20000 in
theorem gX0_back_X0_lineEndsFrom : GoodIn wsX0_back (wsV RX0 57 RX0 yX0_lineEndsFrom wsX0_lineEndsFrom) := goodIn_app (goodIn_of _ (by decide +kernel)) ggX0_back_X0_lineEndsFrom
theorem dX0_back_0 : decode cX0_back 0 = .ok (.iload_n 1, 1) := by decide +kernel
theorem dX0_back_1 : decode cX0_back 1 = .ok (.aload_n 0, 1) := by decide +kernel
theorem dX0_back_2 : decode cX0_back 2 = .ok (.getfield 17, 3) := by decide +kernel
theorem dX0_back_5 : decode cX0_back 5 = .ok (.if_icmp .lt 19, 3) := by decide +kernel
theorem dX0_back_8 : decode cX0_back 8 = .ok (.iload_n 1, 1) := by decide +kernel
theorem dX0_back_9 : decode cX0_back 9 = .ok (.aload_n 0, 1) := by decide +kernel
theorem dX0_back_10 : decode cX0_back 10 = .ok (.getfield 13, 3) := by decide +kernel
theorem dX0_back_13 : decode cX0_back 13 = .ok (.if_icmp .gt 11, 3) := by decide +kernel
theorem dX0_back_16 : decode cX0_back 16 = .ok (.aload_n 0, 1) := by decide +kernel
theorem dX0_back_17 : decode cX0_back 17 = .ok (.iload_n 1, 1) := by decide +kernel
theorem dX0_back_18 : decode cX0_back 18 = .ok (.invokevirtual 54, 3) := by decide +kernel
theorem dX0_back_21 : decode cX0_back 21 = .ok (.ifCond .ne 5, 3) := by decide +kernel
theorem dX0_back_24 : decode cX0_back 24 = .ok (.iconst 0, 1) := by decide +kernel
theorem dX0_back_25 : decode cX0_back 25 = .ok (.ireturn, 1) := by decide +kernel
theorem dX0_back_26 : decode cX0_back 26 = .ok (.aload_n 0, 1) := by decide +kernel
theorem dX0_back_27 : decode cX0_back 27 = .ok (.dup, 1) := by decide +kernel
theorem dX0_back_28 : decode cX0_back 28 = .ok (.getfield 20, 3) := by decide +kernel
theorem dX0_back_31 : decode cX0_back 31 = .ok (.aload_n 0, 1) := by decide +kernel
theorem dX0_back_32 : decode cX0_back 32 = .ok (.iload_n 1, 1) := by decide +kernel
theorem dX0_back_33 : decode cX0_back 33 = .ok (.invokevirtual 57, 3) := by decide +kernel
theorem dX0_back_36 : decode cX0_back 36 = .ok (.isub, 1) := by decide +kernel
theorem dX0_back_37 : decode cX0_back 37 = .ok (.putfield 20, 3) := by decide +kernel
theorem dX0_back_40 : decode cX0_back 40 = .ok (.aload_n 0, 1) := by decide +kernel
theorem dX0_back_41 : decode cX0_back 41 = .ok (.iload_n 1, 1) := by decide +kernel
theorem dX0_back_42 : decode cX0_back 42 = .ok (.putfield 13, 3) := by decide +kernel
theorem dX0_back_45 : decode cX0_back 45 = .ok (.aload_n 0, 1) := by decide +kernel
theorem dX0_back_46 : decode cX0_back 46 = .ok (.iconst (-1), 1) := by decide +kernel
theorem dX0_back_47 : decode cX0_back 47 = .ok (.putfield 23, 3) := by decide +kernel
theorem dX0_back_50 : decode cX0_back 50 = .ok (.iconst 1, 1) := by decide +kernel
theorem dX0_back_51 : decode cX0_back 51 = .ok (.ireturn, 1) := by decide +kernel
theorem dX0_mark_0 : decode cX0_mark 0 = .ok (.aload_n 0, 1) := by decide +kernel
theorem dX0_mark_1 : decode cX0_mark 1 = .ok (.getfield 23, 3) := by decide +kernel
theorem dX0_mark_4 : decode cX0_mark 4 = .ok (.iconst (-1), 1) := by decide +kernel
theorem dX0_mark_5 : decode cX0_mark 5 = .ok (.if_icmp .ne 10, 3) := by decide +kernel
theorem dX0_mark_8 : decode cX0_mark 8 = .ok (.aload_n 0, 1) := by decide +kernel
theorem dX0_mark_9 : decode cX0_mark 9 = .ok (.getfield 13, 3) := by decide +kernel
theorem dX0_mark_12 : decode cX0_mark 12 = .ok (.goto 4, 3) := by decide +kernel
theorem dX0_mark_15 : decode cX0_mark 15 = .ok (.iconst (-1), 1) := by decide +kernel
theorem dX0_mark_16 : decode cX0_mark 16 = .ok (.ireturn, 1) := by decide +kernel
set_option maxRecDepth 20000 in
theorem ggX0_take_X0_endOfEndedLines : GoodIn wsX0_take wsX0_endOfEndedLines := goodIn_r _ [10, 11, 12, 13, 19, 20, 21, 22, 23, 24] (by decide +kernel) (by decide +kernel)
set_option maxRecDepth 20000 in
theorem gX0_take_X0_endOfEndedLines : GoodIn wsX0_take (wsV RX0 60 RX0 yX0_endOfEndedLines wsX0_endOfEndedLines) := goodIn_app (goodIn_of _ (by decide +kernel)) ggX0_take_X0_endOfEndedLines
set_option maxRecDepth 20000 in
theorem ggX0_take_X0_byteAt : GoodIn wsX0_take wsX0_byteAt := goodIn_r _ [17, 18, 19, 20, 21, 22, 23, 24] (by decide +kernel) (by decide +kernel)
set_option maxRecDepth 20000 in
theorem gX0_take_X0_byteAt : GoodIn wsX0_take (wsV RX0 69 RX0 yX0_byteAt wsX0_byteAt) := goodIn_app (goodIn_of _ (by decide +kernel)) ggX0_take_X0_byteAt
theorem dX0_take_0 : decode cX0_take 0 = .ok (.aload_n 0, 1) := by decide +kernel
theorem dX0_take_1 : decode cX0_take 1 = .ok (.invokevirtual 60, 3) := by decide +kernel
theorem dX0_take_4 : decode cX0_take 4 = .ok (.aload_n 0, 1) := by decide +kernel
theorem dX0_take_5 : decode cX0_take 5 = .ok (.getfield 17, 3) := by decide +kernel
theorem dX0_take_8 : decode cX0_take 8 = .ok (.isub, 1) := by decide +kernel
theorem dX0_take_9 : decode cX0_take 9 = .ok (.bipush 7, 2) := by decide +kernel
theorem dX0_take_11 : decode cX0_take 11 = .ok (.invokestatic 63, 3) := by decide +kernel
theorem dX0_take_14 : decode cX0_take 14 = .ok (.istore_n 1, 1) := by decide +kernel
theorem dX0_take_15 : decode cX0_take 15 = .ok (.iload_n 1, 1) := by decide +kernel
theorem dX0_take_16 : decode cX0_take 16 = .ok (.ifCond .gt 5, 3) := by decide +kernel
theorem dX0_take_19 : decode cX0_take 19 = .ok (.lconst 0, 1) := by decide +kernel
theorem dX0_take_20 : decode cX0_take 20 = .ok (.lreturn, 1) := by decide +kernel
theorem dX0_take_21 : decode cX0_take 21 = .ok (.iload_n 1, 1) := by decide +kernel
theorem dX0_take_22 : decode cX0_take 22 = .ok (.i2l, 1) := by decide +kernel
theorem dX0_take_23 : decode cX0_take 23 = .ok (.lstore_n 2, 1) := by decide +kernel
theorem dX0_take_24 : decode cX0_take 24 = .ok (.iconst 0, 1) := by decide +kernel
theorem dX0_take_25 : decode cX0_take 25 = .ok (.istore 4, 2) := by decide +kernel
theorem dX0_take_27 : decode cX0_take 27 = .ok (.iload 4, 2) := by decide +kernel
theorem dX0_take_29 : decode cX0_take 29 = .ok (.bipush 7, 2) := by decide +kernel
theorem dX0_take_31 : decode cX0_take 31 = .ok (.if_icmp .ge 37, 3) := by decide +kernel
theorem dX0_take_34 : decode cX0_take 34 = .ok (.lload_n 2, 1) := by decide +kernel
theorem dX0_take_35 : decode cX0_take 35 = .ok (.bipush 8, 2) := by decide +kernel
theorem dX0_take_37 : decode cX0_take 37 = .ok (.lshl, 1) := by decide +kernel
theorem dX0_take_38 : decode cX0_take 38 = .ok (.iload 4, 2) := by decide +kernel
theorem dX0_take_40 : decode cX0_take 40 = .ok (.iload_n 1, 1) := by decide +kernel
theorem dX0_take_41 : decode cX0_take 41 = .ok (.if_icmp .ge 17, 3) := by decide +kernel
theorem dX0_take_44 : decode cX0_take 44 = .ok (.aload_n 0, 1) := by decide +kernel
theorem dX0_take_45 : decode cX0_take 45 = .ok (.aload_n 0, 1) := by decide +kernel
theorem dX0_take_46 : decode cX0_take 46 = .ok (.getfield 17, 3) := by decide +kernel
theorem dX0_take_49 : decode cX0_take 49 = .ok (.iload 4, 2) := by decide +kernel
theorem dX0_take_51 : decode cX0_take 51 = .ok (.iadd, 1) := by decide +kernel
theorem dX0_take_52 : decode cX0_take 52 = .ok (.invokevirtual 69, 3) := by decide +kernel
theorem dX0_take_55 : decode cX0_take 55 = .ok (.goto 4, 3) := by decide +kernel
theorem dX0_take_58 : decode cX0_take 58 = .ok (.iconst 0, 1) := by decide +kernel
theorem dX0_take_59 : decode cX0_take 59 = .ok (.i2l, 1) := by decide +kernel
theorem dX0_take_60 : decode cX0_take 60 = .ok (.lor, 1) := by decide +kernel
theorem dX0_take_61 : decode cX0_take 61 = .ok (.lstore_n 2, 1) := by decide +kernel
theorem dX0_take_62 : decode cX0_take 62 = .ok (.iinc 4 1, 3) := by decide +kernel
theorem dX0_take_65 : decode cX0_take 65 = .ok (.goto (-38), 3) := by decide +kernel
theorem dX0_take_68 : decode cX0_take 68 = .ok (.aload_n 0, 1) := by decide +kernel
theorem dX0_take_69 : decode cX0_take 69 = .ok (.dup, 1) := by decide +kernel
theorem dX0_take_70 : decode cX0_take 70 = .ok (.getfield 17, 3) := by decide +kernel
theorem dX0_take_73 : decode cX0_take 73 = .ok (.iload_n 1, 1) := by decide +kernel
theorem dX0_take_74 : decode cX0_take 74 = .ok (.iadd, 1) := by decide +kernel
theorem dX0_take_75 : decode cX0_take 75 = .ok (.putfield 17, 3) := by decide +kernel
theorem dX0_take_78 : decode cX0_take 78 = .ok (.lload_n 2, 1) := by decide +kernel
theorem dX0_take_79 : decode cX0_take 79 = .ok (.lreturn, 1) := by decide +kernel
set_option maxRecDepth 20000 in
theorem ggX0_count_X0_endOfEndedLines : GoodIn wsX0_count wsX0_endOfEndedLines := goodIn_r _ [9, 4, 1, 10, 11, 12, 13, 14, 15, 16] (by decide +kernel) (by decide +kernel)
set_option maxRecDepth 20000 in
theorem gX0_count_X0_endOfEndedLines : GoodIn wsX0_count (wsV RX0 60 RX0 yX0_endOfEndedLines wsX0_endOfEndedLines) := goodIn_app (goodIn_of _ (by decide +kernel)) ggX0_count_X0_endOfEndedLines
theorem dX0_count_0 : decode cX0_count 0 = .ok (.iload_n 1, 1) := by decide +kernel
theorem dX0_count_1 : decode cX0_count 1 = .ok (.tableswitch 61 0 3 #[31, 41, 46, 51], 31) := by decide +kernel
theorem dX0_count_32 : decode cX0_count 32 = .ok (.aload_n 0, 1) := by decide +kernel
theorem dX0_count_33 : decode cX0_count 33 = .ok (.getfield 13, 3) := by decide +kernel
theorem dX0_count_36 : decode cX0_count 36 = .ok (.aload_n 0, 1) := by decide +kernel
theorem dX0_count_37 : decode cX0_count 37 = .ok (.getfield 17, 3) := by decide +kernel
theorem dX0_count_40 : decode cX0_count 40 = .ok (.isub, 1) := by decide +kernel
theorem dX0_count_41 : decode cX0_count 41 = .ok (.ireturn, 1) := by decide +kernel
theorem dX0_count_42 : decode cX0_count 42 = .ok (.aload_n 0, 1) := by decide +kernel
theorem dX0_count_43 : decode cX0_count 43 = .ok (.getfield 20, 3) := by decide +kernel
theorem dX0_count_46 : decode cX0_count 46 = .ok (.ireturn, 1) := by decide +kernel
theorem dX0_count_47 : decode cX0_count 47 = .ok (.aload_n 0, 1) := by decide +kernel
theorem dX0_count_48 : decode cX0_count 48 = .ok (.getfield 23, 3) := by decide +kernel
theorem dX0_count_51 : decode cX0_count 51 = .ok (.ireturn, 1) := by decide +kernel
theorem dX0_count_52 : decode cX0_count 52 = .ok (.aload_n 0, 1) := by decide +kernel
theorem dX0_count_53 : decode cX0_count 53 = .ok (.getfield 13, 3) := by decide +kernel
theorem dX0_count_56 : decode cX0_count 56 = .ok (.aload_n 0, 1) := by decide +kernel
theorem dX0_count_57 : decode cX0_count 57 = .ok (.invokevirtual 60, 3) := by decide +kernel
theorem dX0_count_60 : decode cX0_count 60 = .ok (.isub, 1) := by decide +kernel
theorem dX0_count_61 : decode cX0_count 61 = .ok (.ireturn, 1) := by decide +kernel
theorem dX0_count_62 : decode cX0_count 62 = .ok (.iconst (-1), 1) := by decide +kernel
theorem dX0_count_63 : decode cX0_count 63 = .ok (.ireturn, 1) := by decide +kernel
theorem dX0_hasRoomFor_0 : decode cX0_hasRoomFor 0 = .ok (.aload_n 0, 1) := by decide +kernel
theorem dX0_hasRoomFor_1 : decode cX0_hasRoomFor 1 = .ok (.getfield 13, 3) := by decide +kernel
theorem dX0_hasRoomFor_4 : decode cX0_hasRoomFor 4 = .ok (.aload_n 0, 1) := by decide +kernel
theorem dX0_hasRoomFor_5 : decode cX0_hasRoomFor 5 = .ok (.getfield 17, 3) := by decide +kernel
theorem dX0_hasRoomFor_8 : decode cX0_hasRoomFor 8 = .ok (.isub, 1) := by decide +kernel
theorem dX0_hasRoomFor_9 : decode cX0_hasRoomFor 9 = .ok (.iload_n 1, 1) := by decide +kernel
theorem dX0_hasRoomFor_10 : decode cX0_hasRoomFor 10 = .ok (.iadd, 1) := by decide +kernel
theorem dX0_hasRoomFor_11 : decode cX0_hasRoomFor 11 = .ok (.iconst 1, 1) := by decide +kernel
theorem dX0_hasRoomFor_12 : decode cX0_hasRoomFor 12 = .ok (.iadd, 1) := by decide +kernel
theorem dX0_hasRoomFor_13 : decode cX0_hasRoomFor 13 = .ok (.sipush 3000, 3) := by decide +kernel
theorem dX0_hasRoomFor_16 : decode cX0_hasRoomFor 16 = .ok (.if_icmp .gt 7, 3) := by decide +kernel
theorem dX0_hasRoomFor_19 : decode cX0_hasRoomFor 19 = .ok (.iconst 1, 1) := by decide +kernel
theorem dX0_hasRoomFor_20 : decode cX0_hasRoomFor 20 = .ok (.goto 4, 3) := by decide +kernel
theorem dX0_hasRoomFor_23 : decode cX0_hasRoomFor 23 = .ok (.iconst 0, 1) := by decide +kernel
theorem dX0_hasRoomFor_24 : decode cX0_hasRoomFor 24 = .ok (.ireturn, 1) := by decide +kernel
theorem dX0_bytesToOpen_0 : decode cX0_bytesToOpen 0 = .ok (.aload_n 0, 1) := by decide +kernel
theorem dX0_bytesToOpen_1 : decode cX0_bytesToOpen 1 = .ok (.getfield 23, 3) := by decide +kernel
theorem dX0_bytesToOpen_4 : decode cX0_bytesToOpen 4 = .ok (.iconst (-1), 1) := by decide +kernel
theorem dX0_bytesToOpen_5 : decode cX0_bytesToOpen 5 = .ok (.if_icmp .ne 7, 3) := by decide +kernel
theorem dX0_bytesToOpen_8 : decode cX0_bytesToOpen 8 = .ok (.iconst 1, 1) := by decide +kernel
theorem dX0_bytesToOpen_9 : decode cX0_bytesToOpen 9 = .ok (.goto 4, 3) := by decide +kernel
theorem dX0_bytesToOpen_12 : decode cX0_bytesToOpen 12 = .ok (.iconst 2, 1) := by decide +kernel
theorem dX0_bytesToOpen_13 : decode cX0_bytesToOpen 13 = .ok (.ireturn, 1) := by decide +kernel
set_option maxRecDepth 20000 in
theorem ggX0_openLine_X0_endLine : GoodIn wsX0_openLine wsX0_endLine := goodIn_r _ [8, 9, 1, 10, 11, 12, 7, 13, 2, 14, 18, 19, 20, 21, 22, 23] (by decide +kernel) (by decide +kernel)
set_option maxRecDepth 20000 in
theorem gX0_openLine_X0_endLine : GoodIn wsX0_openLine (wsV RX0 51 RX0 yX0_endLine wsX0_endLine) := goodIn_app (goodIn_of _ (by decide +kernel)) ggX0_openLine_X0_endLine
set_option maxRecDepth 20000 in
theorem ggX0_openLine_X0_firstByteOf : GoodIn wsX0_openLine wsX0_firstByteOf := goodIn_r _ [17] (by decide +kernel) (by decide +kernel)
set_option maxRecDepth 20000 in
theorem gX0_openLine_X0_firstByteOf : GoodIn wsX0_openLine (va_wsS RX0 72 yX0_firstByteOf wsX0_firstByteOf) := goodIn_app (goodIn_of _ (by decide +kernel)) ggX0_openLine_X0_firstByteOf
set_option maxRecDepth 20000 in
theorem ggX0_openLine_X0_put : GoodIn wsX0_openLine wsX0_put := goodIn_r _ [13, 2, 14, 18, 19, 20, 21, 22, 23] (by decide +kernel) (by decide +kernel)
set_option maxRecDepth 20000 in
theorem gX0_openLine_X0_put : GoodIn wsX0_openLine (wsV RX0 75 RX0 yX0_put wsX0_put) := goodIn_app (goodIn_of _ (by decide +kernel)) ggX0_openLine_X0_put
theorem dX0_openLine_0 : decode cX0_openLine 0 = .ok (.aload_n 0, 1) := by decide +kernel
theorem dX0_openLine_1 : decode cX0_openLine 1 = .ok (.getfield 23, 3) := by decide +kernel
theorem dX0_openLine_4 : decode cX0_openLine 4 = .ok (.iconst (-1), 1) := by decide +kernel
theorem dX0_openLine_5 : decode cX0_openLine 5 = .ok (.if_icmp .eq 7, 3) := by decide +kernel
theorem dX0_openLine_8 : decode cX0_openLine 8 = .ok (.aload_n 0, 1) := by decide +kernel
theorem dX0_openLine_9 : decode cX0_openLine 9 = .ok (.invokevirtual 51, 3) := by decide +kernel
theorem dX0_openLine_12 : decode cX0_openLine 12 = .ok (.aload_n 0, 1) := by decide +kernel
theorem dX0_openLine_13 : decode cX0_openLine 13 = .ok (.iload_n 1, 1) := by decide +kernel
theorem dX0_openLine_14 : decode cX0_openLine 14 = .ok (.putfield 23, 3) := by decide +kernel
theorem dX0_openLine_17 : decode cX0_openLine 17 = .ok (.aload_n 0, 1) := by decide +kernel
theorem dX0_openLine_18 : decode cX0_openLine 18 = .ok (.aload_n 0, 1) := by decide +kernel
theorem dX0_openLine_19 : decode cX0_openLine 19 = .ok (.getfield 13, 3) := by decide +kernel
theorem dX0_openLine_22 : decode cX0_openLine 22 = .ok (.putfield 26, 3) := by decide +kernel
theorem dX0_openLine_25 : decode cX0_openLine 25 = .ok (.aload_n 0, 1) := by decide +kernel
theorem dX0_openLine_26 : decode cX0_openLine 26 = .ok (.iload_n 1, 1) := by decide +kernel
theorem dX0_openLine_27 : decode cX0_openLine 27 = .ok (.invokestatic 72, 3) := by decide +kernel
theorem dX0_openLine_30 : decode cX0_openLine 30 = .ok (.invokevirtual 75, 3) := by decide +kernel
theorem dX0_openLine_33 : decode cX0_openLine 33 = .ok (.return_, 1) := by decide +kernel
set_option maxRecDepth 20000 in
theorem ggX0_endLine_X0_put : GoodIn wsX0_endLine wsX0_put := goodIn_r _ [7, 8, 9, 10, 11, 12, 13, 14, 15] (by decide +kernel) (by decide +kernel)
set_option maxRecDepth 20000 in
theorem gX0_endLine_X0_put : GoodIn wsX0_endLine (wsV RX0 75 RX0 yX0_put wsX0_put) := goodIn_app (goodIn_of _ (by decide +kernel)) ggX0_endLine_X0_put
theorem dX0_endLine_0 : decode cX0_endLine 0 = .ok (.aload_n 0, 1) := by decide +kernel
theorem dX0_endLine_1 : decode cX0_endLine 1 = .ok (.bipush 10, 2) := by decide +kernel
theorem dX0_endLine_3 : decode cX0_endLine 3 = .ok (.invokevirtual 75, 3) := by decide +kernel
theorem dX0_endLine_6 : decode cX0_endLine 6 = .ok (.aload_n 0, 1) := by decide +kernel
theorem dX0_endLine_7 : decode cX0_endLine 7 = .ok (.dup, 1) := by decide +kernel
theorem dX0_endLine_8 : decode cX0_endLine 8 = .ok (.getfield 20, 3) := by decide +kernel
theorem dX0_endLine_11 : decode cX0_endLine 11 = .ok (.iconst 1, 1) := by decide +kernel
theorem dX0_endLine_12 : decode cX0_endLine 12 = .ok (.iadd, 1) := by decide +kernel
theorem dX0_endLine_13 : decode cX0_endLine 13 = .ok (.putfield 20, 3) := by decide +kernel
theorem dX0_endLine_16 : decode cX0_endLine 16 = .ok (.aload_n 0, 1) := by decide +kernel
theorem dX0_endLine_17 : decode cX0_endLine 17 = .ok (.iconst (-1), 1) := by decide +kernel
theorem dX0_endLine_18 : decode cX0_endLine 18 = .ok (.putfield 23, 3) := by decide +kernel
theorem dX0_endLine_21 : decode cX0_endLine 21 = .ok (.return_, 1) := by decide +kernel
theorem dX0_endOfEndedLines_0 : decode cX0_endOfEndedLines 0 = .ok (.aload_n 0, 1) := by decide +kernel
theorem dX0_endOfEndedLines_1 : decode cX0_endOfEndedLines 1 = .ok (.getfield 23, 3) := by decide +kernel
theorem dX0_endOfEndedLines_4 : decode cX0_endOfEndedLines 4 = .ok (.iconst (-1), 1) := by decide +kernel
theorem dX0_endOfEndedLines_5 : decode cX0_endOfEndedLines 5 = .ok (.if_icmp .ne 10, 3) := by decide +kernel
theorem dX0_endOfEndedLines_8 : decode cX0_endOfEndedLines 8 = .ok (.aload_n 0, 1) := by decide +kernel
theorem dX0_endOfEndedLines_9 : decode cX0_endOfEndedLines 9 = .ok (.getfield 13, 3) := by decide +kernel
theorem dX0_endOfEndedLines_12 : decode cX0_endOfEndedLines 12 = .ok (.goto 7, 3) := by decide +kernel
theorem dX0_endOfEndedLines_15 : decode cX0_endOfEndedLines 15 = .ok (.aload_n 0, 1) := by decide +kernel
theorem dX0_endOfEndedLines_16 : decode cX0_endOfEndedLines 16 = .ok (.getfield 26, 3) := by decide +kernel
theorem dX0_endOfEndedLines_19 : decode cX0_endOfEndedLines 19 = .ok (.ireturn, 1) := by decide +kernel
set_option maxRecDepth 20000 in
theorem ggX0_isBetweenLines_X0_byteAt : GoodIn wsX0_isBetweenLines wsX0_byteAt := goodIn_r _ [5, 6, 7, 8, 9, 10, 11, 12] (by decide +kernel) (by decide +kernel)
set_option maxRecDepth 20000 in
theorem gX0_isBetweenLines_X0_byteAt : GoodIn wsX0_isBetweenLines (wsV RX0 69 RX0 yX0_byteAt wsX0_byteAt) := goodIn_app (goodIn_of _ (by decide +kernel)) ggX0_isBetweenLines_X0_byteAt
theorem dX0_isBetweenLines_0 : decode cX0_isBetweenLines 0 = .ok (.iload_n 1, 1) := by decide +kernel
theorem dX0_isBetweenLines_1 : decode cX0_isBetweenLines 1 = .ok (.ifCond .eq 15, 3) := by decide +kernel
theorem dX0_isBetweenLines_4 : decode cX0_isBetweenLines 4 = .ok (.aload_n 0, 1) := by decide +kernel
theorem dX0_isBetweenLines_5 : decode cX0_isBetweenLines 5 = .ok (.iload_n 1, 1) := by decide +kernel
theorem dX0_isBetweenLines_6 : decode cX0_isBetweenLines 6 = .ok (.iconst 1, 1) := by decide +kernel
theorem dX0_isBetweenLines_7 : decode cX0_isBetweenLines 7 = .ok (.isub, 1) := by decide +kernel
theorem dX0_isBetweenLines_8 : decode cX0_isBetweenLines 8 = .ok (.invokevirtual 69, 3) := by decide +kernel
theorem dX0_isBetweenLines_11 : decode cX0_isBetweenLines 11 = .ok (.bipush 10, 2) := by decide +kernel
theorem dX0_isBetweenLines_13 : decode cX0_isBetweenLines 13 = .ok (.if_icmp .ne 7, 3) := by decide +kernel
theorem dX0_isBetweenLines_16 : decode cX0_isBetweenLines 16 = .ok (.iconst 1, 1) := by decide +kernel
theorem dX0_isBetweenLines_17 : decode cX0_isBetweenLines 17 = .ok (.goto 4, 3) := by decide +kernel
theorem dX0_isBetweenLines_20 : decode cX0_isBetweenLines 20 = .ok (.iconst 0, 1) := by decide +kernel
theorem dX0_isBetweenLines_21 : decode cX0_isBetweenLines 21 = .ok (.ireturn, 1) := by decide +kernel
set_option maxRecDepth 20000 in
theorem ggX0_lineEndsFrom_X0_byteAt : GoodIn wsX0_lineEndsFrom wsX0_byteAt := goodIn_r _ [6, 7, 8, 9, 10, 11, 12, 13] (by decide +kernel) (by decide +kernel)
set_option maxRecDepth 20000 in
theorem gX0_lineEndsFrom_X0_byteAt : GoodIn wsX0_lineEndsFrom (wsV RX0 69 RX0 yX0_byteAt wsX0_byteAt) := goodIn_app (goodIn_of _ (by decide +kernel)) ggX0_lineEndsFrom_X0_byteAt
theorem dX0_lineEndsFrom_0 : decode cX0_lineEndsFrom 0 = .ok (.iconst 0, 1) := by decide +kernel
theorem dX0_lineEndsFrom_1 : decode cX0_lineEndsFrom 1 = .ok (.istore_n 2, 1) := by decide +kernel
theorem dX0_lineEndsFrom_2 : decode cX0_lineEndsFrom 2 = .ok (.iload_n 1, 1) := by decide +kernel
theorem dX0_lineEndsFrom_3 : decode cX0_lineEndsFrom 3 = .ok (.istore_n 3, 1) := by decide +kernel
theorem dX0_lineEndsFrom_4 : decode cX0_lineEndsFrom 4 = .ok (.iload_n 3, 1) := by decide +kernel
theorem dX0_lineEndsFrom_5 : decode cX0_lineEndsFrom 5 = .ok (.aload_n 0, 1) := by decide +kernel
theorem dX0_lineEndsFrom_6 : decode cX0_lineEndsFrom 6 = .ok (.getfield 13, 3) := by decide +kernel
theorem dX0_lineEndsFrom_9 : decode cX0_lineEndsFrom 9 = .ok (.if_icmp .ge 22, 3) := by decide +kernel
theorem dX0_lineEndsFrom_12 : decode cX0_lineEndsFrom 12 = .ok (.aload_n 0, 1) := by decide +kernel
theorem dX0_lineEndsFrom_13 : decode cX0_lineEndsFrom 13 = .ok (.iload_n 3, 1) := by decide +kernel
theorem dX0_lineEndsFrom_14 : decode cX0_lineEndsFrom 14 = .ok (.invokevirtual 69, 3) := by decide +kernel
theorem dX0_lineEndsFrom_17 : decode cX0_lineEndsFrom 17 = .ok (.bipush 10, 2) := by decide +kernel
theorem dX0_lineEndsFrom_19 : decode cX0_lineEndsFrom 19 = .ok (.if_icmp .ne 6, 3) := by decide +kernel
theorem dX0_lineEndsFrom_22 : decode cX0_lineEndsFrom 22 = .ok (.iinc 2 1, 3) := by decide +kernel
theorem dX0_lineEndsFrom_25 : decode cX0_lineEndsFrom 25 = .ok (.iinc 3 1, 3) := by decide +kernel
theorem dX0_lineEndsFrom_28 : decode cX0_lineEndsFrom 28 = .ok (.goto (-24), 3) := by decide +kernel
theorem dX0_lineEndsFrom_31 : decode cX0_lineEndsFrom 31 = .ok (.iload_n 2, 1) := by decide +kernel
theorem dX0_lineEndsFrom_32 : decode cX0_lineEndsFrom 32 = .ok (.ireturn, 1) := by decide +kernel
theorem dX0_firstByteOf_0 : decode cX0_firstByteOf 0 = .ok (.iload_n 0, 1) := by decide +kernel
theorem dX0_firstByteOf_1 : decode cX0_firstByteOf 1 = .ok (.tableswitch 43 0 3 #[31, 34, 37, 40], 31) := by decide +kernel
theorem dX0_firstByteOf_32 : decode cX0_firstByteOf 32 = .ok (.bipush 40, 2) := by decide +kernel
theorem dX0_firstByteOf_34 : decode cX0_firstByteOf 34 = .ok (.ireturn, 1) := by decide +kernel
theorem dX0_firstByteOf_35 : decode cX0_firstByteOf 35 = .ok (.bipush 41, 2) := by decide +kernel
theorem dX0_firstByteOf_37 : decode cX0_firstByteOf 37 = .ok (.ireturn, 1) := by decide +kernel
theorem dX0_firstByteOf_38 : decode cX0_firstByteOf 38 = .ok (.bipush 65, 2) := by decide +kernel
theorem dX0_firstByteOf_40 : decode cX0_firstByteOf 40 = .ok (.ireturn, 1) := by decide +kernel
theorem dX0_firstByteOf_41 : decode cX0_firstByteOf 41 = .ok (.bipush 63, 2) := by decide +kernel
theorem dX0_firstByteOf_43 : decode cX0_firstByteOf 43 = .ok (.ireturn, 1) := by decide +kernel
theorem dX0_firstByteOf_44 : decode cX0_firstByteOf 44 = .ok (.bipush 45, 2) := by decide +kernel
theorem dX0_firstByteOf_46 : decode cX0_firstByteOf 46 = .ok (.ireturn, 1) := by decide +kernel
theorem dX0_isCharacter_0 : decode cX0_isCharacter 0 = .ok (.iload_n 0, 1) := by decide +kernel
theorem dX0_isCharacter_1 : decode cX0_isCharacter 1 = .ok (.ifCond .lt 9, 3) := by decide +kernel
theorem dX0_isCharacter_4 : decode cX0_isCharacter 4 = .ok (.iload_n 0, 1) := by decide +kernel
theorem dX0_isCharacter_5 : decode cX0_isCharacter 5 = .ok (.ldc 78, 2) := by decide +kernel
theorem dX0_isCharacter_7 : decode cX0_isCharacter 7 = .ok (.if_icmp .le 15, 3) := by decide +kernel
theorem dX0_isCharacter_10 : decode cX0_isCharacter 10 = .ok (.iload_n 0, 1) := by decide +kernel
theorem dX0_isCharacter_11 : decode cX0_isCharacter 11 = .ok (.ldc 79, 2) := by decide +kernel
theorem dX0_isCharacter_13 : decode cX0_isCharacter 13 = .ok (.if_icmp .lt 13, 3) := by decide +kernel
theorem dX0_isCharacter_16 : decode cX0_isCharacter 16 = .ok (.iload_n 0, 1) := by decide +kernel
theorem dX0_isCharacter_17 : decode cX0_isCharacter 17 = .ok (.ldc 80, 2) := by decide +kernel
theorem dX0_isCharacter_19 : decode cX0_isCharacter 19 = .ok (.if_icmp .gt 7, 3) := by decide +kernel
theorem dX0_isCharacter_22 : decode cX0_isCharacter 22 = .ok (.iconst 1, 1) := by decide +kernel
theorem dX0_isCharacter_23 : decode cX0_isCharacter 23 = .ok (.goto 4, 3) := by decide +kernel
theorem dX0_isCharacter_26 : decode cX0_isCharacter 26 = .ok (.iconst 0, 1) := by decide +kernel
theorem dX0_isCharacter_27 : decode cX0_isCharacter 27 = .ok (.ireturn, 1) := by decide +kernel
theorem dX0_escapedFormOf_0 : decode cX0_escapedFormOf 0 = .ok (.iload_n 0, 1) := by decide +kernel
theorem dX0_escapedFormOf_1 : decode cX0_escapedFormOf 1 = .ok (.lookupswitch 55 #[(9, 49), (10, 46), (13, 52), (92, 43)], 43) := by decide +kernel
theorem dX0_escapedFormOf_44 : decode cX0_escapedFormOf 44 = .ok (.bipush 92, 2) := by decide +kernel
theorem dX0_escapedFormOf_46 : decode cX0_escapedFormOf 46 = .ok (.ireturn, 1) := by decide +kernel
theorem dX0_escapedFormOf_47 : decode cX0_escapedFormOf 47 = .ok (.bipush 110, 2) := by decide +kernel
theorem dX0_escapedFormOf_49 : decode cX0_escapedFormOf 49 = .ok (.ireturn, 1) := by decide +kernel
theorem dX0_escapedFormOf_50 : decode cX0_escapedFormOf 50 = .ok (.bipush 116, 2) := by decide +kernel
theorem dX0_escapedFormOf_52 : decode cX0_escapedFormOf 52 = .ok (.ireturn, 1) := by decide +kernel
theorem dX0_escapedFormOf_53 : decode cX0_escapedFormOf 53 = .ok (.bipush 114, 2) := by decide +kernel
theorem dX0_escapedFormOf_55 : decode cX0_escapedFormOf 55 = .ok (.ireturn, 1) := by decide +kernel
theorem dX0_escapedFormOf_56 : decode cX0_escapedFormOf 56 = .ok (.iconst 0, 1) := by decide +kernel
theorem dX0_escapedFormOf_57 : decode cX0_escapedFormOf 57 = .ok (.ireturn, 1) := by decide +kernel
set_option maxRecDepth 20000 in
theorem ggX0_sizeOf_X0_escapedFormOf : GoodIn wsX0_sizeOf wsX0_escapedFormOf := goodIn_r _ [5] (by decide +kernel) (by decide +kernel)
set_option maxRecDepth 20000 in
theorem gX0_sizeOf_X0_escapedFormOf : GoodIn wsX0_sizeOf (va_wsS RX0 81 yX0_escapedFormOf wsX0_escapedFormOf) := goodIn_app (goodIn_of _ (by decide +kernel)) ggX0_sizeOf_X0_escapedFormOf
theorem dX0_sizeOf_0 : decode cX0_sizeOf 0 = .ok (.iload_n 0, 1) := by decide +kernel
theorem dX0_sizeOf_1 : decode cX0_sizeOf 1 = .ok (.invokestatic 81, 3) := by decide +kernel
theorem dX0_sizeOf_4 : decode cX0_sizeOf 4 = .ok (.ifCond .eq 5, 3) := by decide +kernel
theorem dX0_sizeOf_7 : decode cX0_sizeOf 7 = .ok (.iconst 2, 1) := by decide +kernel
theorem dX0_sizeOf_8 : decode cX0_sizeOf 8 = .ok (.ireturn, 1) := by decide +kernel
theorem dX0_sizeOf_9 : decode cX0_sizeOf 9 = .ok (.iload_n 0, 1) := by decide +kernel
theorem dX0_sizeOf_10 : decode cX0_sizeOf 10 = .ok (.sipush 128, 3) := by decide +kernel
theorem dX0_sizeOf_13 : decode cX0_sizeOf 13 = .ok (.if_icmp .ge 5, 3) := by decide +kernel
theorem dX0_sizeOf_16 : decode cX0_sizeOf 16 = .ok (.iconst 1, 1) := by decide +kernel
theorem dX0_sizeOf_17 : decode cX0_sizeOf 17 = .ok (.ireturn, 1) := by decide +kernel
theorem dX0_sizeOf_18 : decode cX0_sizeOf 18 = .ok (.iload_n 0, 1) := by decide +kernel
theorem dX0_sizeOf_19 : decode cX0_sizeOf 19 = .ok (.sipush 2048, 3) := by decide +kernel
theorem dX0_sizeOf_22 : decode cX0_sizeOf 22 = .ok (.if_icmp .ge 5, 3) := by decide +kernel
theorem dX0_sizeOf_25 : decode cX0_sizeOf 25 = .ok (.iconst 2, 1) := by decide +kernel
theorem dX0_sizeOf_26 : decode cX0_sizeOf 26 = .ok (.ireturn, 1) := by decide +kernel
theorem dX0_sizeOf_27 : decode cX0_sizeOf 27 = .ok (.iload_n 0, 1) := by decide +kernel
theorem dX0_sizeOf_28 : decode cX0_sizeOf 28 = .ok (.ldc 84, 2) := by decide +kernel
theorem dX0_sizeOf_30 : decode cX0_sizeOf 30 = .ok (.if_icmp .ge 7, 3) := by decide +kernel
theorem dX0_sizeOf_33 : decode cX0_sizeOf 33 = .ok (.iconst 3, 1) := by decide +kernel
theorem dX0_sizeOf_34 : decode cX0_sizeOf 34 = .ok (.goto 4, 3) := by decide +kernel
theorem dX0_sizeOf_37 : decode cX0_sizeOf 37 = .ok (.iconst 4, 1) := by decide +kernel
theorem dX0_sizeOf_38 : decode cX0_sizeOf 38 = .ok (.ireturn, 1) := by decide +kernel
set_option maxRecDepth 20000 in
theorem ggX0_putCharacter_X0_escapedFormOf : GoodIn wsX0_putCharacter wsX0_escapedFormOf := goodIn_r _ [4] (by decide +kernel) (by decide +kernel)
set_option maxRecDepth 20000 in
theorem gX0_putCharacter_X0_escapedFormOf : GoodIn wsX0_putCharacter (va_wsS RX0 81 yX0_escapedFormOf wsX0_escapedFormOf) := goodIn_app (goodIn_of _ (by decide +kernel)) ggX0_putCharacter_X0_escapedFormOf
set_option maxRecDepth 20000 in
theorem ggX0_putCharacter_X0_put : GoodIn wsX0_putCharacter wsX0_put := goodIn_r _ [8, 9, 10, 20, 21, 22, 23, 24, 25] (by decide +kernel) (by decide +kernel)
set_option maxRecDepth 20000 in
theorem gX0_putCharacter_X0_put : GoodIn wsX0_putCharacter (wsV RX0 75 RX0 yX0_put wsX0_put) := goodIn_app (goodIn_of _ (by decide +kernel)) ggX0_putCharacter_X0_put
set_option maxRecDepth 20000 in
theorem ggX0_putCharacter_X0_putUtf8 : GoodIn wsX0_putCharacter wsX0_putUtf8 := goodIn_r _ [14, 15, 5, 6, 7, 3, 8, 9, 10, 16, 17, 18, 19, 20, 21, 22, 23, 24, 25] (by decide +kernel) (by decide +kernel)
set_option maxRecDepth 20000 in
theorem gX0_putCharacter_X0_putUtf8 : GoodIn wsX0_putCharacter (wsV RX0 85 RX0 yX0_putUtf8 wsX0_putUtf8) := goodIn_app (goodIn_of _ (by decide +kernel)) ggX0_putCharacter_X0_putUtf8
theorem dX0_putCharacter_0 : decode cX0_putCharacter 0 = .ok (.iload_n 1, 1) := by decide +kernel
theorem dX0_putCharacter_1 : decode cX0_putCharacter 1 = .ok (.invokestatic 81, 3) := by decide +kernel
theorem dX0_putCharacter_4 : decode cX0_putCharacter 4 = .ok (.istore_n 2, 1) := by decide +kernel
theorem dX0_putCharacter_5 : decode cX0_putCharacter 5 = .ok (.iload_n 2, 1) := by decide +kernel
theorem dX0_putCharacter_6 : decode cX0_putCharacter 6 = .ok (.ifCond .eq 17, 3) := by decide +kernel
theorem dX0_putCharacter_9 : decode cX0_putCharacter 9 = .ok (.aload_n 0, 1) := by decide +kernel
theorem dX0_putCharacter_10 : decode cX0_putCharacter 10 = .ok (.bipush 92, 2) := by decide +kernel
theorem dX0_putCharacter_12 : decode cX0_putCharacter 12 = .ok (.invokevirtual 75, 3) := by decide +kernel
theorem dX0_putCharacter_15 : decode cX0_putCharacter 15 = .ok (.aload_n 0, 1) := by decide +kernel
theorem dX0_putCharacter_16 : decode cX0_putCharacter 16 = .ok (.iload_n 2, 1) := by decide +kernel
theorem dX0_putCharacter_17 : decode cX0_putCharacter 17 = .ok (.invokevirtual 75, 3) := by decide +kernel
theorem dX0_putCharacter_20 : decode cX0_putCharacter 20 = .ok (.goto 8, 3) := by decide +kernel
theorem dX0_putCharacter_23 : decode cX0_putCharacter 23 = .ok (.aload_n 0, 1) := by decide +kernel
theorem dX0_putCharacter_24 : decode cX0_putCharacter 24 = .ok (.iload_n 1, 1) := by decide +kernel
theorem dX0_putCharacter_25 : decode cX0_putCharacter 25 = .ok (.invokevirtual 85, 3) := by decide +kernel
theorem dX0_putCharacter_28 : decode cX0_putCharacter 28 = .ok (.return_, 1) := by decide +kernel
set_option maxRecDepth 20000 in
theorem ggX0_putUtf8_X0_put : GoodIn wsX0_putUtf8 wsX0_put := goodIn_r _ [6, 7, 8, 13, 14, 15, 16, 17, 18] (by decide +kernel) (by decide +kernel)
set_option maxRecDepth 20000 in
theorem gX0_putUtf8_X0_put : GoodIn wsX0_putUtf8 (wsV RX0 75 RX0 yX0_put wsX0_put) := goodIn_app (goodIn_of _ (by decide +kernel)) ggX0_putUtf8_X0_put
set_option maxRecDepth 20000 in
theorem ggX0_putUtf8_X0_putTail : GoodIn wsX0_putUtf8 wsX0_putTail := goodIn_r _ [12, 2, 3, 4, 5, 6, 7, 8, 13, 14, 15, 16, 17, 18] (by decide +kernel) (by decide +kernel)
set_option maxRecDepth 20000 in
theorem gX0_putUtf8_X0_putTail : GoodIn wsX0_putUtf8 (wsV RX0 88 RX0 yX0_putTail wsX0_putTail) := goodIn_app (goodIn_of _ (by decide +kernel)) ggX0_putUtf8_X0_putTail
theorem dX0_putUtf8_0 : decode cX0_putUtf8 0 = .ok (.iload_n 1, 1) := by decide +kernel
theorem dX0_putUtf8_1 : decode cX0_putUtf8 1 = .ok (.sipush 128, 3) := by decide +kernel
theorem dX0_putUtf8_4 : decode cX0_putUtf8 4 = .ok (.if_icmp .ge 11, 3) := by decide +kernel
theorem dX0_putUtf8_7 : decode cX0_putUtf8 7 = .ok (.aload_n 0, 1) := by decide +kernel
theorem dX0_putUtf8_8 : decode cX0_putUtf8 8 = .ok (.iload_n 1, 1) := by decide +kernel
theorem dX0_putUtf8_9 : decode cX0_putUtf8 9 = .ok (.invokevirtual 75, 3) := by decide +kernel
theorem dX0_putUtf8_12 : decode cX0_putUtf8 12 = .ok (.goto 97, 3) := by decide +kernel
theorem dX0_putUtf8_15 : decode cX0_putUtf8 15 = .ok (.iload_n 1, 1) := by decide +kernel
theorem dX0_putUtf8_16 : decode cX0_putUtf8 16 = .ok (.sipush 2048, 3) := by decide +kernel
theorem dX0_putUtf8_19 : decode cX0_putUtf8 19 = .ok (.if_icmp .ge 23, 3) := by decide +kernel
theorem dX0_putUtf8_22 : decode cX0_putUtf8 22 = .ok (.aload_n 0, 1) := by decide +kernel
theorem dX0_putUtf8_23 : decode cX0_putUtf8 23 = .ok (.sipush 192, 3) := by decide +kernel
theorem dX0_putUtf8_26 : decode cX0_putUtf8 26 = .ok (.iload_n 1, 1) := by decide +kernel
theorem dX0_putUtf8_27 : decode cX0_putUtf8 27 = .ok (.bipush 6, 2) := by decide +kernel
theorem dX0_putUtf8_29 : decode cX0_putUtf8 29 = .ok (.ishr, 1) := by decide +kernel
theorem dX0_putUtf8_30 : decode cX0_putUtf8 30 = .ok (.ior, 1) := by decide +kernel
theorem dX0_putUtf8_31 : decode cX0_putUtf8 31 = .ok (.invokevirtual 75, 3) := by decide +kernel
theorem dX0_putUtf8_34 : decode cX0_putUtf8 34 = .ok (.aload_n 0, 1) := by decide +kernel
theorem dX0_putUtf8_35 : decode cX0_putUtf8 35 = .ok (.iload_n 1, 1) := by decide +kernel
theorem dX0_putUtf8_36 : decode cX0_putUtf8 36 = .ok (.invokevirtual 88, 3) := by decide +kernel
theorem dX0_putUtf8_39 : decode cX0_putUtf8 39 = .ok (.goto 70, 3) := by decide +kernel
theorem dX0_putUtf8_42 : decode cX0_putUtf8 42 = .ok (.iload_n 1, 1) := by decide +kernel
theorem dX0_putUtf8_43 : decode cX0_putUtf8 43 = .ok (.ldc 84, 2) := by decide +kernel
theorem dX0_putUtf8_45 : decode cX0_putUtf8 45 = .ok (.if_icmp .ge 31, 3) := by decide +kernel
theorem dX0_putUtf8_48 : decode cX0_putUtf8 48 = .ok (.aload_n 0, 1) := by decide +kernel
theorem dX0_putUtf8_49 : decode cX0_putUtf8 49 = .ok (.sipush 224, 3) := by decide +kernel
theorem dX0_putUtf8_52 : decode cX0_putUtf8 52 = .ok (.iload_n 1, 1) := by decide +kernel
theorem dX0_putUtf8_53 : decode cX0_putUtf8 53 = .ok (.bipush 12, 2) := by decide +kernel
theorem dX0_putUtf8_55 : decode cX0_putUtf8 55 = .ok (.ishr, 1) := by decide +kernel
theorem dX0_putUtf8_56 : decode cX0_putUtf8 56 = .ok (.ior, 1) := by decide +kernel
theorem dX0_putUtf8_57 : decode cX0_putUtf8 57 = .ok (.invokevirtual 75, 3) := by decide +kernel
theorem dX0_putUtf8_60 : decode cX0_putUtf8 60 = .ok (.aload_n 0, 1) := by decide +kernel
theorem dX0_putUtf8_61 : decode cX0_putUtf8 61 = .ok (.iload_n 1, 1) := by decide +kernel
theorem dX0_putUtf8_62 : decode cX0_putUtf8 62 = .ok (.bipush 6, 2) := by decide +kernel
theorem dX0_putUtf8_64 : decode cX0_putUtf8 64 = .ok (.ishr, 1) := by decide +kernel
theorem dX0_putUtf8_65 : decode cX0_putUtf8 65 = .ok (.invokevirtual 88, 3) := by decide +kernel
theorem dX0_putUtf8_68 : decode cX0_putUtf8 68 = .ok (.aload_n 0, 1) := by decide +kernel
theorem dX0_putUtf8_69 : decode cX0_putUtf8 69 = .ok (.iload_n 1, 1) := by decide +kernel
theorem dX0_putUtf8_70 : decode cX0_putUtf8 70 = .ok (.invokevirtual 88, 3) := by decide +kernel
theorem dX0_putUtf8_73 : decode cX0_putUtf8 73 = .ok (.goto 36, 3) := by decide +kernel
theorem dX0_putUtf8_76 : decode cX0_putUtf8 76 = .ok (.aload_n 0, 1) := by decide +kernel
theorem dX0_putUtf8_77 : decode cX0_putUtf8 77 = .ok (.sipush 240, 3) := by decide +kernel
theorem dX0_putUtf8_80 : decode cX0_putUtf8 80 = .ok (.iload_n 1, 1) := by decide +kernel
theorem dX0_putUtf8_81 : decode cX0_putUtf8 81 = .ok (.bipush 18, 2) := by decide +kernel
theorem dX0_putUtf8_83 : decode cX0_putUtf8 83 = .ok (.ishr, 1) := by decide +kernel
theorem dX0_putUtf8_84 : decode cX0_putUtf8 84 = .ok (.ior, 1) := by decide +kernel
theorem dX0_putUtf8_85 : decode cX0_putUtf8 85 = .ok (.invokevirtual 75, 3) := by decide +kernel
theorem dX0_putUtf8_88 : decode cX0_putUtf8 88 = .ok (.aload_n 0, 1) := by decide +kernel
theorem dX0_putUtf8_89 : decode cX0_putUtf8 89 = .ok (.iload_n 1, 1) := by decide +kernel
theorem dX0_putUtf8_90 : decode cX0_putUtf8 90 = .ok (.bipush 12, 2) := by decide +kernel
theorem dX0_putUtf8_92 : decode cX0_putUtf8 92 = .ok (.ishr, 1) := by decide +kernel
theorem dX0_putUtf8_93 : decode cX0_putUtf8 93 = .ok (.invokevirtual 88, 3) := by decide +kernel
theorem dX0_putUtf8_96 : decode cX0_putUtf8 96 = .ok (.aload_n 0, 1) := by decide +kernel
theorem dX0_putUtf8_97 : decode cX0_putUtf8 97 = .ok (.iload_n 1, 1) := by decide +kernel
theorem dX0_putUtf8_98 : decode cX0_putUtf8 98 = .ok (.bipush 6, 2) := by decide +kernel
theorem dX0_putUtf8_100 : decode cX0_putUtf8 100 = .ok (.ishr, 1) := by decide +kernel
theorem dX0_putUtf8_101 : decode cX0_putUtf8 101 = .ok (.invokevirtual 88, 3) := by decide +kernel
theorem dX0_putUtf8_104 : decode cX0_putUtf8 104 = .ok (.aload_n 0, 1) := by decide +kernel
theorem dX0_putUtf8_105 : decode cX0_putUtf8 105 = .ok (.iload_n 1, 1) := by decide +kernel
theorem dX0_putUtf8_106 : decode cX0_putUtf8 106 = .ok (.invokevirtual 88, 3) := by decide +kernel
theorem dX0_putUtf8_109 : decode cX0_putUtf8 109 = .ok (.return_, 1) := by decide +kernel
set_option maxRecDepth 20000 in
theorem ggX0_putTail_X0_put : GoodIn wsX0_putTail wsX0_put := goodIn_r _ [5, 6, 7, 8, 9, 10, 11, 12, 13] (by decide +kernel) (by decide +kernel)
set_option maxRecDepth 20000 in
theorem gX0_putTail_X0_put : GoodIn wsX0_putTail (wsV RX0 75 RX0 yX0_put wsX0_put) := goodIn_app (goodIn_of _ (by decide +kernel)) ggX0_putTail_X0_put
theorem dX0_putTail_0 : decode cX0_putTail 0 = .ok (.aload_n 0, 1) := by decide +kernel
theorem dX0_putTail_1 : decode cX0_putTail 1 = .ok (.sipush 128, 3) := by decide +kernel
theorem dX0_putTail_4 : decode cX0_putTail 4 = .ok (.iload_n 1, 1) := by decide +kernel
theorem dX0_putTail_5 : decode cX0_putTail 5 = .ok (.bipush 63, 2) := by decide +kernel
theorem dX0_putTail_7 : decode cX0_putTail 7 = .ok (.iand, 1) := by decide +kernel
theorem dX0_putTail_8 : decode cX0_putTail 8 = .ok (.ior, 1) := by decide +kernel
theorem dX0_putTail_9 : decode cX0_putTail 9 = .ok (.invokevirtual 75, 3) := by decide +kernel
theorem dX0_putTail_12 : decode cX0_putTail 12 = .ok (.return_, 1) := by decide +kernel
theorem dX0_put_0 : decode cX0_put 0 = .ok (.aload_n 0, 1) := by decide +kernel
theorem dX0_put_1 : decode cX0_put 1 = .ok (.getfield 13, 3) := by decide +kernel
theorem dX0_put_4 : decode cX0_put 4 = .ok (.sipush 4095, 3) := by decide +kernel
theorem dX0_put_7 : decode cX0_put 7 = .ok (.iand, 1) := by decide +kernel
theorem dX0_put_8 : decode cX0_put 8 = .ok (.istore_n 2, 1) := by decide +kernel
theorem dX0_put_9 : decode cX0_put 9 = .ok (.iload_n 2, 1) := by decide +kernel
theorem dX0_put_10 : decode cX0_put 10 = .ok (.aload_n 0, 1) := by decide +kernel
theorem dX0_put_11 : decode cX0_put 11 = .ok (.getfield 9, 3) := by decide +kernel
theorem dX0_put_14 : decode cX0_put 14 = .ok (.arraylength, 1) := by decide +kernel
theorem dX0_put_15 : decode cX0_put 15 = .ok (.if_icmp .ge 11, 3) := by decide +kernel
theorem dX0_put_18 : decode cX0_put 18 = .ok (.aload_n 0, 1) := by decide +kernel
theorem dX0_put_19 : decode cX0_put 19 = .ok (.getfield 9, 3) := by decide +kernel
theorem dX0_put_22 : decode cX0_put 22 = .ok (.iload_n 2, 1) := by decide +kernel
theorem dX0_put_23 : decode cX0_put 23 = .ok (.iload_n 1, 1) := by decide +kernel
theorem dX0_put_24 : decode cX0_put 24 = .ok (.i2b, 1) := by decide +kernel
theorem dX0_put_25 : decode cX0_put 25 = .ok (.bastore, 1) := by decide +kernel
theorem dX0_put_26 : decode cX0_put 26 = .ok (.aload_n 0, 1) := by decide +kernel
theorem dX0_put_27 : decode cX0_put 27 = .ok (.dup, 1) := by decide +kernel
theorem dX0_put_28 : decode cX0_put 28 = .ok (.getfield 13, 3) := by decide +kernel
theorem dX0_put_31 : decode cX0_put 31 = .ok (.iconst 1, 1) := by decide +kernel
theorem dX0_put_32 : decode cX0_put 32 = .ok (.iadd, 1) := by decide +kernel
theorem dX0_put_33 : decode cX0_put 33 = .ok (.putfield 13, 3) := by decide +kernel
theorem dX0_put_36 : decode cX0_put 36 = .ok (.return_, 1) := by decide +kernel
theorem dX0_byteAt_0 : decode cX0_byteAt 0 = .ok (.iload_n 1, 1) := by decide +kernel
theorem dX0_byteAt_1 : decode cX0_byteAt 1 = .ok (.sipush 4095, 3) := by decide +kernel
theorem dX0_byteAt_4 : decode cX0_byteAt 4 = .ok (.iand, 1) := by decide +kernel
theorem dX0_byteAt_5 : decode cX0_byteAt 5 = .ok (.istore_n 2, 1) := by decide +kernel
theorem dX0_byteAt_6 : decode cX0_byteAt 6 = .ok (.iload_n 2, 1) := by decide +kernel
theorem dX0_byteAt_7 : decode cX0_byteAt 7 = .ok (.aload_n 0, 1) := by decide +kernel
theorem dX0_byteAt_8 : decode cX0_byteAt 8 = .ok (.getfield 9, 3) := by decide +kernel
theorem dX0_byteAt_11 : decode cX0_byteAt 11 = .ok (.arraylength, 1) := by decide +kernel
theorem dX0_byteAt_12 : decode cX0_byteAt 12 = .ok (.if_icmp .ge 16, 3) := by decide +kernel
theorem dX0_byteAt_15 : decode cX0_byteAt 15 = .ok (.aload_n 0, 1) := by decide +kernel
theorem dX0_byteAt_16 : decode cX0_byteAt 16 = .ok (.getfield 9, 3) := by decide +kernel
theorem dX0_byteAt_19 : decode cX0_byteAt 19 = .ok (.iload_n 2, 1) := by decide +kernel
theorem dX0_byteAt_20 : decode cX0_byteAt 20 = .ok (.baload, 1) := by decide +kernel
theorem dX0_byteAt_21 : decode cX0_byteAt 21 = .ok (.sipush 255, 3) := by decide +kernel
theorem dX0_byteAt_24 : decode cX0_byteAt 24 = .ok (.iand, 1) := by decide +kernel
theorem dX0_byteAt_25 : decode cX0_byteAt 25 = .ok (.goto 4, 3) := by decide +kernel
theorem dX0_byteAt_28 : decode cX0_byteAt 28 = .ok (.iconst 0, 1) := by decide +kernel
theorem dX0_byteAt_29 : decode cX0_byteAt 29 = .ok (.ireturn, 1) := by decide +kernel
theorem dX1_init_0 : decode cX1_init 0 = .ok (.aload_n 0, 1) := by decide +kernel
theorem dX1_init_1 : decode cX1_init 1 = .ok (.invokespecial 1, 3) := by decide +kernel
theorem dX1_init_4 : decode cX1_init 4 = .ok (.aload_n 0, 1) := by decide +kernel
theorem dX1_init_5 : decode cX1_init 5 = .ok (.sipush 3000, 3) := by decide +kernel
theorem dX1_init_8 : decode cX1_init 8 = .ok (.newarray .int, 2) := by decide +kernel
theorem dX1_init_10 : decode cX1_init 10 = .ok (.putfield 7, 3) := by decide +kernel
theorem dX1_init_13 : decode cX1_init 13 = .ok (.aload_n 0, 1) := by decide +kernel
theorem dX1_init_14 : decode cX1_init 14 = .ok (.iconst (-1), 1) := by decide +kernel
theorem dX1_init_15 : decode cX1_init 15 = .ok (.putfield 13, 3) := by decide +kernel
theorem dX1_init_18 : decode cX1_init 18 = .ok (.aload_n 0, 1) := by decide +kernel
theorem dX1_init_19 : decode cX1_init 19 = .ok (.bipush 10, 2) := by decide +kernel
theorem dX1_init_21 : decode cX1_init 21 = .ok (.putfield 17, 3) := by decide +kernel
theorem dX1_init_24 : decode cX1_init 24 = .ok (.aload_n 0, 1) := by decide +kernel
theorem dX1_init_25 : decode cX1_init 25 = .ok (.iconst 4, 1) := by decide +kernel
theorem dX1_init_26 : decode cX1_init 26 = .ok (.newarray .int, 2) := by decide +kernel
theorem dX1_init_28 : decode cX1_init 28 = .ok (.putfield 20, 3) := by decide +kernel
theorem dX1_init_31 : decode cX1_init 31 = .ok (.return_, 1) := by decide +kernel
theorem dX1_put_0 : decode cX1_put 0 = .ok (.aload_n 0, 1) := by decide +kernel
theorem dX1_put_1 : decode cX1_put 1 = .ok (.getfield 7, 3) := by decide +kernel
theorem dX1_put_4 : decode cX1_put 4 = .ok (.aload_n 0, 1) := by decide +kernel
theorem dX1_put_5 : decode cX1_put 5 = .ok (.getfield 23, 3) := by decide +kernel
theorem dX1_put_8 : decode cX1_put 8 = .ok (.iload_n 1, 1) := by decide +kernel
theorem dX1_put_9 : decode cX1_put 9 = .ok (.iastore, 1) := by decide +kernel
theorem dX1_put_10 : decode cX1_put 10 = .ok (.aload_n 0, 1) := by decide +kernel
theorem dX1_put_11 : decode cX1_put 11 = .ok (.aload_n 0, 1) := by decide +kernel
theorem dX1_put_12 : decode cX1_put 12 = .ok (.getfield 23, 3) := by decide +kernel
theorem dX1_put_15 : decode cX1_put 15 = .ok (.iconst 1, 1) := by decide +kernel
theorem dX1_put_16 : decode cX1_put 16 = .ok (.iadd, 1) := by decide +kernel
theorem dX1_put_17 : decode cX1_put 17 = .ok (.putfield 23, 3) := by decide +kernel
theorem dX1_put_20 : decode cX1_put 20 = .ok (.aload_n 0, 1) := by decide +kernel
theorem dX1_put_21 : decode cX1_put 21 = .ok (.aload_n 0, 1) := by decide +kernel
theorem dX1_put_22 : decode cX1_put 22 = .ok (.getfield 26, 3) := by decide +kernel
theorem dX1_put_25 : decode cX1_put 25 = .ok (.iconst 1, 1) := by decide +kernel
theorem dX1_put_26 : decode cX1_put 26 = .ok (.iadd, 1) := by decide +kernel
theorem dX1_put_27 : decode cX1_put 27 = .ok (.putfield 26, 3) := by decide +kernel
theorem dX1_put_30 : decode cX1_put 30 = .ok (.return_, 1) := by decide +kernel
theorem dX1_code_0 : decode cX1_code 0 = .ok (.iload_n 1, 1) := by decide +kernel
theorem dX1_code_1 : decode cX1_code 1 = .ok (.ifCond .lt 21, 3) := by decide +kernel
theorem dX1_code_4 : decode cX1_code 4 = .ok (.iload_n 1, 1) := by decide +kernel
theorem dX1_code_5 : decode cX1_code 5 = .ok (.ldc 29, 2) := by decide +kernel
theorem dX1_code_7 : decode cX1_code 7 = .ok (.if_icmp .gt 15, 3) := by decide +kernel
theorem dX1_code_10 : decode cX1_code 10 = .ok (.iload_n 1, 1) := by decide +kernel
theorem dX1_code_11 : decode cX1_code 11 = .ok (.ldc 30, 2) := by decide +kernel
theorem dX1_code_13 : decode cX1_code 13 = .ok (.if_icmp .lt 11, 3) := by decide +kernel
theorem dX1_code_16 : decode cX1_code 16 = .ok (.iload_n 1, 1) := by decide +kernel
theorem dX1_code_17 : decode cX1_code 17 = .ok (.ldc 31, 2) := by decide +kernel
theorem dX1_code_19 : decode cX1_code 19 = .ok (.if_icmp .ge 5, 3) := by decide +kernel
theorem dX1_code_22 : decode cX1_code 22 = .ok (.iconst 0, 1) := by decide +kernel
theorem dX1_code_23 : decode cX1_code 23 = .ok (.ireturn, 1) := by decide +kernel
theorem dX1_code_24 : decode cX1_code 24 = .ok (.aload_n 0, 1) := by decide +kernel
theorem dX1_code_25 : decode cX1_code 25 = .ok (.iload_n 1, 1) := by decide +kernel
theorem dX1_code_26 : decode cX1_code 26 = .ok (.sipush 128, 3) := by decide +kernel
theorem dX1_code_29 : decode cX1_code 29 = .ok (.if_icmp .ge 7, 3) := by decide +kernel
theorem dX1_code_32 : decode cX1_code 32 = .ok (.iconst 1, 1) := by decide +kernel
theorem dX1_code_33 : decode cX1_code 33 = .ok (.goto 25, 3) := by decide +kernel
theorem dX1_code_36 : decode cX1_code 36 = .ok (.iload_n 1, 1) := by decide +kernel
theorem dX1_code_37 : decode cX1_code 37 = .ok (.sipush 2048, 3) := by decide +kernel
theorem dX1_code_40 : decode cX1_code 40 = .ok (.if_icmp .ge 7, 3) := by decide +kernel
theorem dX1_code_43 : decode cX1_code 43 = .ok (.iconst 2, 1) := by decide +kernel
theorem dX1_code_44 : decode cX1_code 44 = .ok (.goto 14, 3) := by decide +kernel
theorem dX1_code_47 : decode cX1_code 47 = .ok (.iload_n 1, 1) := by decide +kernel
theorem dX1_code_48 : decode cX1_code 48 = .ok (.ldc 32, 2) := by decide +kernel
theorem dX1_code_50 : decode cX1_code 50 = .ok (.if_icmp .ge 7, 3) := by decide +kernel
theorem dX1_code_53 : decode cX1_code 53 = .ok (.iconst 3, 1) := by decide +kernel
theorem dX1_code_54 : decode cX1_code 54 = .ok (.goto 4, 3) := by decide +kernel
theorem dX1_code_57 : decode cX1_code 57 = .ok (.iconst 4, 1) := by decide +kernel
theorem dX1_code_58 : decode cX1_code 58 = .ok (.putfield 33, 3) := by decide +kernel
theorem dX1_code_61 : decode cX1_code 61 = .ok (.iload_n 1, 1) := by decide +kernel
theorem dX1_code_62 : decode cX1_code 62 = .ok (.istore_n 2, 1) := by decide +kernel
theorem dX1_code_63 : decode cX1_code 63 = .ok (.aload_n 0, 1) := by decide +kernel
theorem dX1_code_64 : decode cX1_code 64 = .ok (.getfield 33, 3) := by decide +kernel
theorem dX1_code_67 : decode cX1_code 67 = .ok (.iconst 1, 1) := by decide +kernel
theorem dX1_code_68 : decode cX1_code 68 = .ok (.isub, 1) := by decide +kernel
theorem dX1_code_69 : decode cX1_code 69 = .ok (.istore_n 3, 1) := by decide +kernel
theorem dX1_code_70 : decode cX1_code 70 = .ok (.iload_n 3, 1) := by decide +kernel
theorem dX1_code_71 : decode cX1_code 71 = .ok (.ifCond .le 28, 3) := by decide +kernel
theorem dX1_code_74 : decode cX1_code 74 = .ok (.aload_n 0, 1) := by decide +kernel
theorem dX1_code_75 : decode cX1_code 75 = .ok (.getfield 20, 3) := by decide +kernel
theorem dX1_code_78 : decode cX1_code 78 = .ok (.iload_n 3, 1) := by decide +kernel
theorem dX1_code_79 : decode cX1_code 79 = .ok (.sipush 128, 3) := by decide +kernel
theorem dX1_code_82 : decode cX1_code 82 = .ok (.iload_n 2, 1) := by decide +kernel
theorem dX1_code_83 : decode cX1_code 83 = .ok (.bipush 64, 2) := by decide +kernel
theorem dX1_code_85 : decode cX1_code 85 = .ok (.irem, 1) := by decide +kernel
theorem dX1_code_86 : decode cX1_code 86 = .ok (.iadd, 1) := by decide +kernel
theorem dX1_code_87 : decode cX1_code 87 = .ok (.iastore, 1) := by decide +kernel
theorem dX1_code_88 : decode cX1_code 88 = .ok (.iload_n 2, 1) := by decide +kernel
theorem dX1_code_89 : decode cX1_code 89 = .ok (.bipush 64, 2) := by decide +kernel
theorem dX1_code_91 : decode cX1_code 91 = .ok (.idiv, 1) := by decide +kernel
theorem dX1_code_92 : decode cX1_code 92 = .ok (.istore_n 2, 1) := by decide +kernel
theorem dX1_code_93 : decode cX1_code 93 = .ok (.iinc 3 (-1), 3) := by decide +kernel
theorem dX1_code_96 : decode cX1_code 96 = .ok (.goto (-26), 3) := by decide +kernel
theorem dX1_code_99 : decode cX1_code 99 = .ok (.aload_n 0, 1) := by decide +kernel
theorem dX1_code_100 : decode cX1_code 100 = .ok (.getfield 20, 3) := by decide +kernel
theorem dX1_code_103 : decode cX1_code 103 = .ok (.iconst 0, 1) := by decide +kernel
theorem dX1_code_104 : decode cX1_code 104 = .ok (.aload_n 0, 1) := by decide +kernel
theorem dX1_code_105 : decode cX1_code 105 = .ok (.getfield 33, 3) := by decide +kernel
theorem dX1_code_108 : decode cX1_code 108 = .ok (.iconst 1, 1) := by decide +kernel
theorem dX1_code_109 : decode cX1_code 109 = .ok (.if_icmp .ne 7, 3) := by decide +kernel
theorem dX1_code_112 : decode cX1_code 112 = .ok (.iload_n 2, 1) := by decide +kernel
theorem dX1_code_113 : decode cX1_code 113 = .ok (.goto 40, 3) := by decide +kernel
theorem dX1_code_116 : decode cX1_code 116 = .ok (.aload_n 0, 1) := by decide +kernel
theorem dX1_code_117 : decode cX1_code 117 = .ok (.getfield 33, 3) := by decide +kernel
theorem dX1_code_120 : decode cX1_code 120 = .ok (.iconst 2, 1) := by decide +kernel
theorem dX1_code_121 : decode cX1_code 121 = .ok (.if_icmp .ne 11, 3) := by decide +kernel
theorem dX1_code_124 : decode cX1_code 124 = .ok (.sipush 192, 3) := by decide +kernel
theorem dX1_code_127 : decode cX1_code 127 = .ok (.iload_n 2, 1) := by decide +kernel
theorem dX1_code_128 : decode cX1_code 128 = .ok (.iadd, 1) := by decide +kernel
theorem dX1_code_129 : decode cX1_code 129 = .ok (.goto 24, 3) := by decide +kernel
theorem dX1_code_132 : decode cX1_code 132 = .ok (.aload_n 0, 1) := by decide +kernel
theorem dX1_code_133 : decode cX1_code 133 = .ok (.getfield 33, 3) := by decide +kernel
theorem dX1_code_136 : decode cX1_code 136 = .ok (.iconst 3, 1) := by decide +kernel
theorem dX1_code_137 : decode cX1_code 137 = .ok (.if_icmp .ne 11, 3) := by decide +kernel
theorem dX1_code_140 : decode cX1_code 140 = .ok (.sipush 224, 3) := by decide +kernel
theorem dX1_code_143 : decode cX1_code 143 = .ok (.iload_n 2, 1) := by decide +kernel
theorem dX1_code_144 : decode cX1_code 144 = .ok (.iadd, 1) := by decide +kernel
theorem dX1_code_145 : decode cX1_code 145 = .ok (.goto 8, 3) := by decide +kernel
theorem dX1_code_148 : decode cX1_code 148 = .ok (.sipush 240, 3) := by decide +kernel
theorem dX1_code_151 : decode cX1_code 151 = .ok (.iload_n 2, 1) := by decide +kernel
theorem dX1_code_152 : decode cX1_code 152 = .ok (.iadd, 1) := by decide +kernel
theorem dX1_code_153 : decode cX1_code 153 = .ok (.iastore, 1) := by decide +kernel
theorem dX1_code_154 : decode cX1_code 154 = .ok (.iload_n 1, 1) := by decide +kernel
theorem dX1_code_155 : decode cX1_code 155 = .ok (.bipush 92, 2) := by decide +kernel
theorem dX1_code_157 : decode cX1_code 157 = .ok (.if_icmp .ne 8, 3) := by decide +kernel
theorem dX1_code_160 : decode cX1_code 160 = .ok (.bipush 92, 2) := by decide +kernel
theorem dX1_code_162 : decode cX1_code 162 = .ok (.goto 37, 3) := by decide +kernel
theorem dX1_code_165 : decode cX1_code 165 = .ok (.iload_n 1, 1) := by decide +kernel
theorem dX1_code_166 : decode cX1_code 166 = .ok (.bipush 10, 2) := by decide +kernel
theorem dX1_code_168 : decode cX1_code 168 = .ok (.if_icmp .ne 8, 3) := by decide +kernel
theorem dX1_code_171 : decode cX1_code 171 = .ok (.bipush 110, 2) := by decide +kernel
theorem dX1_code_173 : decode cX1_code 173 = .ok (.goto 26, 3) := by decide +kernel
theorem dX1_code_176 : decode cX1_code 176 = .ok (.iload_n 1, 1) := by decide +kernel
theorem dX1_code_177 : decode cX1_code 177 = .ok (.bipush 9, 2) := by decide +kernel
theorem dX1_code_179 : decode cX1_code 179 = .ok (.if_icmp .ne 8, 3) := by decide +kernel
theorem dX1_code_182 : decode cX1_code 182 = .ok (.bipush 116, 2) := by decide +kernel
theorem dX1_code_184 : decode cX1_code 184 = .ok (.goto 15, 3) := by decide +kernel
theorem dX1_code_187 : decode cX1_code 187 = .ok (.iload_n 1, 1) := by decide +kernel
theorem dX1_code_188 : decode cX1_code 188 = .ok (.bipush 13, 2) := by decide +kernel
theorem dX1_code_190 : decode cX1_code 190 = .ok (.if_icmp .ne 8, 3) := by decide +kernel
theorem dX1_code_193 : decode cX1_code 193 = .ok (.bipush 114, 2) := by decide +kernel
theorem dX1_code_195 : decode cX1_code 195 = .ok (.goto 4, 3) := by decide +kernel
theorem dX1_code_198 : decode cX1_code 198 = .ok (.iconst 0, 1) := by decide +kernel
theorem dX1_code_199 : decode cX1_code 199 = .ok (.istore_n 3, 1) := by decide +kernel
theorem dX1_code_200 : decode cX1_code 200 = .ok (.iload_n 3, 1) := by decide +kernel
theorem dX1_code_201 : decode cX1_code 201 = .ok (.ifCond .le 23, 3) := by decide +kernel
theorem dX1_code_204 : decode cX1_code 204 = .ok (.aload_n 0, 1) := by decide +kernel
theorem dX1_code_205 : decode cX1_code 205 = .ok (.iconst 2, 1) := by decide +kernel
theorem dX1_code_206 : decode cX1_code 206 = .ok (.putfield 33, 3) := by decide +kernel
theorem dX1_code_209 : decode cX1_code 209 = .ok (.aload_n 0, 1) := by decide +kernel
theorem dX1_code_210 : decode cX1_code 210 = .ok (.getfield 20, 3) := by decide +kernel
theorem dX1_code_213 : decode cX1_code 213 = .ok (.iconst 0, 1) := by decide +kernel
theorem dX1_code_214 : decode cX1_code 214 = .ok (.bipush 92, 2) := by decide +kernel
theorem dX1_code_216 : decode cX1_code 216 = .ok (.iastore, 1) := by decide +kernel
theorem dX1_code_217 : decode cX1_code 217 = .ok (.aload_n 0, 1) := by decide +kernel
theorem dX1_code_218 : decode cX1_code 218 = .ok (.getfield 20, 3) := by decide +kernel
theorem dX1_code_221 : decode cX1_code 221 = .ok (.iconst 1, 1) := by decide +kernel
theorem dX1_code_222 : decode cX1_code 222 = .ok (.iload_n 3, 1) := by decide +kernel
theorem dX1_code_223 : decode cX1_code 223 = .ok (.iastore, 1) := by decide +kernel
theorem dX1_code_224 : decode cX1_code 224 = .ok (.iconst 1, 1) := by decide +kernel
theorem dX1_code_225 : decode cX1_code 225 = .ok (.ireturn, 1) := by decide +kernel
theorem dX1_close_0 : decode cX1_close 0 = .ok (.aload_n 0, 1) := by decide +kernel
theorem dX1_close_1 : decode cX1_close 1 = .ok (.getfield 7, 3) := by decide +kernel
theorem dX1_close_4 : decode cX1_close 4 = .ok (.aload_n 0, 1) := by decide +kernel
theorem dX1_close_5 : decode cX1_close 5 = .ok (.getfield 23, 3) := by decide +kernel
theorem dX1_close_8 : decode cX1_close 8 = .ok (.bipush 10, 2) := by decide +kernel
theorem dX1_close_10 : decode cX1_close 10 = .ok (.iastore, 1) := by decide +kernel
theorem dX1_close_11 : decode cX1_close 11 = .ok (.aload_n 0, 1) := by decide +kernel
theorem dX1_close_12 : decode cX1_close 12 = .ok (.aload_n 0, 1) := by decide +kernel
theorem dX1_close_13 : decode cX1_close 13 = .ok (.getfield 23, 3) := by decide +kernel
theorem dX1_close_16 : decode cX1_close 16 = .ok (.iconst 1, 1) := by decide +kernel
theorem dX1_close_17 : decode cX1_close 17 = .ok (.iadd, 1) := by decide +kernel
theorem dX1_close_18 : decode cX1_close 18 = .ok (.putfield 23, 3) := by decide +kernel
theorem dX1_close_21 : decode cX1_close 21 = .ok (.aload_n 0, 1) := by decide +kernel
theorem dX1_close_22 : decode cX1_close 22 = .ok (.iconst 0, 1) := by decide +kernel
theorem dX1_close_23 : decode cX1_close 23 = .ok (.putfield 26, 3) := by decide +kernel
theorem dX1_close_26 : decode cX1_close 26 = .ok (.aload_n 0, 1) := by decide +kernel
theorem dX1_close_27 : decode cX1_close 27 = .ok (.iconst (-1), 1) := by decide +kernel
theorem dX1_close_28 : decode cX1_close 28 = .ok (.putfield 13, 3) := by decide +kernel
theorem dX1_close_31 : decode cX1_close 31 = .ok (.return_, 1) := by decide +kernel
set_option maxRecDepth 20000 in
theorem ggX1_start_X1_close : GoodIn wsX1_start wsX1_close := goodIn_r _ [6, 7, 8, 9, 1, 14, 15, 16, 17, 18, 19, 20, 21, 22] (by decide +kernel) (by decide +kernel)
set_option maxRecDepth 20000 in
theorem gX1_start_X1_close : GoodIn wsX1_start (wsV RX1 36 RX1 yX1_close wsX1_close) := goodIn_app (goodIn_of _ (by decide +kernel)) ggX1_start_X1_close
set_option maxRecDepth 20000 in
theorem ggX1_start_X1_put : GoodIn wsX1_start wsX1_put := goodIn_r _ [13, 7, 8, 9, 14, 15, 16, 17, 18, 19, 20, 21, 22] (by decide +kernel) (by decide +kernel)
set_option maxRecDepth 20000 in
theorem gX1_start_X1_put : GoodIn wsX1_start (wsV RX1 39 RX1 yX1_put wsX1_put) := goodIn_app (goodIn_of _ (by decide +kernel)) ggX1_start_X1_put
theorem dX1_start_0 : decode cX1_start 0 = .ok (.aload_n 0, 1) := by decide +kernel
theorem dX1_start_1 : decode cX1_start 1 = .ok (.getfield 13, 3) := by decide +kernel
theorem dX1_start_4 : decode cX1_start 4 = .ok (.ifCond .lt 7, 3) := by decide +kernel
theorem dX1_start_7 : decode cX1_start 7 = .ok (.aload_n 0, 1) := by decide +kernel
theorem dX1_start_8 : decode cX1_start 8 = .ok (.invokevirtual 36, 3) := by decide +kernel
theorem dX1_start_11 : decode cX1_start 11 = .ok (.aload_n 0, 1) := by decide +kernel
theorem dX1_start_12 : decode cX1_start 12 = .ok (.iload_n 1, 1) := by decide +kernel
theorem dX1_start_13 : decode cX1_start 13 = .ok (.putfield 13, 3) := by decide +kernel
theorem dX1_start_16 : decode cX1_start 16 = .ok (.aload_n 0, 1) := by decide +kernel
theorem dX1_start_17 : decode cX1_start 17 = .ok (.iload_n 1, 1) := by decide +kernel
theorem dX1_start_18 : decode cX1_start 18 = .ok (.ifCond .ne 8, 3) := by decide +kernel
theorem dX1_start_21 : decode cX1_start 21 = .ok (.bipush 40, 2) := by decide +kernel
theorem dX1_start_23 : decode cX1_start 23 = .ok (.goto 35, 3) := by decide +kernel
theorem dX1_start_26 : decode cX1_start 26 = .ok (.iload_n 1, 1) := by decide +kernel
theorem dX1_start_27 : decode cX1_start 27 = .ok (.iconst 1, 1) := by decide +kernel
theorem dX1_start_28 : decode cX1_start 28 = .ok (.if_icmp .ne 8, 3) := by decide +kernel
theorem dX1_start_31 : decode cX1_start 31 = .ok (.bipush 41, 2) := by decide +kernel
theorem dX1_start_33 : decode cX1_start 33 = .ok (.goto 25, 3) := by decide +kernel
theorem dX1_start_36 : decode cX1_start 36 = .ok (.iload_n 1, 1) := by decide +kernel
theorem dX1_start_37 : decode cX1_start 37 = .ok (.iconst 2, 1) := by decide +kernel
theorem dX1_start_38 : decode cX1_start 38 = .ok (.if_icmp .ne 8, 3) := by decide +kernel
theorem dX1_start_41 : decode cX1_start 41 = .ok (.bipush 65, 2) := by decide +kernel
theorem dX1_start_43 : decode cX1_start 43 = .ok (.goto 15, 3) := by decide +kernel
theorem dX1_start_46 : decode cX1_start 46 = .ok (.iload_n 1, 1) := by decide +kernel
theorem dX1_start_47 : decode cX1_start 47 = .ok (.iconst 3, 1) := by decide +kernel
theorem dX1_start_48 : decode cX1_start 48 = .ok (.if_icmp .ne 8, 3) := by decide +kernel
theorem dX1_start_51 : decode cX1_start 51 = .ok (.bipush 63, 2) := by decide +kernel
theorem dX1_start_53 : decode cX1_start 53 = .ok (.goto 5, 3) := by decide +kernel
theorem dX1_start_56 : decode cX1_start 56 = .ok (.bipush 45, 2) := by decide +kernel
theorem dX1_start_58 : decode cX1_start 58 = .ok (.invokevirtual 39, 3) := by decide +kernel
theorem dX1_start_61 : decode cX1_start 61 = .ok (.return_, 1) := by decide +kernel
set_option maxRecDepth 20000 in
theorem ggX1_begin_X1_start : GoodIn wsX1_begin wsX1_start := goodIn_r _ [7, 2, 8, 9, 10, 6, 11, 12, 1, 13, 14, 15, 16, 17, 18, 19, 20, 21, 22, 23, 24, 25, 26] (by decide +kernel) (by decide +kernel)
set_option maxRecDepth 20000 in
theorem gX1_begin_X1_start : GoodIn wsX1_begin (wsV RX1 43 RX1 yX1_start wsX1_start) := goodIn_app (goodIn_of _ (by decide +kernel)) ggX1_begin_X1_start
theorem dX1_begin_0 : decode cX1_begin 0 = .ok (.iload_n 1, 1) := by decide +kernel
theorem dX1_begin_1 : decode cX1_begin 1 = .ok (.ifCond .lt 33, 3) := by decide +kernel
theorem dX1_begin_4 : decode cX1_begin 4 = .ok (.iload_n 1, 1) := by decide +kernel
theorem dX1_begin_5 : decode cX1_begin 5 = .ok (.iconst 3, 1) := by decide +kernel
theorem dX1_begin_6 : decode cX1_begin 6 = .ok (.if_icmp .gt 28, 3) := by decide +kernel
theorem dX1_begin_9 : decode cX1_begin 9 = .ok (.aload_n 0, 1) := by decide +kernel
theorem dX1_begin_10 : decode cX1_begin 10 = .ok (.getfield 23, 3) := by decide +kernel
theorem dX1_begin_13 : decode cX1_begin 13 = .ok (.aload_n 0, 1) := by decide +kernel
theorem dX1_begin_14 : decode cX1_begin 14 = .ok (.getfield 13, 3) := by decide +kernel
theorem dX1_begin_17 : decode cX1_begin 17 = .ok (.ifCond .lt 7, 3) := by decide +kernel
theorem dX1_begin_20 : decode cX1_begin 20 = .ok (.iconst 1, 1) := by decide +kernel
theorem dX1_begin_21 : decode cX1_begin 21 = .ok (.goto 4, 3) := by decide +kernel
theorem dX1_begin_24 : decode cX1_begin 24 = .ok (.iconst 0, 1) := by decide +kernel
theorem dX1_begin_25 : decode cX1_begin 25 = .ok (.iadd, 1) := by decide +kernel
theorem dX1_begin_26 : decode cX1_begin 26 = .ok (.iconst 2, 1) := by decide +kernel
theorem dX1_begin_27 : decode cX1_begin 27 = .ok (.iadd, 1) := by decide +kernel
theorem dX1_begin_28 : decode cX1_begin 28 = .ok (.sipush 3000, 3) := by decide +kernel
theorem dX1_begin_31 : decode cX1_begin 31 = .ok (.if_icmp .le 5, 3) := by decide +kernel
theorem dX1_begin_34 : decode cX1_begin 34 = .ok (.iconst 0, 1) := by decide +kernel
theorem dX1_begin_35 : decode cX1_begin 35 = .ok (.ireturn, 1) := by decide +kernel
theorem dX1_begin_36 : decode cX1_begin 36 = .ok (.aload_n 0, 1) := by decide +kernel
theorem dX1_begin_37 : decode cX1_begin 37 = .ok (.iload_n 1, 1) := by decide +kernel
theorem dX1_begin_38 : decode cX1_begin 38 = .ok (.invokevirtual 43, 3) := by decide +kernel
theorem dX1_begin_41 : decode cX1_begin 41 = .ok (.iconst 1, 1) := by decide +kernel
theorem dX1_begin_42 : decode cX1_begin 42 = .ok (.ireturn, 1) := by decide +kernel
set_option maxRecDepth 20000 in
theorem ggX1_add_X1_code : GoodIn wsX1_add wsX1_code := goodIn_r _ [9, 10, 11, 12, 13, 3, 4, 20, 21, 22, 23, 24, 25, 26, 27, 28] (by decide +kernel) (by decide +kernel)
set_option maxRecDepth 20000 in
theorem gX1_add_X1_code : GoodIn wsX1_add (wsV RX1 46 RX1 yX1_code wsX1_code) := goodIn_app (goodIn_of _ (by decide +kernel)) ggX1_add_X1_code
set_option maxRecDepth 20000 in
theorem ggX1_add_X1_put : GoodIn wsX1_add wsX1_put := goodIn_r _ [17, 18, 2, 19, 20, 21, 22, 23, 24, 25, 26, 27, 28] (by decide +kernel) (by decide +kernel)
set_option maxRecDepth 20000 in
theorem gX1_add_X1_put : GoodIn wsX1_add (wsV RX1 39 RX1 yX1_put wsX1_put) := goodIn_app (goodIn_of _ (by decide +kernel)) ggX1_add_X1_put
theorem dX1_add_0 : decode cX1_add 0 = .ok (.aload_n 0, 1) := by decide +kernel
theorem dX1_add_1 : decode cX1_add 1 = .ok (.getfield 13, 3) := by decide +kernel
theorem dX1_add_4 : decode cX1_add 4 = .ok (.ifCond .lt 36, 3) := by decide +kernel
theorem dX1_add_7 : decode cX1_add 7 = .ok (.aload_n 0, 1) := by decide +kernel
theorem dX1_add_8 : decode cX1_add 8 = .ok (.getfield 13, 3) := by decide +kernel
theorem dX1_add_11 : decode cX1_add 11 = .ok (.iconst 4, 1) := by decide +kernel
theorem dX1_add_12 : decode cX1_add 12 = .ok (.if_icmp .eq 28, 3) := by decide +kernel
theorem dX1_add_15 : decode cX1_add 15 = .ok (.aload_n 0, 1) := by decide +kernel
theorem dX1_add_16 : decode cX1_add 16 = .ok (.iload_n 1, 1) := by decide +kernel
theorem dX1_add_17 : decode cX1_add 17 = .ok (.invokevirtual 46, 3) := by decide +kernel
theorem dX1_add_20 : decode cX1_add 20 = .ok (.ifCond .eq 20, 3) := by decide +kernel
theorem dX1_add_23 : decode cX1_add 23 = .ok (.aload_n 0, 1) := by decide +kernel
theorem dX1_add_24 : decode cX1_add 24 = .ok (.getfield 23, 3) := by decide +kernel
theorem dX1_add_27 : decode cX1_add 27 = .ok (.aload_n 0, 1) := by decide +kernel
theorem dX1_add_28 : decode cX1_add 28 = .ok (.getfield 33, 3) := by decide +kernel
theorem dX1_add_31 : decode cX1_add 31 = .ok (.iadd, 1) := by decide +kernel
theorem dX1_add_32 : decode cX1_add 32 = .ok (.iconst 1, 1) := by decide +kernel
theorem dX1_add_33 : decode cX1_add 33 = .ok (.iadd, 1) := by decide +kernel
theorem dX1_add_34 : decode cX1_add 34 = .ok (.sipush 3000, 3) := by decide +kernel
theorem dX1_add_37 : decode cX1_add 37 = .ok (.if_icmp .le 5, 3) := by decide +kernel
theorem dX1_add_40 : decode cX1_add 40 = .ok (.iconst 0, 1) := by decide +kernel
theorem dX1_add_41 : decode cX1_add 41 = .ok (.ireturn, 1) := by decide +kernel
theorem dX1_add_42 : decode cX1_add 42 = .ok (.iconst 0, 1) := by decide +kernel
theorem dX1_add_43 : decode cX1_add 43 = .ok (.istore_n 2, 1) := by decide +kernel
theorem dX1_add_44 : decode cX1_add 44 = .ok (.iload_n 2, 1) := by decide +kernel
theorem dX1_add_45 : decode cX1_add 45 = .ok (.aload_n 0, 1) := by decide +kernel
theorem dX1_add_46 : decode cX1_add 46 = .ok (.getfield 33, 3) := by decide +kernel
theorem dX1_add_49 : decode cX1_add 49 = .ok (.if_icmp .ge 19, 3) := by decide +kernel
theorem dX1_add_52 : decode cX1_add 52 = .ok (.aload_n 0, 1) := by decide +kernel
theorem dX1_add_53 : decode cX1_add 53 = .ok (.aload_n 0, 1) := by decide +kernel
theorem dX1_add_54 : decode cX1_add 54 = .ok (.getfield 20, 3) := by decide +kernel
theorem dX1_add_57 : decode cX1_add 57 = .ok (.iload_n 2, 1) := by decide +kernel
theorem dX1_add_58 : decode cX1_add 58 = .ok (.iaload, 1) := by decide +kernel
theorem dX1_add_59 : decode cX1_add 59 = .ok (.invokevirtual 39, 3) := by decide +kernel
theorem dX1_add_62 : decode cX1_add 62 = .ok (.iinc 2 1, 3) := by decide +kernel
theorem dX1_add_65 : decode cX1_add 65 = .ok (.goto (-21), 3) := by decide +kernel
theorem dX1_add_68 : decode cX1_add 68 = .ok (.iconst 1, 1) := by decide +kernel
theorem dX1_add_69 : decode cX1_add 69 = .ok (.ireturn, 1) := by decide +kernel
set_option maxRecDepth 20000 in
theorem ggX1_text_X1_code : GoodIn wsX1_text wsX1_code := goodIn_r _ [9, 10, 11, 12, 13, 3, 4, 28, 29, 30, 31, 32, 33, 34, 35, 36] (by decide +kernel) (by decide +kernel)
set_option maxRecDepth 20000 in
theorem gX1_text_X1_code : GoodIn wsX1_text (wsV RX1 46 RX1 yX1_code wsX1_code) := goodIn_app (goodIn_of _ (by decide +kernel)) ggX1_text_X1_code
set_option maxRecDepth 20000 in
theorem ggX1_text_X1_start : GoodIn wsX1_text wsX1_start := goodIn_r _ [17, 1, 18, 19, 20, 8, 21, 22, 2, 23, 24, 25, 26, 27, 28, 29, 30, 31, 32, 33, 34, 35, 36] (by decide +kernel) (by decide +kernel)
set_option maxRecDepth 20000 in
theorem gX1_text_X1_start : GoodIn wsX1_text (wsV RX1 43 RX1 yX1_start wsX1_start) := goodIn_app (goodIn_of _ (by decide +kernel)) ggX1_text_X1_start
set_option maxRecDepth 20000 in
theorem ggX1_text_X1_put : GoodIn wsX1_text wsX1_put := goodIn_r _ [27, 22, 2, 23, 28, 29, 30, 31, 32, 33, 34, 35, 36] (by decide +kernel) (by decide +kernel)
set_option maxRecDepth 20000 in
theorem gX1_text_X1_put : GoodIn wsX1_text (wsV RX1 39 RX1 yX1_put wsX1_put) := goodIn_app (goodIn_of _ (by decide +kernel)) ggX1_text_X1_put
theorem dX1_text_0 : decode cX1_text 0 = .ok (.aload_n 0, 1) := by decide +kernel
theorem dX1_text_1 : decode cX1_text 1 = .ok (.iload_n 1, 1) := by decide +kernel
theorem dX1_text_2 : decode cX1_text 2 = .ok (.invokevirtual 46, 3) := by decide +kernel
theorem dX1_text_5 : decode cX1_text 5 = .ok (.ifCond .ne 5, 3) := by decide +kernel
theorem dX1_text_8 : decode cX1_text 8 = .ok (.iconst 0, 1) := by decide +kernel
theorem dX1_text_9 : decode cX1_text 9 = .ok (.ireturn, 1) := by decide +kernel
theorem dX1_text_10 : decode cX1_text 10 = .ok (.aload_n 0, 1) := by decide +kernel
theorem dX1_text_11 : decode cX1_text 11 = .ok (.getfield 13, 3) := by decide +kernel
theorem dX1_text_14 : decode cX1_text 14 = .ok (.iconst 4, 1) := by decide +kernel
theorem dX1_text_15 : decode cX1_text 15 = .ok (.if_icmp .ne 7, 3) := by decide +kernel
theorem dX1_text_18 : decode cX1_text 18 = .ok (.iconst 0, 1) := by decide +kernel
theorem dX1_text_19 : decode cX1_text 19 = .ok (.goto 15, 3) := by decide +kernel
theorem dX1_text_22 : decode cX1_text 22 = .ok (.aload_n 0, 1) := by decide +kernel
theorem dX1_text_23 : decode cX1_text 23 = .ok (.getfield 13, 3) := by decide +kernel
theorem dX1_text_26 : decode cX1_text 26 = .ok (.ifCond .lt 7, 3) := by decide +kernel
theorem dX1_text_29 : decode cX1_text 29 = .ok (.iconst 2, 1) := by decide +kernel
theorem dX1_text_30 : decode cX1_text 30 = .ok (.goto 4, 3) := by decide +kernel
theorem dX1_text_33 : decode cX1_text 33 = .ok (.iconst 1, 1) := by decide +kernel
theorem dX1_text_34 : decode cX1_text 34 = .ok (.istore_n 2, 1) := by decide +kernel
theorem dX1_text_35 : decode cX1_text 35 = .ok (.aload_n 0, 1) := by decide +kernel
theorem dX1_text_36 : decode cX1_text 36 = .ok (.getfield 23, 3) := by decide +kernel
theorem dX1_text_39 : decode cX1_text 39 = .ok (.iload_n 2, 1) := by decide +kernel
theorem dX1_text_40 : decode cX1_text 40 = .ok (.iadd, 1) := by decide +kernel
theorem dX1_text_41 : decode cX1_text 41 = .ok (.aload_n 0, 1) := by decide +kernel
theorem dX1_text_42 : decode cX1_text 42 = .ok (.getfield 33, 3) := by decide +kernel
theorem dX1_text_45 : decode cX1_text 45 = .ok (.iadd, 1) := by decide +kernel
theorem dX1_text_46 : decode cX1_text 46 = .ok (.iconst 1, 1) := by decide +kernel
theorem dX1_text_47 : decode cX1_text 47 = .ok (.iadd, 1) := by decide +kernel
theorem dX1_text_48 : decode cX1_text 48 = .ok (.sipush 3000, 3) := by decide +kernel
theorem dX1_text_51 : decode cX1_text 51 = .ok (.if_icmp .le 5, 3) := by decide +kernel
theorem dX1_text_54 : decode cX1_text 54 = .ok (.iconst 0, 1) := by decide +kernel
theorem dX1_text_55 : decode cX1_text 55 = .ok (.ireturn, 1) := by decide +kernel
theorem dX1_text_56 : decode cX1_text 56 = .ok (.aload_n 0, 1) := by decide +kernel
theorem dX1_text_57 : decode cX1_text 57 = .ok (.getfield 13, 3) := by decide +kernel
theorem dX1_text_60 : decode cX1_text 60 = .ok (.iconst 4, 1) := by decide +kernel
theorem dX1_text_61 : decode cX1_text 61 = .ok (.if_icmp .eq 8, 3) := by decide +kernel
theorem dX1_text_64 : decode cX1_text 64 = .ok (.aload_n 0, 1) := by decide +kernel
theorem dX1_text_65 : decode cX1_text 65 = .ok (.iconst 4, 1) := by decide +kernel
theorem dX1_text_66 : decode cX1_text 66 = .ok (.invokevirtual 43, 3) := by decide +kernel
theorem dX1_text_69 : decode cX1_text 69 = .ok (.iconst 0, 1) := by decide +kernel
theorem dX1_text_70 : decode cX1_text 70 = .ok (.istore_n 3, 1) := by decide +kernel
theorem dX1_text_71 : decode cX1_text 71 = .ok (.iload_n 3, 1) := by decide +kernel
theorem dX1_text_72 : decode cX1_text 72 = .ok (.aload_n 0, 1) := by decide +kernel
theorem dX1_text_73 : decode cX1_text 73 = .ok (.getfield 33, 3) := by decide +kernel
theorem dX1_text_76 : decode cX1_text 76 = .ok (.if_icmp .ge 19, 3) := by decide +kernel
theorem dX1_text_79 : decode cX1_text 79 = .ok (.aload_n 0, 1) := by decide +kernel
theorem dX1_text_80 : decode cX1_text 80 = .ok (.aload_n 0, 1) := by decide +kernel
theorem dX1_text_81 : decode cX1_text 81 = .ok (.getfield 20, 3) := by decide +kernel
theorem dX1_text_84 : decode cX1_text 84 = .ok (.iload_n 3, 1) := by decide +kernel
theorem dX1_text_85 : decode cX1_text 85 = .ok (.iaload, 1) := by decide +kernel
theorem dX1_text_86 : decode cX1_text 86 = .ok (.invokevirtual 39, 3) := by decide +kernel
theorem dX1_text_89 : decode cX1_text 89 = .ok (.iinc 3 1, 3) := by decide +kernel
theorem dX1_text_92 : decode cX1_text 92 = .ok (.goto (-21), 3) := by decide +kernel
theorem dX1_text_95 : decode cX1_text 95 = .ok (.iconst 1, 1) := by decide +kernel
theorem dX1_text_96 : decode cX1_text 96 = .ok (.ireturn, 1) := by decide +kernel
set_option maxRecDepth 20000 in
theorem ggX1_end_X1_close : GoodIn wsX1_end wsX1_close := goodIn_r _ [6, 7, 8, 9, 1, 10, 11, 12, 13, 14, 15, 16, 17, 18] (by decide +kernel) (by decide +kernel)
set_option maxRecDepth 20000 in
theorem gX1_end_X1_close : GoodIn wsX1_end (wsV RX1 36 RX1 yX1_close wsX1_close) := goodIn_app (goodIn_of _ (by decide +kernel)) ggX1_end_X1_close
theorem dX1_end_0 : decode cX1_end 0 = .ok (.aload_n 0, 1) := by decide +kernel
theorem dX1_end_1 : decode cX1_end 1 = .ok (.getfield 13, 3) := by decide +kernel
theorem dX1_end_4 : decode cX1_end 4 = .ok (.istore_n 1, 1) := by decide +kernel
theorem dX1_end_5 : decode cX1_end 5 = .ok (.aload_n 0, 1) := by decide +kernel
theorem dX1_end_6 : decode cX1_end 6 = .ok (.getfield 13, 3) := by decide +kernel
theorem dX1_end_9 : decode cX1_end 9 = .ok (.ifCond .lt 7, 3) := by decide +kernel
theorem dX1_end_12 : decode cX1_end 12 = .ok (.aload_n 0, 1) := by decide +kernel
theorem dX1_end_13 : decode cX1_end 13 = .ok (.invokevirtual 36, 3) := by decide +kernel
theorem dX1_end_16 : decode cX1_end 16 = .ok (.iload_n 1, 1) := by decide +kernel
theorem dX1_end_17 : decode cX1_end 17 = .ok (.ireturn, 1) := by decide +kernel
theorem dX1_back_0 : decode cX1_back 0 = .ok (.iload_n 1, 1) := by decide +kernel
theorem dX1_back_1 : decode cX1_back 1 = .ok (.aload_n 0, 1) := by decide +kernel
theorem dX1_back_2 : decode cX1_back 2 = .ok (.getfield 50, 3) := by decide +kernel
theorem dX1_back_5 : decode cX1_back 5 = .ok (.isub, 1) := by decide +kernel
theorem dX1_back_6 : decode cX1_back 6 = .ok (.istore_n 2, 1) := by decide +kernel
theorem dX1_back_7 : decode cX1_back 7 = .ok (.iload_n 2, 1) := by decide +kernel
theorem dX1_back_8 : decode cX1_back 8 = .ok (.ifCond .lt 11, 3) := by decide +kernel
theorem dX1_back_11 : decode cX1_back 11 = .ok (.iload_n 2, 1) := by decide +kernel
theorem dX1_back_12 : decode cX1_back 12 = .ok (.aload_n 0, 1) := by decide +kernel
theorem dX1_back_13 : decode cX1_back 13 = .ok (.getfield 23, 3) := by decide +kernel
theorem dX1_back_16 : decode cX1_back 16 = .ok (.if_icmp .le 5, 3) := by decide +kernel
theorem dX1_back_19 : decode cX1_back 19 = .ok (.iconst 0, 1) := by decide +kernel
theorem dX1_back_20 : decode cX1_back 20 = .ok (.ireturn, 1) := by decide +kernel
theorem dX1_back_21 : decode cX1_back 21 = .ok (.iload_n 2, 1) := by decide +kernel
theorem dX1_back_22 : decode cX1_back 22 = .ok (.ifCond .le 14, 3) := by decide +kernel
theorem dX1_back_25 : decode cX1_back 25 = .ok (.aload_n 0, 1) := by decide +kernel
theorem dX1_back_26 : decode cX1_back 26 = .ok (.getfield 7, 3) := by decide +kernel
theorem dX1_back_29 : decode cX1_back 29 = .ok (.iload_n 2, 1) := by decide +kernel
theorem dX1_back_30 : decode cX1_back 30 = .ok (.iconst 1, 1) := by decide +kernel
theorem dX1_back_31 : decode cX1_back 31 = .ok (.isub, 1) := by decide +kernel
theorem dX1_back_32 : decode cX1_back 32 = .ok (.iaload, 1) := by decide +kernel
theorem dX1_back_33 : decode cX1_back 33 = .ok (.goto 7, 3) := by decide +kernel
theorem dX1_back_36 : decode cX1_back 36 = .ok (.aload_n 0, 1) := by decide +kernel
theorem dX1_back_37 : decode cX1_back 37 = .ok (.getfield 17, 3) := by decide +kernel
theorem dX1_back_40 : decode cX1_back 40 = .ok (.istore_n 3, 1) := by decide +kernel
theorem dX1_back_41 : decode cX1_back 41 = .ok (.iload_n 3, 1) := by decide +kernel
theorem dX1_back_42 : decode cX1_back 42 = .ok (.bipush 10, 2) := by decide +kernel
theorem dX1_back_44 : decode cX1_back 44 = .ok (.if_icmp .eq 5, 3) := by decide +kernel
theorem dX1_back_47 : decode cX1_back 47 = .ok (.iconst 0, 1) := by decide +kernel
theorem dX1_back_48 : decode cX1_back 48 = .ok (.ireturn, 1) := by decide +kernel
theorem dX1_back_49 : decode cX1_back 49 = .ok (.aload_n 0, 1) := by decide +kernel
theorem dX1_back_50 : decode cX1_back 50 = .ok (.iload_n 2, 1) := by decide +kernel
theorem dX1_back_51 : decode cX1_back 51 = .ok (.putfield 23, 3) := by decide +kernel
theorem dX1_back_54 : decode cX1_back 54 = .ok (.aload_n 0, 1) := by decide +kernel
theorem dX1_back_55 : decode cX1_back 55 = .ok (.iconst 0, 1) := by decide +kernel
theorem dX1_back_56 : decode cX1_back 56 = .ok (.putfield 26, 3) := by decide +kernel
theorem dX1_back_59 : decode cX1_back 59 = .ok (.aload_n 0, 1) := by decide +kernel
theorem dX1_back_60 : decode cX1_back 60 = .ok (.iconst (-1), 1) := by decide +kernel
theorem dX1_back_61 : decode cX1_back 61 = .ok (.putfield 13, 3) := by decide +kernel
theorem dX1_back_64 : decode cX1_back 64 = .ok (.iconst 1, 1) := by decide +kernel
theorem dX1_back_65 : decode cX1_back 65 = .ok (.ireturn, 1) := by decide +kernel
theorem dX1_mark_0 : decode cX1_mark 0 = .ok (.aload_n 0, 1) := by decide +kernel
theorem dX1_mark_1 : decode cX1_mark 1 = .ok (.getfield 13, 3) := by decide +kernel
theorem dX1_mark_4 : decode cX1_mark 4 = .ok (.ifCond .lt 7, 3) := by decide +kernel
theorem dX1_mark_7 : decode cX1_mark 7 = .ok (.iconst (-1), 1) := by decide +kernel
theorem dX1_mark_8 : decode cX1_mark 8 = .ok (.goto 12, 3) := by decide +kernel
theorem dX1_mark_11 : decode cX1_mark 11 = .ok (.aload_n 0, 1) := by decide +kernel
theorem dX1_mark_12 : decode cX1_mark 12 = .ok (.getfield 50, 3) := by decide +kernel
theorem dX1_mark_15 : decode cX1_mark 15 = .ok (.aload_n 0, 1) := by decide +kernel
theorem dX1_mark_16 : decode cX1_mark 16 = .ok (.getfield 23, 3) := by decide +kernel
theorem dX1_mark_19 : decode cX1_mark 19 = .ok (.iadd, 1) := by decide +kernel
theorem dX1_mark_20 : decode cX1_mark 20 = .ok (.ireturn, 1) := by decide +kernel
theorem dX1_take_0 : decode cX1_take 0 = .ok (.aload_n 0, 1) := by decide +kernel
theorem dX1_take_1 : decode cX1_take 1 = .ok (.getfield 23, 3) := by decide +kernel
theorem dX1_take_4 : decode cX1_take 4 = .ok (.aload_n 0, 1) := by decide +kernel
theorem dX1_take_5 : decode cX1_take 5 = .ok (.getfield 26, 3) := by decide +kernel
theorem dX1_take_8 : decode cX1_take 8 = .ok (.isub, 1) := by decide +kernel
theorem dX1_take_9 : decode cX1_take 9 = .ok (.bipush 7, 2) := by decide +kernel
theorem dX1_take_11 : decode cX1_take 11 = .ok (.if_icmp .ge 15, 3) := by decide +kernel
theorem dX1_take_14 : decode cX1_take 14 = .ok (.aload_n 0, 1) := by decide +kernel
theorem dX1_take_15 : decode cX1_take 15 = .ok (.getfield 23, 3) := by decide +kernel
theorem dX1_take_18 : decode cX1_take 18 = .ok (.aload_n 0, 1) := by decide +kernel
theorem dX1_take_19 : decode cX1_take 19 = .ok (.getfield 26, 3) := by decide +kernel
theorem dX1_take_22 : decode cX1_take 22 = .ok (.isub, 1) := by decide +kernel
theorem dX1_take_23 : decode cX1_take 23 = .ok (.goto 5, 3) := by decide +kernel
theorem dX1_take_26 : decode cX1_take 26 = .ok (.bipush 7, 2) := by decide +kernel
theorem dX1_take_28 : decode cX1_take 28 = .ok (.istore_n 1, 1) := by decide +kernel
theorem dX1_take_29 : decode cX1_take 29 = .ok (.iload_n 1, 1) := by decide +kernel
theorem dX1_take_30 : decode cX1_take 30 = .ok (.ifCond .ne 5, 3) := by decide +kernel
theorem dX1_take_33 : decode cX1_take 33 = .ok (.lconst 0, 1) := by decide +kernel
theorem dX1_take_34 : decode cX1_take 34 = .ok (.lreturn, 1) := by decide +kernel
theorem dX1_take_35 : decode cX1_take 35 = .ok (.iload_n 1, 1) := by decide +kernel
theorem dX1_take_36 : decode cX1_take 36 = .ok (.i2l, 1) := by decide +kernel
theorem dX1_take_37 : decode cX1_take 37 = .ok (.bipush 56, 2) := by decide +kernel
theorem dX1_take_39 : decode cX1_take 39 = .ok (.lshl, 1) := by decide +kernel
theorem dX1_take_40 : decode cX1_take 40 = .ok (.lstore_n 2, 1) := by decide +kernel
theorem dX1_take_41 : decode cX1_take 41 = .ok (.iconst 0, 1) := by decide +kernel
theorem dX1_take_42 : decode cX1_take 42 = .ok (.istore 4, 2) := by decide +kernel
theorem dX1_take_44 : decode cX1_take 44 = .ok (.iload 4, 2) := by decide +kernel
theorem dX1_take_46 : decode cX1_take 46 = .ok (.iload_n 1, 1) := by decide +kernel
theorem dX1_take_47 : decode cX1_take 47 = .ok (.if_icmp .ge 55, 3) := by decide +kernel
theorem dX1_take_50 : decode cX1_take 50 = .ok (.lload_n 2, 1) := by decide +kernel
theorem dX1_take_51 : decode cX1_take 51 = .ok (.aload_n 0, 1) := by decide +kernel
theorem dX1_take_52 : decode cX1_take 52 = .ok (.getfield 7, 3) := by decide +kernel
theorem dX1_take_55 : decode cX1_take 55 = .ok (.iload 4, 2) := by decide +kernel
theorem dX1_take_57 : decode cX1_take 57 = .ok (.iaload, 1) := by decide +kernel
theorem dX1_take_58 : decode cX1_take 58 = .ok (.i2l, 1) := by decide +kernel
theorem dX1_take_59 : decode cX1_take 59 = .ok (.bipush 48, 2) := by decide +kernel
theorem dX1_take_61 : decode cX1_take 61 = .ok (.bipush 8, 2) := by decide +kernel
theorem dX1_take_63 : decode cX1_take 63 = .ok (.iload 4, 2) := by decide +kernel
theorem dX1_take_65 : decode cX1_take 65 = .ok (.imul, 1) := by decide +kernel
theorem dX1_take_66 : decode cX1_take 66 = .ok (.isub, 1) := by decide +kernel
theorem dX1_take_67 : decode cX1_take 67 = .ok (.lshl, 1) := by decide +kernel
theorem dX1_take_68 : decode cX1_take 68 = .ok (.lor, 1) := by decide +kernel
theorem dX1_take_69 : decode cX1_take 69 = .ok (.lstore_n 2, 1) := by decide +kernel
theorem dX1_take_70 : decode cX1_take 70 = .ok (.aload_n 0, 1) := by decide +kernel
theorem dX1_take_71 : decode cX1_take 71 = .ok (.aload_n 0, 1) := by decide +kernel
theorem dX1_take_72 : decode cX1_take 72 = .ok (.getfield 53, 3) := by decide +kernel
theorem dX1_take_75 : decode cX1_take 75 = .ok (.aload_n 0, 1) := by decide +kernel
theorem dX1_take_76 : decode cX1_take 76 = .ok (.getfield 7, 3) := by decide +kernel
theorem dX1_take_79 : decode cX1_take 79 = .ok (.iload 4, 2) := by decide +kernel
theorem dX1_take_81 : decode cX1_take 81 = .ok (.iaload, 1) := by decide +kernel
theorem dX1_take_82 : decode cX1_take 82 = .ok (.bipush 10, 2) := by decide +kernel
theorem dX1_take_84 : decode cX1_take 84 = .ok (.if_icmp .ne 7, 3) := by decide +kernel
theorem dX1_take_87 : decode cX1_take 87 = .ok (.iconst 1, 1) := by decide +kernel
theorem dX1_take_88 : decode cX1_take 88 = .ok (.goto 4, 3) := by decide +kernel
theorem dX1_take_91 : decode cX1_take 91 = .ok (.iconst 0, 1) := by decide +kernel
theorem dX1_take_92 : decode cX1_take 92 = .ok (.iadd, 1) := by decide +kernel
theorem dX1_take_93 : decode cX1_take 93 = .ok (.putfield 53, 3) := by decide +kernel
theorem dX1_take_96 : decode cX1_take 96 = .ok (.iinc 4 1, 3) := by decide +kernel
theorem dX1_take_99 : decode cX1_take 99 = .ok (.goto (-55), 3) := by decide +kernel
theorem dX1_take_102 : decode cX1_take 102 = .ok (.aload_n 0, 1) := by decide +kernel
theorem dX1_take_103 : decode cX1_take 103 = .ok (.aload_n 0, 1) := by decide +kernel
theorem dX1_take_104 : decode cX1_take 104 = .ok (.getfield 7, 3) := by decide +kernel
theorem dX1_take_107 : decode cX1_take 107 = .ok (.iload_n 1, 1) := by decide +kernel
theorem dX1_take_108 : decode cX1_take 108 = .ok (.iconst 1, 1) := by decide +kernel
theorem dX1_take_109 : decode cX1_take 109 = .ok (.isub, 1) := by decide +kernel
theorem dX1_take_110 : decode cX1_take 110 = .ok (.iaload, 1) := by decide +kernel
theorem dX1_take_111 : decode cX1_take 111 = .ok (.putfield 17, 3) := by decide +kernel
theorem dX1_take_114 : decode cX1_take 114 = .ok (.iload_n 1, 1) := by decide +kernel
theorem dX1_take_115 : decode cX1_take 115 = .ok (.istore 4, 2) := by decide +kernel
theorem dX1_take_117 : decode cX1_take 117 = .ok (.iload 4, 2) := by decide +kernel
theorem dX1_take_119 : decode cX1_take 119 = .ok (.aload_n 0, 1) := by decide +kernel
theorem dX1_take_120 : decode cX1_take 120 = .ok (.getfield 23, 3) := by decide +kernel
theorem dX1_take_123 : decode cX1_take 123 = .ok (.if_icmp .ge 25, 3) := by decide +kernel
theorem dX1_take_126 : decode cX1_take 126 = .ok (.aload_n 0, 1) := by decide +kernel
theorem dX1_take_127 : decode cX1_take 127 = .ok (.getfield 7, 3) := by decide +kernel
theorem dX1_take_130 : decode cX1_take 130 = .ok (.iload 4, 2) := by decide +kernel
theorem dX1_take_132 : decode cX1_take 132 = .ok (.iload_n 1, 1) := by decide +kernel
theorem dX1_take_133 : decode cX1_take 133 = .ok (.isub, 1) := by decide +kernel
theorem dX1_take_134 : decode cX1_take 134 = .ok (.aload_n 0, 1) := by decide +kernel
theorem dX1_take_135 : decode cX1_take 135 = .ok (.getfield 7, 3) := by decide +kernel
theorem dX1_take_138 : decode cX1_take 138 = .ok (.iload 4, 2) := by decide +kernel
theorem dX1_take_140 : decode cX1_take 140 = .ok (.iaload, 1) := by decide +kernel
theorem dX1_take_141 : decode cX1_take 141 = .ok (.iastore, 1) := by decide +kernel
theorem dX1_take_142 : decode cX1_take 142 = .ok (.iinc 4 1, 3) := by decide +kernel
theorem dX1_take_145 : decode cX1_take 145 = .ok (.goto (-28), 3) := by decide +kernel
theorem dX1_take_148 : decode cX1_take 148 = .ok (.aload_n 0, 1) := by decide +kernel
theorem dX1_take_149 : decode cX1_take 149 = .ok (.aload_n 0, 1) := by decide +kernel
theorem dX1_take_150 : decode cX1_take 150 = .ok (.getfield 23, 3) := by decide +kernel
theorem dX1_take_153 : decode cX1_take 153 = .ok (.iload_n 1, 1) := by decide +kernel
theorem dX1_take_154 : decode cX1_take 154 = .ok (.isub, 1) := by decide +kernel
theorem dX1_take_155 : decode cX1_take 155 = .ok (.putfield 23, 3) := by decide +kernel
theorem dX1_take_158 : decode cX1_take 158 = .ok (.aload_n 0, 1) := by decide +kernel
theorem dX1_take_159 : decode cX1_take 159 = .ok (.aload_n 0, 1) := by decide +kernel
theorem dX1_take_160 : decode cX1_take 160 = .ok (.getfield 50, 3) := by decide +kernel
theorem dX1_take_163 : decode cX1_take 163 = .ok (.iload_n 1, 1) := by decide +kernel
theorem dX1_take_164 : decode cX1_take 164 = .ok (.iadd, 1) := by decide +kernel
theorem dX1_take_165 : decode cX1_take 165 = .ok (.putfield 50, 3) := by decide +kernel
theorem dX1_take_168 : decode cX1_take 168 = .ok (.lload_n 2, 1) := by decide +kernel
theorem dX1_take_169 : decode cX1_take 169 = .ok (.lreturn, 1) := by decide +kernel
theorem dX1_count_0 : decode cX1_count 0 = .ok (.iload_n 1, 1) := by decide +kernel
theorem dX1_count_1 : decode cX1_count 1 = .ok (.tableswitch 49 0 3 #[31, 36, 39, 44], 31) := by decide +kernel
theorem dX1_count_32 : decode cX1_count 32 = .ok (.aload_n 0, 1) := by decide +kernel
theorem dX1_count_33 : decode cX1_count 33 = .ok (.getfield 23, 3) := by decide +kernel
theorem dX1_count_36 : decode cX1_count 36 = .ok (.ireturn, 1) := by decide +kernel
theorem dX1_count_37 : decode cX1_count 37 = .ok (.goto 15, 3) := by decide +kernel
theorem dX1_count_40 : decode cX1_count 40 = .ok (.aload_n 0, 1) := by decide +kernel
theorem dX1_count_41 : decode cX1_count 41 = .ok (.getfield 13, 3) := by decide +kernel
theorem dX1_count_44 : decode cX1_count 44 = .ok (.ireturn, 1) := by decide +kernel
theorem dX1_count_45 : decode cX1_count 45 = .ok (.aload_n 0, 1) := by decide +kernel
theorem dX1_count_46 : decode cX1_count 46 = .ok (.getfield 26, 3) := by decide +kernel
theorem dX1_count_49 : decode cX1_count 49 = .ok (.ireturn, 1) := by decide +kernel
theorem dX1_count_50 : decode cX1_count 50 = .ok (.iconst (-1), 1) := by decide +kernel
theorem dX1_count_51 : decode cX1_count 51 = .ok (.ireturn, 1) := by decide +kernel
theorem dX1_count_52 : decode cX1_count 52 = .ok (.aload_n 0, 1) := by decide +kernel
theorem dX1_count_53 : decode cX1_count 53 = .ok (.getfield 53, 3) := by decide +kernel
theorem dX1_count_56 : decode cX1_count 56 = .ok (.istore_n 2, 1) := by decide +kernel
theorem dX1_count_57 : decode cX1_count 57 = .ok (.iconst 0, 1) := by decide +kernel
theorem dX1_count_58 : decode cX1_count 58 = .ok (.istore_n 3, 1) := by decide +kernel
theorem dX1_count_59 : decode cX1_count 59 = .ok (.iload_n 3, 1) := by decide +kernel
theorem dX1_count_60 : decode cX1_count 60 = .ok (.aload_n 0, 1) := by decide +kernel
theorem dX1_count_61 : decode cX1_count 61 = .ok (.getfield 23, 3) := by decide +kernel
theorem dX1_count_64 : decode cX1_count 64 = .ok (.if_icmp .ge 28, 3) := by decide +kernel
theorem dX1_count_67 : decode cX1_count 67 = .ok (.iload_n 2, 1) := by decide +kernel
theorem dX1_count_68 : decode cX1_count 68 = .ok (.aload_n 0, 1) := by decide +kernel
theorem dX1_count_69 : decode cX1_count 69 = .ok (.getfield 7, 3) := by decide +kernel
theorem dX1_count_72 : decode cX1_count 72 = .ok (.iload_n 3, 1) := by decide +kernel
theorem dX1_count_73 : decode cX1_count 73 = .ok (.iaload, 1) := by decide +kernel
theorem dX1_count_74 : decode cX1_count 74 = .ok (.bipush 10, 2) := by decide +kernel
theorem dX1_count_76 : decode cX1_count 76 = .ok (.if_icmp .ne 7, 3) := by decide +kernel
theorem dX1_count_79 : decode cX1_count 79 = .ok (.iconst 1, 1) := by decide +kernel
theorem dX1_count_80 : decode cX1_count 80 = .ok (.goto 4, 3) := by decide +kernel
theorem dX1_count_83 : decode cX1_count 83 = .ok (.iconst 0, 1) := by decide +kernel
theorem dX1_count_84 : decode cX1_count 84 = .ok (.iadd, 1) := by decide +kernel
theorem dX1_count_85 : decode cX1_count 85 = .ok (.istore_n 2, 1) := by decide +kernel
theorem dX1_count_86 : decode cX1_count 86 = .ok (.iinc 3 1, 3) := by decide +kernel
theorem dX1_count_89 : decode cX1_count 89 = .ok (.goto (-30), 3) := by decide +kernel
theorem dX1_count_92 : decode cX1_count 92 = .ok (.iload_n 2, 1) := by decide +kernel
theorem dX1_count_93 : decode cX1_count 93 = .ok (.ireturn, 1) := by decide +kernel
theorem dJ9_min_7cf53_0 : decode cJ9_min_7cf53 0 = .ok (.iload_n 0, 1) := by decide +kernel
theorem dJ9_min_7cf53_1 : decode cJ9_min_7cf53 1 = .ok (.iload_n 1, 1) := by decide +kernel
theorem dJ9_min_7cf53_2 : decode cJ9_min_7cf53 2 = .ok (.if_icmp .gt 7, 3) := by decide +kernel
theorem dJ9_min_7cf53_5 : decode cJ9_min_7cf53 5 = .ok (.iload_n 0, 1) := by decide +kernel
theorem dJ9_min_7cf53_6 : decode cJ9_min_7cf53 6 = .ok (.goto 4, 3) := by decide +kernel
theorem dJ9_min_7cf53_9 : decode cJ9_min_7cf53 9 = .ok (.iload_n 1, 1) := by decide +kernel
theorem dJ9_min_7cf53_10 : decode cJ9_min_7cf53 10 = .ok (.ireturn, 1) := by decide +kernel
set_option maxRecDepth 20000 in
theorem ggL_law_X0_init : GoodIn wsL_law wsX0_init := goodIn_r _ [8, 9, 10, 11, 12, 13, 14, 15, 16, 17, 18, 185, 186, 187, 188, 189, 190] (by decide +kernel) (by decide +kernel)
set_option maxRecDepth 20000 in
theorem gL_law_X0_init : GoodIn wsL_law (wsX0_init) := ggL_law_X0_init
set_option maxRecDepth 20000 in
theorem ggL_law_X1_init : GoodIn wsL_law wsX1_init := goodIn_r _ [21, 22, 10, 11, 23, 24, 25, 26, 27, 191, 192, 193, 194, 195, 196, 197, 198, 199] (by decide +kernel) (by decide +kernel)
set_option maxRecDepth 20000 in
theorem gL_law_X1_init : GoodIn wsL_law (wsX1_init) := ggL_law_X1_init
set_option maxRecDepth 20000 in
theorem ggL_law_X0_begin : GoodIn wsL_law wsX0_begin := goodIn_r _ [31, 32, 33, 34, 2, 35, 17, 36, 37, 38, 39, 14, 15, 40, 41, 42, 43, 18, 44, 45, 46, 47, 16, 48, 49, 50, 51, 13, 52, 53, 54, 185, 186, 187, 188, 189, 190] (by decide +kernel) (by decide +kernel)
set_option maxRecDepth 20000 in
theorem gL_law_X0_begin : GoodIn wsL_law (wsV RL 13 RX0 yX0_begin wsX0_begin) := goodIn_app (goodIn_of _ (by decide +kernel)) ggL_law_X0_begin
set_option maxRecDepth 20000 in
theorem ggL_law_X1_begin : GoodIn wsL_law wsX1_begin := goodIn_r _ [58, 59, 25, 60, 61, 62, 5, 63, 64, 65, 66, 67, 24, 68, 69, 70, 71, 72, 191, 192, 193, 194, 195, 196, 197, 198, 199] (by decide +kernel) (by decide +kernel)
set_option maxRecDepth 20000 in
theorem gL_law_X1_begin : GoodIn wsL_law (wsV RL 17 RX1 yX1_begin wsX1_begin) := goodIn_app (goodIn_of _ (by decide +kernel)) ggL_law_X1_begin
set_option maxRecDepth 20000 in
theorem ggL_law_X0_add : GoodIn wsL_law wsX0_add := goodIn_r _ [76, 17, 77, 78, 2, 79, 80, 81, 82, 83, 84, 85, 86, 87, 88, 89, 36, 37, 38, 39, 14, 15, 90, 91, 92, 93, 48, 49, 50, 51, 13, 94, 95, 96, 97, 98, 99, 100, 101, 185, 186, 187, 188, 189, 190] (by decide +kernel) (by decide +kernel)
set_option maxRecDepth 20000 in
theorem gL_law_X0_add : GoodIn wsL_law (wsV RL 18 RX0 yX0_add wsX0_add) := goodIn_app (goodIn_of _ (by decide +kernel)) ggL_law_X0_add
set_option maxRecDepth 20000 in
theorem ggL_law_X1_add : GoodIn wsL_law wsX1_add := goodIn_r _ [105, 25, 59, 106, 27, 107, 108, 109, 5, 110, 111, 112, 113, 114, 69, 70, 71, 72, 24, 68, 191, 192, 193, 194, 195, 196, 197, 198, 199] (by decide +kernel) (by decide +kernel)
set_option maxRecDepth 20000 in
theorem gL_law_X1_add : GoodIn wsL_law (wsV RL 21 RX1 yX1_add wsX1_add) := goodIn_app (goodIn_of _ (by decide +kernel)) ggL_law_X1_add
set_option maxRecDepth 20000 in
theorem ggL_law_X0_text : GoodIn wsL_law wsX0_text := goodIn_r _ [118, 17, 77, 78, 2, 79, 80, 81, 82, 32, 33, 34, 35, 83, 84, 85, 86, 87, 88, 89, 36, 37, 38, 39, 14, 15, 40, 41, 42, 43, 18, 44, 45, 46, 47, 16, 48, 49, 50, 51, 13, 52, 53, 54, 90, 91, 92, 93, 94, 95, 96, 97, 98, 99, 100, 101, 185, 186, 187, 188, 189, 190] (by decide +kernel) (by decide +kernel)
set_option maxRecDepth 20000 in
theorem gL_law_X0_text : GoodIn wsL_law (wsV RL 22 RX0 yX0_text wsX0_text) := goodIn_app (goodIn_of _ (by decide +kernel)) ggL_law_X0_text
set_option maxRecDepth 20000 in
theorem ggL_law_X1_text : GoodIn wsL_law wsX1_text := goodIn_r _ [122, 25, 59, 106, 27, 107, 108, 109, 5, 110, 111, 112, 113, 114, 60, 61, 62, 63, 64, 65, 66, 67, 24, 68, 69, 70, 71, 72, 191, 192, 193, 194, 195, 196, 197, 198, 199] (by decide +kernel) (by decide +kernel)
set_option maxRecDepth 20000 in
theorem gL_law_X1_text : GoodIn wsL_law (wsV RL 25 RX1 yX1_text wsX1_text) := goodIn_app (goodIn_of _ (by decide +kernel)) ggL_law_X1_text
set_option maxRecDepth 20000 in
theorem ggL_law_X0_end : GoodIn wsL_law wsX0_end := goodIn_r _ [126, 17, 44, 45, 46, 2, 47, 16, 48, 49, 50, 51, 14, 13, 185, 186, 187, 188, 189, 190] (by decide +kernel) (by decide +kernel)
set_option maxRecDepth 20000 in
theorem gL_law_X0_end : GoodIn wsL_law (wsV RL 26 RX0 yX0_end wsX0_end) := goodIn_app (goodIn_of _ (by decide +kernel)) ggL_law_X0_end
set_option maxRecDepth 20000 in
theorem ggL_law_X1_end : GoodIn wsL_law wsX1_end := goodIn_r _ [130, 25, 64, 65, 66, 5, 67, 24, 59, 68, 191, 192, 193, 194, 195, 196, 197, 198, 199] (by decide +kernel) (by decide +kernel)
set_option maxRecDepth 20000 in
theorem gL_law_X1_end : GoodIn wsL_law (wsV RL 30 RX1 yX1_end wsX1_end) := goodIn_app (goodIn_of _ (by decide +kernel)) ggL_law_X1_end
set_option maxRecDepth 20000 in
theorem ggL_law_X0_back : GoodIn wsL_law wsX0_back := goodIn_r _ [134, 15, 14, 16, 17, 135, 136, 137, 2, 138, 139, 140, 141, 142, 13, 143, 144, 145, 146, 185, 186, 187, 188, 189, 190] (by decide +kernel) (by decide +kernel)
set_option maxRecDepth 20000 in
theorem gL_law_X0_back : GoodIn wsL_law (wsV RL 31 RX0 yX0_back wsX0_back) := goodIn_app (goodIn_of _ (by decide +kernel)) ggL_law_X0_back
set_option maxRecDepth 20000 in
theorem ggL_law_X1_back : GoodIn wsL_law wsX1_back := goodIn_r _ [150, 151, 59, 24, 26, 68, 25, 191, 192, 193, 194, 195, 196, 197, 198, 199] (by decide +kernel) (by decide +kernel)
set_option maxRecDepth 20000 in
theorem gL_law_X1_back : GoodIn wsL_law (wsV RL 34 RX1 yX1_back wsX1_back) := goodIn_app (goodIn_of _ (by decide +kernel)) ggL_law_X1_back
set_option maxRecDepth 20000 in
theorem ggL_law_X0_mark : GoodIn wsL_law wsX0_mark := goodIn_r _ [155, 17, 14, 185, 186, 187, 188, 189, 190] (by decide +kernel) (by decide +kernel)
set_option maxRecDepth 20000 in
theorem gL_law_X0_mark : GoodIn wsL_law (wsV RL 35 RX0 yX0_mark wsX0_mark) := goodIn_app (goodIn_of _ (by decide +kernel)) ggL_law_X0_mark
set_option maxRecDepth 20000 in
theorem ggL_law_X1_mark : GoodIn wsL_law wsX1_mark := goodIn_r _ [159, 25, 151, 59, 191, 192, 193, 194, 195, 196, 197, 198, 199] (by decide +kernel) (by decide +kernel)
set_option maxRecDepth 20000 in
theorem gL_law_X1_mark : GoodIn wsL_law (wsV RL 38 RX1 yX1_mark wsX1_mark) := goodIn_app (goodIn_of _ (by decide +kernel)) ggL_law_X1_mark
set_option maxRecDepth 20000 in
theorem ggL_law_X0_take : GoodIn wsL_law wsX0_take := goodIn_r _ [163, 15, 164, 165, 166, 167, 168, 169, 170, 2, 171, 17, 14, 18, 139, 140, 141, 142, 13, 185, 186, 187, 188, 189, 190] (by decide +kernel) (by decide +kernel)
set_option maxRecDepth 20000 in
theorem gL_law_X0_take : GoodIn wsL_law (wsV RL 39 RX0 yX0_take wsX0_take) := goodIn_app (goodIn_of _ (by decide +kernel)) ggL_law_X0_take
set_option maxRecDepth 20000 in
theorem ggL_law_X1_take : GoodIn wsL_law wsX1_take := goodIn_r _ [175, 59, 68, 24, 176, 26, 151, 191, 192, 193, 194, 195, 196, 197, 198, 199] (by decide +kernel) (by decide +kernel)
set_option maxRecDepth 20000 in
theorem gL_law_X1_take : GoodIn wsL_law (wsV RL 43 RX1 yX1_take wsX1_take) := goodIn_app (goodIn_of _ (by decide +kernel)) ggL_law_X1_take
set_option maxRecDepth 20000 in
theorem ggL_law_X0_count : GoodIn wsL_law wsX0_count := goodIn_r _ [180, 14, 15, 16, 17, 168, 169, 170, 2, 171, 18, 185, 186, 187, 188, 189, 190] (by decide +kernel) (by decide +kernel)
set_option maxRecDepth 20000 in
theorem gL_law_X0_count : GoodIn wsL_law (wsV RL 44 RX0 yX0_count wsX0_count) := goodIn_app (goodIn_of _ (by decide +kernel)) ggL_law_X0_count
set_option maxRecDepth 20000 in
theorem ggL_law_X1_count : GoodIn wsL_law wsX1_count := goodIn_r _ [184, 59, 25, 68, 176, 24, 191, 192, 193, 194, 195, 196, 197, 198, 199] (by decide +kernel) (by decide +kernel)
set_option maxRecDepth 20000 in
theorem gL_law_X1_count : GoodIn wsL_law (wsV RL 48 RX1 yX1_count wsX1_count) := goodIn_app (goodIn_of _ (by decide +kernel)) ggL_law_X1_count
theorem dL_law_0 : decode cL_law 0 = .ok (.new 7, 3) := by decide +kernel
theorem dL_law_3 : decode cL_law 3 = .ok (.dup, 1) := by decide +kernel
theorem dL_law_4 : decode cL_law 4 = .ok (.invokespecial 9, 3) := by decide +kernel
theorem dL_law_7 : decode cL_law 7 = .ok (.astore_n 1, 1) := by decide +kernel
theorem dL_law_8 : decode cL_law 8 = .ok (.new 10, 3) := by decide +kernel
theorem dL_law_11 : decode cL_law 11 = .ok (.dup, 1) := by decide +kernel
theorem dL_law_12 : decode cL_law 12 = .ok (.invokespecial 12, 3) := by decide +kernel
theorem dL_law_15 : decode cL_law 15 = .ok (.astore_n 2, 1) := by decide +kernel
theorem dL_law_16 : decode cL_law 16 = .ok (.iconst 0, 1) := by decide +kernel
theorem dL_law_17 : decode cL_law 17 = .ok (.istore_n 3, 1) := by decide +kernel
theorem dL_law_18 : decode cL_law 18 = .ok (.iload_n 3, 1) := by decide +kernel
theorem dL_law_19 : decode cL_law 19 = .ok (.aload_n 0, 1) := by decide +kernel
theorem dL_law_20 : decode cL_law 20 = .ok (.arraylength, 1) := by decide +kernel
theorem dL_law_21 : decode cL_law 21 = .ok (.iconst 2, 1) := by decide +kernel
theorem dL_law_22 : decode cL_law 22 = .ok (.isub, 1) := by decide +kernel
theorem dL_law_23 : decode cL_law 23 = .ok (.if_icmp .gt 218, 3) := by decide +kernel
theorem dL_law_26 : decode cL_law 26 = .ok (.aload_n 0, 1) := by decide +kernel
theorem dL_law_27 : decode cL_law 27 = .ok (.iload_n 3, 1) := by decide +kernel
theorem dL_law_28 : decode cL_law 28 = .ok (.iaload, 1) := by decide +kernel
theorem dL_law_29 : decode cL_law 29 = .ok (.bipush 7, 2) := by decide +kernel
theorem dL_law_31 : decode cL_law 31 = .ok (.iand, 1) := by decide +kernel
theorem dL_law_32 : decode cL_law 32 = .ok (.tableswitch 203 0 7 #[48, 71, 94, 117, 130, 153, 166, 180], 48) := by decide +kernel
theorem dL_law_80 : decode cL_law 80 = .ok (.aload_n 1, 1) := by decide +kernel
theorem dL_law_81 : decode cL_law 81 = .ok (.aload_n 0, 1) := by decide +kernel
theorem dL_law_82 : decode cL_law 82 = .ok (.iload_n 3, 1) := by decide +kernel
theorem dL_law_83 : decode cL_law 83 = .ok (.iconst 1, 1) := by decide +kernel
theorem dL_law_84 : decode cL_law 84 = .ok (.iadd, 1) := by decide +kernel
theorem dL_law_85 : decode cL_law 85 = .ok (.iaload, 1) := by decide +kernel
theorem dL_law_86 : decode cL_law 86 = .ok (.invokevirtual 13, 3) := by decide +kernel
theorem dL_law_89 : decode cL_law 89 = .ok (.aload_n 2, 1) := by decide +kernel
theorem dL_law_90 : decode cL_law 90 = .ok (.aload_n 0, 1) := by decide +kernel
theorem dL_law_91 : decode cL_law 91 = .ok (.iload_n 3, 1) := by decide +kernel
theorem dL_law_92 : decode cL_law 92 = .ok (.iconst 1, 1) := by decide +kernel
theorem dL_law_93 : decode cL_law 93 = .ok (.iadd, 1) := by decide +kernel
theorem dL_law_94 : decode cL_law 94 = .ok (.iaload, 1) := by decide +kernel
theorem dL_law_95 : decode cL_law 95 = .ok (.invokevirtual 17, 3) := by decide +kernel
theorem dL_law_98 : decode cL_law 98 = .ok (.if_icmp .eq 137, 3) := by decide +kernel
theorem dL_law_101 : decode cL_law 101 = .ok (.iconst 0, 1) := by decide +kernel
theorem dL_law_102 : decode cL_law 102 = .ok (.ireturn, 1) := by decide +kernel
theorem dL_law_103 : decode cL_law 103 = .ok (.aload_n 1, 1) := by decide +kernel
theorem dL_law_104 : decode cL_law 104 = .ok (.aload_n 0, 1) := by decide +kernel
theorem dL_law_105 : decode cL_law 105 = .ok (.iload_n 3, 1) := by decide +kernel
theorem dL_law_106 : decode cL_law 106 = .ok (.iconst 1, 1) := by decide +kernel
theorem dL_law_107 : decode cL_law 107 = .ok (.iadd, 1) := by decide +kernel
theorem dL_law_108 : decode cL_law 108 = .ok (.iaload, 1) := by decide +kernel
theorem dL_law_109 : decode cL_law 109 = .ok (.invokevirtual 18, 3) := by decide +kernel
theorem dL_law_112 : decode cL_law 112 = .ok (.aload_n 2, 1) := by decide +kernel
theorem dL_law_113 : decode cL_law 113 = .ok (.aload_n 0, 1) := by decide +kernel
theorem dL_law_114 : decode cL_law 114 = .ok (.iload_n 3, 1) := by decide +kernel
theorem dL_law_115 : decode cL_law 115 = .ok (.iconst 1, 1) := by decide +kernel
theorem dL_law_116 : decode cL_law 116 = .ok (.iadd, 1) := by decide +kernel
theorem dL_law_117 : decode cL_law 117 = .ok (.iaload, 1) := by decide +kernel
theorem dL_law_118 : decode cL_law 118 = .ok (.invokevirtual 21, 3) := by decide +kernel
theorem dL_law_121 : decode cL_law 121 = .ok (.if_icmp .eq 114, 3) := by decide +kernel
theorem dL_law_124 : decode cL_law 124 = .ok (.iconst 0, 1) := by decide +kernel
theorem dL_law_125 : decode cL_law 125 = .ok (.ireturn, 1) := by decide +kernel
theorem dL_law_126 : decode cL_law 126 = .ok (.aload_n 1, 1) := by decide +kernel
theorem dL_law_127 : decode cL_law 127 = .ok (.aload_n 0, 1) := by decide +kernel
theorem dL_law_128 : decode cL_law 128 = .ok (.iload_n 3, 1) := by decide +kernel
theorem dL_law_129 : decode cL_law 129 = .ok (.iconst 1, 1) := by decide +kernel
theorem dL_law_130 : decode cL_law 130 = .ok (.iadd, 1) := by decide +kernel
theorem dL_law_131 : decode cL_law 131 = .ok (.iaload, 1) := by decide +kernel
theorem dL_law_132 : decode cL_law 132 = .ok (.invokevirtual 22, 3) := by decide +kernel
theorem dL_law_135 : decode cL_law 135 = .ok (.aload_n 2, 1) := by decide +kernel
theorem dL_law_136 : decode cL_law 136 = .ok (.aload_n 0, 1) := by decide +kernel
theorem dL_law_137 : decode cL_law 137 = .ok (.iload_n 3, 1) := by decide +kernel
theorem dL_law_138 : decode cL_law 138 = .ok (.iconst 1, 1) := by decide +kernel
theorem dL_law_139 : decode cL_law 139 = .ok (.iadd, 1) := by decide +kernel
theorem dL_law_140 : decode cL_law 140 = .ok (.iaload, 1) := by decide +kernel
theorem dL_law_141 : decode cL_law 141 = .ok (.invokevirtual 25, 3) := by decide +kernel
theorem dL_law_144 : decode cL_law 144 = .ok (.if_icmp .eq 91, 3) := by decide +kernel
theorem dL_law_147 : decode cL_law 147 = .ok (.iconst 0, 1) := by decide +kernel
theorem dL_law_148 : decode cL_law 148 = .ok (.ireturn, 1) := by decide +kernel
theorem dL_law_149 : decode cL_law 149 = .ok (.aload_n 1, 1) := by decide +kernel
theorem dL_law_150 : decode cL_law 150 = .ok (.invokevirtual 26, 3) := by decide +kernel
theorem dL_law_153 : decode cL_law 153 = .ok (.aload_n 2, 1) := by decide +kernel
theorem dL_law_154 : decode cL_law 154 = .ok (.invokevirtual 30, 3) := by decide +kernel
theorem dL_law_157 : decode cL_law 157 = .ok (.if_icmp .eq 78, 3) := by decide +kernel
theorem dL_law_160 : decode cL_law 160 = .ok (.iconst 0, 1) := by decide +kernel
theorem dL_law_161 : decode cL_law 161 = .ok (.ireturn, 1) := by decide +kernel
theorem dL_law_162 : decode cL_law 162 = .ok (.aload_n 1, 1) := by decide +kernel
theorem dL_law_163 : decode cL_law 163 = .ok (.aload_n 0, 1) := by decide +kernel
theorem dL_law_164 : decode cL_law 164 = .ok (.iload_n 3, 1) := by decide +kernel
theorem dL_law_165 : decode cL_law 165 = .ok (.iconst 1, 1) := by decide +kernel
theorem dL_law_166 : decode cL_law 166 = .ok (.iadd, 1) := by decide +kernel
theorem dL_law_167 : decode cL_law 167 = .ok (.iaload, 1) := by decide +kernel
theorem dL_law_168 : decode cL_law 168 = .ok (.invokevirtual 31, 3) := by decide +kernel
theorem dL_law_171 : decode cL_law 171 = .ok (.aload_n 2, 1) := by decide +kernel
theorem dL_law_172 : decode cL_law 172 = .ok (.aload_n 0, 1) := by decide +kernel
theorem dL_law_173 : decode cL_law 173 = .ok (.iload_n 3, 1) := by decide +kernel
theorem dL_law_174 : decode cL_law 174 = .ok (.iconst 1, 1) := by decide +kernel
theorem dL_law_175 : decode cL_law 175 = .ok (.iadd, 1) := by decide +kernel
theorem dL_law_176 : decode cL_law 176 = .ok (.iaload, 1) := by decide +kernel
theorem dL_law_177 : decode cL_law 177 = .ok (.invokevirtual 34, 3) := by decide +kernel
theorem dL_law_180 : decode cL_law 180 = .ok (.if_icmp .eq 55, 3) := by decide +kernel
theorem dL_law_183 : decode cL_law 183 = .ok (.iconst 0, 1) := by decide +kernel
theorem dL_law_184 : decode cL_law 184 = .ok (.ireturn, 1) := by decide +kernel
theorem dL_law_185 : decode cL_law 185 = .ok (.aload_n 1, 1) := by decide +kernel
theorem dL_law_186 : decode cL_law 186 = .ok (.invokevirtual 35, 3) := by decide +kernel
theorem dL_law_189 : decode cL_law 189 = .ok (.aload_n 2, 1) := by decide +kernel
theorem dL_law_190 : decode cL_law 190 = .ok (.invokevirtual 38, 3) := by decide +kernel
theorem dL_law_193 : decode cL_law 193 = .ok (.if_icmp .eq 42, 3) := by decide +kernel
theorem dL_law_196 : decode cL_law 196 = .ok (.iconst 0, 1) := by decide +kernel
theorem dL_law_197 : decode cL_law 197 = .ok (.ireturn, 1) := by decide +kernel
theorem dL_law_198 : decode cL_law 198 = .ok (.aload_n 1, 1) := by decide +kernel
theorem dL_law_199 : decode cL_law 199 = .ok (.invokevirtual 39, 3) := by decide +kernel
theorem dL_law_202 : decode cL_law 202 = .ok (.aload_n 2, 1) := by decide +kernel
theorem dL_law_203 : decode cL_law 203 = .ok (.invokevirtual 43, 3) := by decide +kernel
theorem dL_law_206 : decode cL_law 206 = .ok (.lcmp, 1) := by decide +kernel
theorem dL_law_207 : decode cL_law 207 = .ok (.ifCond .eq 28, 3) := by decide +kernel
theorem dL_law_210 : decode cL_law 210 = .ok (.iconst 0, 1) := by decide +kernel
theorem dL_law_211 : decode cL_law 211 = .ok (.ireturn, 1) := by decide +kernel
theorem dL_law_212 : decode cL_law 212 = .ok (.aload_n 1, 1) := by decide +kernel
theorem dL_law_213 : decode cL_law 213 = .ok (.aload_n 0, 1) := by decide +kernel
theorem dL_law_214 : decode cL_law 214 = .ok (.iload_n 3, 1) := by decide +kernel
theorem dL_law_215 : decode cL_law 215 = .ok (.iconst 1, 1) := by decide +kernel
theorem dL_law_216 : decode cL_law 216 = .ok (.iadd, 1) := by decide +kernel
theorem dL_law_217 : decode cL_law 217 = .ok (.iaload, 1) := by decide +kernel
theorem dL_law_218 : decode cL_law 218 = .ok (.invokevirtual 44, 3) := by decide +kernel
theorem dL_law_221 : decode cL_law 221 = .ok (.aload_n 2, 1) := by decide +kernel
theorem dL_law_222 : decode cL_law 222 = .ok (.aload_n 0, 1) := by decide +kernel
theorem dL_law_223 : decode cL_law 223 = .ok (.iload_n 3, 1) := by decide +kernel
theorem dL_law_224 : decode cL_law 224 = .ok (.iconst 1, 1) := by decide +kernel
theorem dL_law_225 : decode cL_law 225 = .ok (.iadd, 1) := by decide +kernel
theorem dL_law_226 : decode cL_law 226 = .ok (.iaload, 1) := by decide +kernel
theorem dL_law_227 : decode cL_law 227 = .ok (.invokevirtual 48, 3) := by decide +kernel
theorem dL_law_230 : decode cL_law 230 = .ok (.if_icmp .eq 5, 3) := by decide +kernel
theorem dL_law_233 : decode cL_law 233 = .ok (.iconst 0, 1) := by decide +kernel
theorem dL_law_234 : decode cL_law 234 = .ok (.ireturn, 1) := by decide +kernel
theorem dL_law_235 : decode cL_law 235 = .ok (.iinc 3 2, 3) := by decide +kernel
theorem dL_law_238 : decode cL_law 238 = .ok (.goto (-220), 3) := by decide +kernel
theorem dL_law_241 : decode cL_law 241 = .ok (.iconst 1, 1) := by decide +kernel
theorem dL_law_242 : decode cL_law 242 = .ok (.ireturn, 1) := by decide +kernel
abbrev vwCl : List vw_C := [(RX0, TX0, 6), (RX1, TX1, 9)]
