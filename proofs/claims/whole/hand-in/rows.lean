section
-- ===== PART A: goes FIRST, ahead of the names: the tables' words, and 'selects' of the private methods out of them =====
/-- a private method of a class that the tables say can be made, by its rows of tables_1 -/
def lw_okq (q : MethodName × Nat) : Prop := (q.1.cls ≠ "java/lang/invoke/MethodHandle" ∧ q.1.cls ≠ "java/lang/invoke/VarHandle") ∧ Cond.instantiable q.1.cls q.2 ∈ tables_1 ∧ Cond.privateMethod q.1 ∈ tables_1 ∧ Cond.instanceMethod q.1 ∈ tables_1
theorem lw_p0 : lw_okq (⟨"EventLineDesk", "bytesToOpen", "()I"⟩, 6) := ⟨⟨by decide +kernel, by decide +kernel⟩, List.mem_of_getElem? (i := 5) (by decide +kernel), List.mem_of_getElem? (i := 37) (by decide +kernel), List.mem_of_getElem? (i := 38) (by decide +kernel)⟩
theorem lw_p1 : lw_okq (⟨"EventLineDesk", "hasRoomFor", "(I)Z"⟩, 6) := ⟨⟨by decide +kernel, by decide +kernel⟩, List.mem_of_getElem? (i := 5) (by decide +kernel), List.mem_of_getElem? (i := 41) (by decide +kernel), List.mem_of_getElem? (i := 42) (by decide +kernel)⟩
theorem lw_p2 : lw_okq (⟨"EventLineDesk", "openLine", "(I)V"⟩, 6) := ⟨⟨by decide +kernel, by decide +kernel⟩, List.mem_of_getElem? (i := 5) (by decide +kernel), List.mem_of_getElem? (i := 45) (by decide +kernel), List.mem_of_getElem? (i := 46) (by decide +kernel)⟩
theorem lw_p3 : lw_okq (⟨"EventLineDesk", "endLine", "()V"⟩, 6) := ⟨⟨by decide +kernel, by decide +kernel⟩, List.mem_of_getElem? (i := 5) (by decide +kernel), List.mem_of_getElem? (i := 49) (by decide +kernel), List.mem_of_getElem? (i := 50) (by decide +kernel)⟩
theorem lw_p4 : lw_okq (⟨"EventLineDesk", "put", "(I)V"⟩, 6) := ⟨⟨by decide +kernel, by decide +kernel⟩, List.mem_of_getElem? (i := 5) (by decide +kernel), List.mem_of_getElem? (i := 53) (by decide +kernel), List.mem_of_getElem? (i := 54) (by decide +kernel)⟩
theorem lw_p5 : lw_okq (⟨"EventLineDesk", "putCharacter", "(I)V"⟩, 6) := ⟨⟨by decide +kernel, by decide +kernel⟩, List.mem_of_getElem? (i := 5) (by decide +kernel), List.mem_of_getElem? (i := 77) (by decide +kernel), List.mem_of_getElem? (i := 78) (by decide +kernel)⟩
theorem lw_p6 : lw_okq (⟨"EventLineDesk", "putUtf8", "(I)V"⟩, 6) := ⟨⟨by decide +kernel, by decide +kernel⟩, List.mem_of_getElem? (i := 5) (by decide +kernel), List.mem_of_getElem? (i := 81) (by decide +kernel), List.mem_of_getElem? (i := 82) (by decide +kernel)⟩
theorem lw_p7 : lw_okq (⟨"EventLineDesk", "putTail", "(I)V"⟩, 6) := ⟨⟨by decide +kernel, by decide +kernel⟩, List.mem_of_getElem? (i := 5) (by decide +kernel), List.mem_of_getElem? (i := 85) (by decide +kernel), List.mem_of_getElem? (i := 86) (by decide +kernel)⟩
theorem lw_p8 : lw_okq (⟨"EventLineDesk", "isBetweenLines", "(I)Z"⟩, 6) := ⟨⟨by decide +kernel, by decide +kernel⟩, List.mem_of_getElem? (i := 5) (by decide +kernel), List.mem_of_getElem? (i := 101) (by decide +kernel), List.mem_of_getElem? (i := 102) (by decide +kernel)⟩
theorem lw_p9 : lw_okq (⟨"EventLineDesk", "byteAt", "(I)I"⟩, 6) := ⟨⟨by decide +kernel, by decide +kernel⟩, List.mem_of_getElem? (i := 5) (by decide +kernel), List.mem_of_getElem? (i := 105) (by decide +kernel), List.mem_of_getElem? (i := 106) (by decide +kernel)⟩
theorem lw_p10 : lw_okq (⟨"EventLineDesk", "lineEndsFrom", "(I)I"⟩, 6) := ⟨⟨by decide +kernel, by decide +kernel⟩, List.mem_of_getElem? (i := 5) (by decide +kernel), List.mem_of_getElem? (i := 109) (by decide +kernel), List.mem_of_getElem? (i := 110) (by decide +kernel)⟩
theorem lw_p11 : lw_okq (⟨"EventLineDesk", "endOfEndedLines", "()I"⟩, 6) := ⟨⟨by decide +kernel, by decide +kernel⟩, List.mem_of_getElem? (i := 5) (by decide +kernel), List.mem_of_getElem? (i := 121) (by decide +kernel), List.mem_of_getElem? (i := 122) (by decide +kernel)⟩
theorem lw_p12 : lw_okq (⟨"EventLineDeskModel", "start", "(I)V"⟩, 9) := ⟨⟨by decide +kernel, by decide +kernel⟩, List.mem_of_getElem? (i := 132) (by decide +kernel), List.mem_of_getElem? (i := 171) (by decide +kernel), List.mem_of_getElem? (i := 172) (by decide +kernel)⟩
theorem lw_p13 : lw_okq (⟨"EventLineDeskModel", "close", "()V"⟩, 9) := ⟨⟨by decide +kernel, by decide +kernel⟩, List.mem_of_getElem? (i := 132) (by decide +kernel), List.mem_of_getElem? (i := 175) (by decide +kernel), List.mem_of_getElem? (i := 176) (by decide +kernel)⟩
theorem lw_p14 : lw_okq (⟨"EventLineDeskModel", "put", "(I)V"⟩, 9) := ⟨⟨by decide +kernel, by decide +kernel⟩, List.mem_of_getElem? (i := 132) (by decide +kernel), List.mem_of_getElem? (i := 179) (by decide +kernel), List.mem_of_getElem? (i := 180) (by decide +kernel)⟩
theorem lw_p15 : lw_okq (⟨"EventLineDeskModel", "code", "(I)Z"⟩, 9) := ⟨⟨by decide +kernel, by decide +kernel⟩, List.mem_of_getElem? (i := 132) (by decide +kernel), List.mem_of_getElem? (i := 187) (by decide +kernel), List.mem_of_getElem? (i := 188) (by decide +kernel)⟩
def lw_privs_1 : List (MethodName × Nat) := [(⟨"EventLineDesk", "bytesToOpen", "()I"⟩, 6), (⟨"EventLineDesk", "hasRoomFor", "(I)Z"⟩, 6), (⟨"EventLineDesk", "openLine", "(I)V"⟩, 6), (⟨"EventLineDesk", "endLine", "()V"⟩, 6), (⟨"EventLineDesk", "put", "(I)V"⟩, 6), (⟨"EventLineDesk", "putCharacter", "(I)V"⟩, 6), (⟨"EventLineDesk", "putUtf8", "(I)V"⟩, 6), (⟨"EventLineDesk", "putTail", "(I)V"⟩, 6), (⟨"EventLineDesk", "isBetweenLines", "(I)Z"⟩, 6), (⟨"EventLineDesk", "byteAt", "(I)I"⟩, 6), (⟨"EventLineDesk", "lineEndsFrom", "(I)I"⟩, 6), (⟨"EventLineDesk", "endOfEndedLines", "()I"⟩, 6), (⟨"EventLineDeskModel", "start", "(I)V"⟩, 9), (⟨"EventLineDeskModel", "close", "()V"⟩, 9), (⟨"EventLineDeskModel", "put", "(I)V"⟩, 9), (⟨"EventLineDeskModel", "code", "(I)Z"⟩, 9)]
theorem lw_r1 : ∀ q ∈ lw_privs_1, lw_okq q := List.forall_mem_cons.mpr ⟨lw_p0, List.forall_mem_cons.mpr ⟨lw_p1, List.forall_mem_cons.mpr ⟨lw_p2, List.forall_mem_cons.mpr ⟨lw_p3, List.forall_mem_cons.mpr ⟨lw_p4, List.forall_mem_cons.mpr ⟨lw_p5, List.forall_mem_cons.mpr ⟨lw_p6, List.forall_mem_cons.mpr ⟨lw_p7, List.forall_mem_cons.mpr ⟨lw_p8, List.forall_mem_cons.mpr ⟨lw_p9, List.forall_mem_cons.mpr ⟨lw_p10, List.forall_mem_cons.mpr ⟨lw_p11, List.forall_mem_cons.mpr ⟨lw_p12, List.forall_mem_cons.mpr ⟨lw_p13, List.forall_mem_cons.mpr ⟨lw_p14, List.forall_mem_cons.mpr ⟨lw_p15, fun _ h => absurd h List.not_mem_nil⟩⟩⟩⟩⟩⟩⟩⟩⟩⟩⟩⟩⟩⟩⟩⟩
def lw_privs : List (MethodName × Nat) := lw_privs_1
def lw_tbl : List Cond := k2_sels lw_privs ++ tables_1
theorem lw_privs_ok : ∀ q ∈ lw_privs, lw_okq q := lw_r1
/-! ===== BEGIN words of one list among another's, by their places ===== -/
theorem goodIn_r {big : List Cond} (ws : List Cond) (ps : List Nat) (hp : ws = ps.filterMap (fun i => big[i]?)) (h : ws.all goodWord = true) : GoodIn big ws := by
  intro w hw
  have h1 := List.all_eq_true.mp h w hw
  rw [hp] at hw
  obtain ⟨i, -, hi⟩ := List.mem_filterMap.mp hw
  have hm : w ∈ big := by first | exact List.mem_of_getElem? hi | exact List.getElem?_mem hi
  exact ⟨hm, good_of_word h1⟩
theorem goodIn_app {big a b : List Cond} (ha : GoodIn big a) (hb : GoodIn big b) : GoodIn big (a ++ b) := fun w h => (List.mem_append.mp h).elim (ha w) (hb w)
theorem goodIn_ca {big a b : List Cond} {c : Cond} (ha : GoodIn big (c :: a)) (hb : GoodIn big b) : GoodIn big (c :: (a ++ b)) := fun w h => (List.mem_cons.mp h).elim (fun e => ha w (List.mem_cons.mpr (Or.inl e))) (fun h => (List.mem_append.mp h).elim (fun h => ha w (List.mem_cons.mpr (Or.inr h))) (hb w))
theorem goodIn_sub {big ws : List Cond} (hm : ∀ w ∈ ws, w ∈ big) (h : ws.all goodWord = true) : GoodIn big ws := fun w hw => ⟨hm w hw, good_of_word (List.all_eq_true.mp h w hw)⟩
/-! ===== END ===== -/

/-! ===== BEGIN printed: names, fields, word lists, decode rows ===== -/
def RX0 : String := "EventLineDesk"
def TX0 : u_T := fun k => match k with
  | 0 => ("EventLineDesk", "ring", "[B", true)
  | 1 => ("EventLineDesk", "total", "I", false)
  | 2 => ("EventLineDesk", "taken", "I", false)
  | 3 => ("EventLineDesk", "endedLines", "I", false)
  | 4 => ("EventLineDesk", "openKind", "I", false)
  | _ => ("EventLineDesk", "openStart", "I", false)
def tyX0 : Nat → FieldType := fun k => match k with
  | 0 => .array .byte
  | 1 => .int
  | 2 => .int
  | 3 => .int
  | 4 => .int
  | _ => .int
abbrev wsX00 : List Cond := u_ws RX0 TX0 6
theorem nmX0 : ∀ a, a < 6 → ∀ b, b < 6 → a ≠ b → (TX0 a).2.1 ≠ (TX0 b).2.1 := by decide +kernel
theorem tyX0_ok : ∀ k, k < 6 → parseFieldDescriptor (TX0 k).2.2.1 = some (tyX0 k) := by decide +kernel
abbrev cX0_init : ByteArray := prog_1_method_1_code
def yX0_init : MethodName := ⟨RX0, "<init>", "()V"⟩
abbrev cX0_begin : ByteArray := prog_1_method_2_code
def yX0_begin : MethodName := ⟨RX0, "begin", "(I)Z"⟩
abbrev cX0_add : ByteArray := prog_1_method_3_code
def yX0_add : MethodName := ⟨RX0, "add", "(I)Z"⟩
abbrev cX0_text : ByteArray := prog_1_method_4_code
def yX0_text : MethodName := ⟨RX0, "text", "(I)Z"⟩
abbrev cX0_end : ByteArray := prog_1_method_5_code
def yX0_end : MethodName := ⟨RX0, "end", "()I"⟩
abbrev cX0_back : ByteArray := prog_1_method_6_code
def yX0_back : MethodName := ⟨RX0, "back", "(I)Z"⟩
abbrev cX0_mark : ByteArray := prog_1_method_7_code
def yX0_mark : MethodName := ⟨RX0, "mark", "()I"⟩
abbrev cX0_take : ByteArray := prog_1_method_8_code
def yX0_take : MethodName := ⟨RX0, "take", "()J"⟩
abbrev cX0_count : ByteArray := prog_1_method_9_code
def yX0_count : MethodName := ⟨RX0, "count", "(I)I"⟩
abbrev cX0_hasRoomFor : ByteArray := prog_1_method_10_code
def yX0_hasRoomFor : MethodName := ⟨RX0, "hasRoomFor", "(I)Z"⟩
abbrev cX0_bytesToOpen : ByteArray := prog_1_method_11_code
def yX0_bytesToOpen : MethodName := ⟨RX0, "bytesToOpen", "()I"⟩
abbrev cX0_openLine : ByteArray := prog_1_method_12_code
def yX0_openLine : MethodName := ⟨RX0, "openLine", "(I)V"⟩
abbrev cX0_endLine : ByteArray := prog_1_method_13_code
def yX0_endLine : MethodName := ⟨RX0, "endLine", "()V"⟩
abbrev cX0_endOfEndedLines : ByteArray := prog_1_method_14_code
def yX0_endOfEndedLines : MethodName := ⟨RX0, "endOfEndedLines", "()I"⟩
abbrev cX0_isBetweenLines : ByteArray := prog_1_method_15_code
def yX0_isBetweenLines : MethodName := ⟨RX0, "isBetweenLines", "(I)Z"⟩
abbrev cX0_lineEndsFrom : ByteArray := prog_1_method_16_code
def yX0_lineEndsFrom : MethodName := ⟨RX0, "lineEndsFrom", "(I)I"⟩
abbrev cX0_firstByteOf : ByteArray := prog_1_method_17_code
def yX0_firstByteOf : MethodName := ⟨RX0, "firstByteOf", "(I)I"⟩
abbrev cX0_isCharacter : ByteArray := prog_1_method_18_code
def yX0_isCharacter : MethodName := ⟨RX0, "isCharacter", "(I)Z"⟩
abbrev cX0_escapedFormOf : ByteArray := prog_1_method_19_code
def yX0_escapedFormOf : MethodName := ⟨RX0, "escapedFormOf", "(I)I"⟩
abbrev cX0_sizeOf : ByteArray := prog_1_method_20_code
def yX0_sizeOf : MethodName := ⟨RX0, "sizeOf", "(I)I"⟩
abbrev cX0_putCharacter : ByteArray := prog_1_method_21_code
def yX0_putCharacter : MethodName := ⟨RX0, "putCharacter", "(I)V"⟩
abbrev cX0_putUtf8 : ByteArray := prog_1_method_22_code
def yX0_putUtf8 : MethodName := ⟨RX0, "putUtf8", "(I)V"⟩
abbrev cX0_putTail : ByteArray := prog_1_method_23_code
def yX0_putTail : MethodName := ⟨RX0, "putTail", "(I)V"⟩
abbrev cX0_put : ByteArray := prog_1_method_24_code
def yX0_put : MethodName := ⟨RX0, "put", "(I)V"⟩
abbrev cX0_byteAt : ByteArray := prog_1_method_25_code
def yX0_byteAt : MethodName := ⟨RX0, "byteAt", "(I)I"⟩
def RX1 : String := "EventLineDeskModel"
def TX1 : u_T := fun k => match k with
  | 0 => ("EventLineDeskModel", "row", "[I", true)
  | 1 => ("EventLineDeskModel", "size", "I", false)
  | 2 => ("EventLineDeskModel", "open", "I", false)
  | 3 => ("EventLineDeskModel", "kind", "I", false)
  | 4 => ("EventLineDeskModel", "taken", "I", false)
  | 5 => ("EventLineDeskModel", "last", "I", false)
  | 6 => ("EventLineDeskModel", "lines", "I", false)
  | 7 => ("EventLineDeskModel", "bytes", "[I", true)
  | _ => ("EventLineDeskModel", "many", "I", false)
def tyX1 : Nat → FieldType := fun k => match k with
  | 0 => .array .int
  | 1 => .int
  | 2 => .int
  | 3 => .int
  | 4 => .int
  | 5 => .int
  | 6 => .int
  | 7 => .array .int
  | _ => .int
abbrev wsX10 : List Cond := u_ws RX1 TX1 9
theorem nmX1 : ∀ a, a < 9 → ∀ b, b < 9 → a ≠ b → (TX1 a).2.1 ≠ (TX1 b).2.1 := by decide +kernel
theorem tyX1_ok : ∀ k, k < 9 → parseFieldDescriptor (TX1 k).2.2.1 = some (tyX1 k) := by decide +kernel
abbrev cX1_init : ByteArray := prog_3_method_1_code
def yX1_init : MethodName := ⟨RX1, "<init>", "()V"⟩
abbrev cX1_put : ByteArray := prog_3_method_2_code
def yX1_put : MethodName := ⟨RX1, "put", "(I)V"⟩
abbrev cX1_code : ByteArray := prog_3_method_3_code
def yX1_code : MethodName := ⟨RX1, "code", "(I)Z"⟩
abbrev cX1_close : ByteArray := prog_3_method_4_code
def yX1_close : MethodName := ⟨RX1, "close", "()V"⟩
abbrev cX1_start : ByteArray := prog_3_method_5_code
def yX1_start : MethodName := ⟨RX1, "start", "(I)V"⟩
abbrev cX1_begin : ByteArray := prog_3_method_6_code
def yX1_begin : MethodName := ⟨RX1, "begin", "(I)Z"⟩
abbrev cX1_add : ByteArray := prog_3_method_7_code
def yX1_add : MethodName := ⟨RX1, "add", "(I)Z"⟩
abbrev cX1_text : ByteArray := prog_3_method_8_code
def yX1_text : MethodName := ⟨RX1, "text", "(I)Z"⟩
abbrev cX1_end : ByteArray := prog_3_method_9_code
def yX1_end : MethodName := ⟨RX1, "end", "()I"⟩
abbrev cX1_back : ByteArray := prog_3_method_10_code
def yX1_back : MethodName := ⟨RX1, "back", "(I)Z"⟩
abbrev cX1_mark : ByteArray := prog_3_method_11_code
def yX1_mark : MethodName := ⟨RX1, "mark", "()I"⟩
abbrev cX1_take : ByteArray := prog_3_method_12_code
def yX1_take : MethodName := ⟨RX1, "take", "()J"⟩
abbrev cX1_count : ByteArray := prog_3_method_13_code
def yX1_count : MethodName := ⟨RX1, "count", "(I)I"⟩
def RJ9 : String := "java/lang/Math"
def TJ9 : u_T := fun k => match k with
  | _ => ("", "", "", false)
def tyJ9 : Nat → FieldType := fun k => match k with
  | _ => .int
abbrev wsJ90 : List Cond := u_ws RJ9 TJ9 0
theorem nmJ9 : ∀ a, a < 0 → ∀ b, b < 0 → a ≠ b → (TJ9 a).2.1 ≠ (TJ9 b).2.1 := by decide +kernel
theorem tyJ9_ok : ∀ k, k < 0 → parseFieldDescriptor (TJ9 k).2.2.1 = some (tyJ9 k) := by decide +kernel
abbrev cJ9_min_7cf53 : ByteArray := prog_4_method_69_code
def yJ9_min_7cf53 : MethodName := ⟨RJ9, "min", "(II)I"⟩
def RL : String := "EventLineDeskLaw"
abbrev cL_law : ByteArray := code
def yL_law : MethodName := ⟨RL, "law", "([I)Z"⟩
def wsX0_init : List Cond := .code yX0_init cX0_init 1 none :: ([.methodLink RX0 3 objectInit, .instanceMethod objectInit, .code objectInit ⟨#[0xb1]⟩ 1 none, .arrayClass .byte, .fieldLink RX0 9 "EventLineDesk" "ring" "[B", .fieldLink RX0 13 "EventLineDesk" "total" "I", .fieldLink RX0 17 "EventLineDesk" "taken" "I", .fieldLink RX0 20 "EventLineDesk" "endedLines" "I", .fieldLink RX0 23 "EventLineDesk" "openKind" "I", .fieldLink RX0 26 "EventLineDesk" "openStart" "I"] ++ wsX00)
def wsX0_bytesToOpen : List Cond := .code yX0_bytesToOpen cX0_bytesToOpen 1 (some .int) :: ([.fieldLink RX0 23 "EventLineDesk" "openKind" "I"] ++ wsX00)
def wsX0_hasRoomFor : List Cond := .code yX0_hasRoomFor cX0_hasRoomFor 2 (some .boolean) :: ([.fieldLink RX0 13 "EventLineDesk" "total" "I", .fieldLink RX0 17 "EventLineDesk" "taken" "I"] ++ wsX00)
def wsX0_put : List Cond := .code yX0_put cX0_put 3 none :: ([.fieldLink RX0 13 "EventLineDesk" "total" "I", .fieldLink RX0 9 "EventLineDesk" "ring" "[B"] ++ wsX00)
def wsX0_endLine : List Cond := .code yX0_endLine cX0_endLine 1 none :: ([.fieldLink RX0 20 "EventLineDesk" "endedLines" "I", .fieldLink RX0 23 "EventLineDesk" "openKind" "I", .methodLink RX0 75 yX0_put, .instanceMethod yX0_put, .selects RX0 yX0_put yX0_put, .initialized RX0, .code yX0_put cX0_put 3 none, .fieldLink RX0 13 "EventLineDesk" "total" "I", .fieldLink RX0 9 "EventLineDesk" "ring" "[B"] ++ wsX00)
def wsX0_firstByteOf : List Cond := .code yX0_firstByteOf cX0_firstByteOf 1 (some .int) :: ([])
def wsX0_openLine : List Cond := .code yX0_openLine cX0_openLine 2 none :: ([.fieldLink RX0 23 "EventLineDesk" "openKind" "I", .fieldLink RX0 13 "EventLineDesk" "total" "I", .fieldLink RX0 26 "EventLineDesk" "openStart" "I", .methodLink RX0 51 yX0_endLine, .instanceMethod yX0_endLine, .selects RX0 yX0_endLine yX0_endLine, .initialized RX0, .code yX0_endLine cX0_endLine 1 none, .fieldLink RX0 20 "EventLineDesk" "endedLines" "I", .methodLink RX0 75 yX0_put, .instanceMethod yX0_put, .selects RX0 yX0_put yX0_put, .code yX0_put cX0_put 3 none, .fieldLink RX0 9 "EventLineDesk" "ring" "[B", .methodLink RX0 72 yX0_firstByteOf, .static yX0_firstByteOf, .code yX0_firstByteOf cX0_firstByteOf 1 (some .int)] ++ wsX00)
def wsX0_begin_r1 : List Cond := [Cond.methodLink RX0 29 yX0_bytesToOpen, Cond.instanceMethod yX0_bytesToOpen, Cond.selects RX0 yX0_bytesToOpen yX0_bytesToOpen, Cond.initialized RX0, Cond.code yX0_bytesToOpen cX0_bytesToOpen 1 (some .int), Cond.fieldLink RX0 23 "EventLineDesk" "openKind" "I", Cond.methodLink RX0 33 yX0_hasRoomFor, Cond.instanceMethod yX0_hasRoomFor, Cond.selects RX0 yX0_hasRoomFor yX0_hasRoomFor, Cond.code yX0_hasRoomFor cX0_hasRoomFor 2 (some .boolean), Cond.fieldLink RX0 13 "EventLineDesk" "total" "I", Cond.fieldLink RX0 17 "EventLineDesk" "taken" "I", Cond.methodLink RX0 37 yX0_openLine, Cond.instanceMethod yX0_openLine, Cond.selects RX0 yX0_openLine yX0_openLine, Cond.code yX0_openLine cX0_openLine 2 none, Cond.fieldLink RX0 26 "EventLineDesk" "openStart" "I", Cond.methodLink RX0 51 yX0_endLine, Cond.instanceMethod yX0_endLine, Cond.selects RX0 yX0_endLine yX0_endLine, Cond.code yX0_endLine cX0_endLine 1 none, Cond.fieldLink RX0 20 "EventLineDesk" "endedLines" "I", Cond.methodLink RX0 75 yX0_put, Cond.instanceMethod yX0_put]
def wsX0_begin_r2 : List Cond := [Cond.selects RX0 yX0_put yX0_put, Cond.code yX0_put cX0_put 3 none, Cond.fieldLink RX0 9 "EventLineDesk" "ring" "[B", Cond.methodLink RX0 72 yX0_firstByteOf, Cond.static yX0_firstByteOf, Cond.code yX0_firstByteOf cX0_firstByteOf 1 (some .int)]
def wsX0_begin : List Cond := .code yX0_begin cX0_begin 2 (some .boolean) :: ((wsX0_begin_r1 ++ wsX0_begin_r2) ++ wsX00)
def wsX0_isCharacter : List Cond := .code yX0_isCharacter cX0_isCharacter 1 (some .boolean) :: ([.constant RX0 78 (55295), .constant RX0 79 (57344), .constant RX0 80 (1114111)])
def wsX0_escapedFormOf : List Cond := .code yX0_escapedFormOf cX0_escapedFormOf 1 (some .int) :: ([])
def wsX0_sizeOf : List Cond := .code yX0_sizeOf cX0_sizeOf 1 (some .int) :: ([.constant RX0 84 (65536), .methodLink RX0 81 yX0_escapedFormOf, .static yX0_escapedFormOf, .initialized RX0, .code yX0_escapedFormOf cX0_escapedFormOf 1 (some .int)])
def wsX0_putTail : List Cond := .code yX0_putTail cX0_putTail 2 none :: ([.methodLink RX0 75 yX0_put, .instanceMethod yX0_put, .selects RX0 yX0_put yX0_put, .initialized RX0, .code yX0_put cX0_put 3 none, .fieldLink RX0 13 "EventLineDesk" "total" "I", .fieldLink RX0 9 "EventLineDesk" "ring" "[B"] ++ wsX00)
def wsX0_putUtf8 : List Cond := .code yX0_putUtf8 cX0_putUtf8 2 none :: ([.constant RX0 84 (65536), .methodLink RX0 75 yX0_put, .instanceMethod yX0_put, .selects RX0 yX0_put yX0_put, .initialized RX0, .code yX0_put cX0_put 3 none, .fieldLink RX0 13 "EventLineDesk" "total" "I", .fieldLink RX0 9 "EventLineDesk" "ring" "[B", .methodLink RX0 88 yX0_putTail, .instanceMethod yX0_putTail, .selects RX0 yX0_putTail yX0_putTail, .code yX0_putTail cX0_putTail 2 none] ++ wsX00)
def wsX0_putCharacter : List Cond := .code yX0_putCharacter cX0_putCharacter 3 none :: ([.methodLink RX0 81 yX0_escapedFormOf, .static yX0_escapedFormOf, .initialized RX0, .code yX0_escapedFormOf cX0_escapedFormOf 1 (some .int), .methodLink RX0 75 yX0_put, .instanceMethod yX0_put, .selects RX0 yX0_put yX0_put, .code yX0_put cX0_put 3 none, .fieldLink RX0 13 "EventLineDesk" "total" "I", .fieldLink RX0 9 "EventLineDesk" "ring" "[B", .methodLink RX0 85 yX0_putUtf8, .instanceMethod yX0_putUtf8, .selects RX0 yX0_putUtf8 yX0_putUtf8, .code yX0_putUtf8 cX0_putUtf8 2 none, .constant RX0 84 (65536), .methodLink RX0 88 yX0_putTail, .instanceMethod yX0_putTail, .selects RX0 yX0_putTail yX0_putTail, .code yX0_putTail cX0_putTail 2 none] ++ wsX00)
def wsX0_add_r1 : List Cond := [Cond.fieldLink RX0 23 "EventLineDesk" "openKind" "I", Cond.methodLink RX0 41 yX0_isCharacter, Cond.static yX0_isCharacter, Cond.initialized RX0, Cond.code yX0_isCharacter cX0_isCharacter 1 (some .boolean), Cond.constant RX0 78 (55295), Cond.constant RX0 79 (57344), Cond.constant RX0 80 (1114111), Cond.methodLink RX0 44 yX0_sizeOf, Cond.static yX0_sizeOf, Cond.code yX0_sizeOf cX0_sizeOf 1 (some .int), Cond.constant RX0 84 (65536), Cond.methodLink RX0 81 yX0_escapedFormOf, Cond.static yX0_escapedFormOf, Cond.code yX0_escapedFormOf cX0_escapedFormOf 1 (some .int), Cond.methodLink RX0 33 yX0_hasRoomFor, Cond.instanceMethod yX0_hasRoomFor, Cond.selects RX0 yX0_hasRoomFor yX0_hasRoomFor, Cond.code yX0_hasRoomFor cX0_hasRoomFor 2 (some .boolean), Cond.fieldLink RX0 13 "EventLineDesk" "total" "I", Cond.fieldLink RX0 17 "EventLineDesk" "taken" "I", Cond.methodLink RX0 48 yX0_putCharacter, Cond.instanceMethod yX0_putCharacter, Cond.selects RX0 yX0_putCharacter yX0_putCharacter]
def wsX0_add_r2 : List Cond := [Cond.code yX0_putCharacter cX0_putCharacter 3 none, Cond.methodLink RX0 75 yX0_put, Cond.instanceMethod yX0_put, Cond.selects RX0 yX0_put yX0_put, Cond.code yX0_put cX0_put 3 none, Cond.fieldLink RX0 9 "EventLineDesk" "ring" "[B", Cond.methodLink RX0 85 yX0_putUtf8, Cond.instanceMethod yX0_putUtf8, Cond.selects RX0 yX0_putUtf8 yX0_putUtf8, Cond.code yX0_putUtf8 cX0_putUtf8 2 none, Cond.methodLink RX0 88 yX0_putTail, Cond.instanceMethod yX0_putTail, Cond.selects RX0 yX0_putTail yX0_putTail, Cond.code yX0_putTail cX0_putTail 2 none]
def wsX0_add : List Cond := .code yX0_add cX0_add 2 (some .boolean) :: ((wsX0_add_r1 ++ wsX0_add_r2) ++ wsX00)
def wsX0_text_r1 : List Cond := [Cond.fieldLink RX0 23 "EventLineDesk" "openKind" "I", Cond.methodLink RX0 41 yX0_isCharacter, Cond.static yX0_isCharacter, Cond.initialized RX0, Cond.code yX0_isCharacter cX0_isCharacter 1 (some .boolean), Cond.constant RX0 78 (55295), Cond.constant RX0 79 (57344), Cond.constant RX0 80 (1114111), Cond.methodLink RX0 29 yX0_bytesToOpen, Cond.instanceMethod yX0_bytesToOpen, Cond.selects RX0 yX0_bytesToOpen yX0_bytesToOpen, Cond.code yX0_bytesToOpen cX0_bytesToOpen 1 (some .int), Cond.methodLink RX0 44 yX0_sizeOf, Cond.static yX0_sizeOf, Cond.code yX0_sizeOf cX0_sizeOf 1 (some .int), Cond.constant RX0 84 (65536), Cond.methodLink RX0 81 yX0_escapedFormOf, Cond.static yX0_escapedFormOf, Cond.code yX0_escapedFormOf cX0_escapedFormOf 1 (some .int), Cond.methodLink RX0 33 yX0_hasRoomFor, Cond.instanceMethod yX0_hasRoomFor, Cond.selects RX0 yX0_hasRoomFor yX0_hasRoomFor, Cond.code yX0_hasRoomFor cX0_hasRoomFor 2 (some .boolean), Cond.fieldLink RX0 13 "EventLineDesk" "total" "I"]
def wsX0_text_r2 : List Cond := [Cond.fieldLink RX0 17 "EventLineDesk" "taken" "I", Cond.methodLink RX0 37 yX0_openLine, Cond.instanceMethod yX0_openLine, Cond.selects RX0 yX0_openLine yX0_openLine, Cond.code yX0_openLine cX0_openLine 2 none, Cond.fieldLink RX0 26 "EventLineDesk" "openStart" "I", Cond.methodLink RX0 51 yX0_endLine, Cond.instanceMethod yX0_endLine, Cond.selects RX0 yX0_endLine yX0_endLine, Cond.code yX0_endLine cX0_endLine 1 none, Cond.fieldLink RX0 20 "EventLineDesk" "endedLines" "I", Cond.methodLink RX0 75 yX0_put, Cond.instanceMethod yX0_put, Cond.selects RX0 yX0_put yX0_put, Cond.code yX0_put cX0_put 3 none, Cond.fieldLink RX0 9 "EventLineDesk" "ring" "[B", Cond.methodLink RX0 72 yX0_firstByteOf, Cond.static yX0_firstByteOf, Cond.code yX0_firstByteOf cX0_firstByteOf 1 (some .int), Cond.methodLink RX0 48 yX0_putCharacter, Cond.instanceMethod yX0_putCharacter, Cond.selects RX0 yX0_putCharacter yX0_putCharacter, Cond.code yX0_putCharacter cX0_putCharacter 3 none, Cond.methodLink RX0 85 yX0_putUtf8]
def wsX0_text_r3 : List Cond := [Cond.instanceMethod yX0_putUtf8, Cond.selects RX0 yX0_putUtf8 yX0_putUtf8, Cond.code yX0_putUtf8 cX0_putUtf8 2 none, Cond.methodLink RX0 88 yX0_putTail, Cond.instanceMethod yX0_putTail, Cond.selects RX0 yX0_putTail yX0_putTail, Cond.code yX0_putTail cX0_putTail 2 none]
def wsX0_text : List Cond := .code yX0_text cX0_text 3 (some .boolean) :: ((wsX0_text_r1 ++ (wsX0_text_r2 ++ wsX0_text_r3)) ++ wsX00)
def wsX0_end : List Cond := .code yX0_end cX0_end 2 (some .int) :: ([.fieldLink RX0 23 "EventLineDesk" "openKind" "I", .methodLink RX0 51 yX0_endLine, .instanceMethod yX0_endLine, .selects RX0 yX0_endLine yX0_endLine, .initialized RX0, .code yX0_endLine cX0_endLine 1 none, .fieldLink RX0 20 "EventLineDesk" "endedLines" "I", .methodLink RX0 75 yX0_put, .instanceMethod yX0_put, .selects RX0 yX0_put yX0_put, .code yX0_put cX0_put 3 none, .fieldLink RX0 13 "EventLineDesk" "total" "I", .fieldLink RX0 9 "EventLineDesk" "ring" "[B"] ++ wsX00)
def wsX0_byteAt : List Cond := .code yX0_byteAt cX0_byteAt 3 (some .int) :: ([.fieldLink RX0 9 "EventLineDesk" "ring" "[B"] ++ wsX00)
def wsX0_isBetweenLines : List Cond := .code yX0_isBetweenLines cX0_isBetweenLines 2 (some .boolean) :: ([.methodLink RX0 69 yX0_byteAt, .instanceMethod yX0_byteAt, .selects RX0 yX0_byteAt yX0_byteAt, .initialized RX0, .code yX0_byteAt cX0_byteAt 3 (some .int), .fieldLink RX0 9 "EventLineDesk" "ring" "[B"] ++ wsX00)
def wsX0_lineEndsFrom : List Cond := .code yX0_lineEndsFrom cX0_lineEndsFrom 4 (some .int) :: ([.fieldLink RX0 13 "EventLineDesk" "total" "I", .methodLink RX0 69 yX0_byteAt, .instanceMethod yX0_byteAt, .selects RX0 yX0_byteAt yX0_byteAt, .initialized RX0, .code yX0_byteAt cX0_byteAt 3 (some .int), .fieldLink RX0 9 "EventLineDesk" "ring" "[B"] ++ wsX00)
def wsX0_back : List Cond := .code yX0_back cX0_back 2 (some .boolean) :: ([.fieldLink RX0 17 "EventLineDesk" "taken" "I", .fieldLink RX0 13 "EventLineDesk" "total" "I", .fieldLink RX0 20 "EventLineDesk" "endedLines" "I", .fieldLink RX0 23 "EventLineDesk" "openKind" "I", .methodLink RX0 54 yX0_isBetweenLines, .instanceMethod yX0_isBetweenLines, .selects RX0 yX0_isBetweenLines yX0_isBetweenLines, .initialized RX0, .code yX0_isBetweenLines cX0_isBetweenLines 2 (some .boolean), .methodLink RX0 69 yX0_byteAt, .instanceMethod yX0_byteAt, .selects RX0 yX0_byteAt yX0_byteAt, .code yX0_byteAt cX0_byteAt 3 (some .int), .fieldLink RX0 9 "EventLineDesk" "ring" "[B", .methodLink RX0 57 yX0_lineEndsFrom, .instanceMethod yX0_lineEndsFrom, .selects RX0 yX0_lineEndsFrom yX0_lineEndsFrom, .code yX0_lineEndsFrom cX0_lineEndsFrom 4 (some .int)] ++ wsX00)
def wsX0_mark : List Cond := .code yX0_mark cX0_mark 1 (some .int) :: ([.fieldLink RX0 23 "EventLineDesk" "openKind" "I", .fieldLink RX0 13 "EventLineDesk" "total" "I"] ++ wsX00)
def wsX0_endOfEndedLines : List Cond := .code yX0_endOfEndedLines cX0_endOfEndedLines 1 (some .int) :: ([.fieldLink RX0 23 "EventLineDesk" "openKind" "I", .fieldLink RX0 13 "EventLineDesk" "total" "I", .fieldLink RX0 26 "EventLineDesk" "openStart" "I"] ++ wsX00)
def wsX0_take : List Cond := .code yX0_take cX0_take 5 (some .long) :: ([.fieldLink RX0 17 "EventLineDesk" "taken" "I", .methodLink RX0 63 Lib.Math.min.name, .static Lib.Math.min.name, .initialized "java/lang/Math", .code Lib.Math.min.name Lib.Math.min.code 2 (some .int), .methodLink RX0 60 yX0_endOfEndedLines, .instanceMethod yX0_endOfEndedLines, .selects RX0 yX0_endOfEndedLines yX0_endOfEndedLines, .initialized RX0, .code yX0_endOfEndedLines cX0_endOfEndedLines 1 (some .int), .fieldLink RX0 23 "EventLineDesk" "openKind" "I", .fieldLink RX0 13 "EventLineDesk" "total" "I", .fieldLink RX0 26 "EventLineDesk" "openStart" "I", .methodLink RX0 69 yX0_byteAt, .instanceMethod yX0_byteAt, .selects RX0 yX0_byteAt yX0_byteAt, .code yX0_byteAt cX0_byteAt 3 (some .int), .fieldLink RX0 9 "EventLineDesk" "ring" "[B"] ++ wsX00)
def wsX0_count : List Cond := .code yX0_count cX0_count 2 (some .int) :: ([.fieldLink RX0 13 "EventLineDesk" "total" "I", .fieldLink RX0 17 "EventLineDesk" "taken" "I", .fieldLink RX0 20 "EventLineDesk" "endedLines" "I", .fieldLink RX0 23 "EventLineDesk" "openKind" "I", .methodLink RX0 60 yX0_endOfEndedLines, .instanceMethod yX0_endOfEndedLines, .selects RX0 yX0_endOfEndedLines yX0_endOfEndedLines, .initialized RX0, .code yX0_endOfEndedLines cX0_endOfEndedLines 1 (some .int), .fieldLink RX0 26 "EventLineDesk" "openStart" "I"] ++ wsX00)
def wsX1_init : List Cond := .code yX1_init cX1_init 1 none :: ([.methodLink RX1 1 objectInit, .instanceMethod objectInit, .code objectInit ⟨#[0xb1]⟩ 1 none, .arrayClass .int, .fieldLink RX1 7 "EventLineDeskModel" "row" "[I", .fieldLink RX1 13 "EventLineDeskModel" "kind" "I", .fieldLink RX1 17 "EventLineDeskModel" "last" "I", .fieldLink RX1 20 "EventLineDeskModel" "bytes" "[I"] ++ wsX10)
def wsX1_put : List Cond := .code yX1_put cX1_put 2 none :: ([.fieldLink RX1 7 "EventLineDeskModel" "row" "[I", .fieldLink RX1 23 "EventLineDeskModel" "size" "I", .fieldLink RX1 26 "EventLineDeskModel" "open" "I"] ++ wsX10)
def wsX1_code : List Cond := .code yX1_code cX1_code 4 (some .boolean) :: ([.constant RX1 29 (1114111), .constant RX1 30 (55296), .constant RX1 31 (57344), .constant RX1 32 (65536), .fieldLink RX1 33 "EventLineDeskModel" "many" "I", .fieldLink RX1 20 "EventLineDeskModel" "bytes" "[I"] ++ wsX10)
def wsX1_close : List Cond := .code yX1_close cX1_close 1 none :: ([.fieldLink RX1 7 "EventLineDeskModel" "row" "[I", .fieldLink RX1 23 "EventLineDeskModel" "size" "I", .fieldLink RX1 26 "EventLineDeskModel" "open" "I", .fieldLink RX1 13 "EventLineDeskModel" "kind" "I"] ++ wsX10)
def wsX1_start : List Cond := .code yX1_start cX1_start 2 none :: ([.fieldLink RX1 13 "EventLineDeskModel" "kind" "I", .methodLink RX1 36 yX1_close, .instanceMethod yX1_close, .selects RX1 yX1_close yX1_close, .initialized RX1, .code yX1_close cX1_close 1 none, .fieldLink RX1 7 "EventLineDeskModel" "row" "[I", .fieldLink RX1 23 "EventLineDeskModel" "size" "I", .fieldLink RX1 26 "EventLineDeskModel" "open" "I", .methodLink RX1 39 yX1_put, .instanceMethod yX1_put, .selects RX1 yX1_put yX1_put, .code yX1_put cX1_put 2 none] ++ wsX10)
def wsX1_begin : List Cond := .code yX1_begin cX1_begin 2 (some .boolean) :: ([.fieldLink RX1 23 "EventLineDeskModel" "size" "I", .fieldLink RX1 13 "EventLineDeskModel" "kind" "I", .methodLink RX1 43 yX1_start, .instanceMethod yX1_start, .selects RX1 yX1_start yX1_start, .initialized RX1, .code yX1_start cX1_start 2 none, .methodLink RX1 36 yX1_close, .instanceMethod yX1_close, .selects RX1 yX1_close yX1_close, .code yX1_close cX1_close 1 none, .fieldLink RX1 7 "EventLineDeskModel" "row" "[I", .fieldLink RX1 26 "EventLineDeskModel" "open" "I", .methodLink RX1 39 yX1_put, .instanceMethod yX1_put, .selects RX1 yX1_put yX1_put, .code yX1_put cX1_put 2 none] ++ wsX10)
def wsX1_add : List Cond := .code yX1_add cX1_add 3 (some .boolean) :: ([.fieldLink RX1 13 "EventLineDeskModel" "kind" "I", .fieldLink RX1 23 "EventLineDeskModel" "size" "I", .fieldLink RX1 33 "EventLineDeskModel" "many" "I", .fieldLink RX1 20 "EventLineDeskModel" "bytes" "[I", .methodLink RX1 46 yX1_code, .instanceMethod yX1_code, .selects RX1 yX1_code yX1_code, .initialized RX1, .code yX1_code cX1_code 4 (some .boolean), .constant RX1 29 (1114111), .constant RX1 30 (55296), .constant RX1 31 (57344), .constant RX1 32 (65536), .methodLink RX1 39 yX1_put, .instanceMethod yX1_put, .selects RX1 yX1_put yX1_put, .code yX1_put cX1_put 2 none, .fieldLink RX1 7 "EventLineDeskModel" "row" "[I", .fieldLink RX1 26 "EventLineDeskModel" "open" "I"] ++ wsX10)
def wsX1_text_r1 : List Cond := [Cond.fieldLink RX1 13 "EventLineDeskModel" "kind" "I", Cond.fieldLink RX1 23 "EventLineDeskModel" "size" "I", Cond.fieldLink RX1 33 "EventLineDeskModel" "many" "I", Cond.fieldLink RX1 20 "EventLineDeskModel" "bytes" "[I", Cond.methodLink RX1 46 yX1_code, Cond.instanceMethod yX1_code, Cond.selects RX1 yX1_code yX1_code, Cond.initialized RX1, Cond.code yX1_code cX1_code 4 (some .boolean), Cond.constant RX1 29 (1114111), Cond.constant RX1 30 (55296), Cond.constant RX1 31 (57344), Cond.constant RX1 32 (65536), Cond.methodLink RX1 43 yX1_start, Cond.instanceMethod yX1_start, Cond.selects RX1 yX1_start yX1_start, Cond.code yX1_start cX1_start 2 none, Cond.methodLink RX1 36 yX1_close, Cond.instanceMethod yX1_close, Cond.selects RX1 yX1_close yX1_close, Cond.code yX1_close cX1_close 1 none, Cond.fieldLink RX1 7 "EventLineDeskModel" "row" "[I", Cond.fieldLink RX1 26 "EventLineDeskModel" "open" "I", Cond.methodLink RX1 39 yX1_put]
def wsX1_text_r2 : List Cond := [Cond.instanceMethod yX1_put, Cond.selects RX1 yX1_put yX1_put, Cond.code yX1_put cX1_put 2 none]
def wsX1_text : List Cond := .code yX1_text cX1_text 4 (some .boolean) :: ((wsX1_text_r1 ++ wsX1_text_r2) ++ wsX10)
def wsX1_end : List Cond := .code yX1_end cX1_end 2 (some .int) :: ([.fieldLink RX1 13 "EventLineDeskModel" "kind" "I", .methodLink RX1 36 yX1_close, .instanceMethod yX1_close, .selects RX1 yX1_close yX1_close, .initialized RX1, .code yX1_close cX1_close 1 none, .fieldLink RX1 7 "EventLineDeskModel" "row" "[I", .fieldLink RX1 23 "EventLineDeskModel" "size" "I", .fieldLink RX1 26 "EventLineDeskModel" "open" "I"] ++ wsX10)
def wsX1_back : List Cond := .code yX1_back cX1_back 4 (some .boolean) :: ([.fieldLink RX1 50 "EventLineDeskModel" "taken" "I", .fieldLink RX1 23 "EventLineDeskModel" "size" "I", .fieldLink RX1 7 "EventLineDeskModel" "row" "[I", .fieldLink RX1 17 "EventLineDeskModel" "last" "I", .fieldLink RX1 26 "EventLineDeskModel" "open" "I", .fieldLink RX1 13 "EventLineDeskModel" "kind" "I"] ++ wsX10)
def wsX1_mark : List Cond := .code yX1_mark cX1_mark 1 (some .int) :: ([.fieldLink RX1 13 "EventLineDeskModel" "kind" "I", .fieldLink RX1 50 "EventLineDeskModel" "taken" "I", .fieldLink RX1 23 "EventLineDeskModel" "size" "I"] ++ wsX10)
def wsX1_take : List Cond := .code yX1_take cX1_take 5 (some .long) :: ([.fieldLink RX1 23 "EventLineDeskModel" "size" "I", .fieldLink RX1 26 "EventLineDeskModel" "open" "I", .fieldLink RX1 7 "EventLineDeskModel" "row" "[I", .fieldLink RX1 53 "EventLineDeskModel" "lines" "I", .fieldLink RX1 17 "EventLineDeskModel" "last" "I", .fieldLink RX1 50 "EventLineDeskModel" "taken" "I"] ++ wsX10)
def wsX1_count : List Cond := .code yX1_count cX1_count 4 (some .int) :: ([.fieldLink RX1 23 "EventLineDeskModel" "size" "I", .fieldLink RX1 13 "EventLineDeskModel" "kind" "I", .fieldLink RX1 26 "EventLineDeskModel" "open" "I", .fieldLink RX1 53 "EventLineDeskModel" "lines" "I", .fieldLink RX1 7 "EventLineDeskModel" "row" "[I"] ++ wsX10)
def wsJ9_min_7cf53 : List Cond := .code yJ9_min_7cf53 cJ9_min_7cf53 2 (some .int) :: ([])
def wsL_law_r1 : List Cond := [Cond.classLink RL 7 RX0, Cond.instantiable RX0 6, Cond.initialized RX0, Cond.classLink RL 10 RX1, Cond.instantiable RX1 9, Cond.initialized RX1, Cond.methodLink RL 9 yX0_init, Cond.instanceMethod yX0_init, Cond.code yX0_init cX0_init 1 none, Cond.methodLink RX0 3 objectInit, Cond.instanceMethod objectInit, Cond.code objectInit ⟨#[0xb1]⟩ 1 none, Cond.arrayClass .byte, Cond.fieldLink RX0 9 "EventLineDesk" "ring" "[B", Cond.fieldLink RX0 13 "EventLineDesk" "total" "I", Cond.fieldLink RX0 17 "EventLineDesk" "taken" "I", Cond.fieldLink RX0 20 "EventLineDesk" "endedLines" "I", Cond.fieldLink RX0 23 "EventLineDesk" "openKind" "I", Cond.fieldLink RX0 26 "EventLineDesk" "openStart" "I", Cond.methodLink RL 12 yX1_init, Cond.instanceMethod yX1_init, Cond.code yX1_init cX1_init 1 none, Cond.methodLink RX1 1 objectInit, Cond.arrayClass .int]
def wsL_law_r2 : List Cond := [Cond.fieldLink RX1 7 "EventLineDeskModel" "row" "[I", Cond.fieldLink RX1 13 "EventLineDeskModel" "kind" "I", Cond.fieldLink RX1 17 "EventLineDeskModel" "last" "I", Cond.fieldLink RX1 20 "EventLineDeskModel" "bytes" "[I", Cond.methodLink RL 13 yX0_begin, Cond.instanceMethod yX0_begin, Cond.selects RX0 yX0_begin yX0_begin, Cond.code yX0_begin cX0_begin 2 (some .boolean), Cond.methodLink RX0 29 yX0_bytesToOpen, Cond.instanceMethod yX0_bytesToOpen, Cond.selects RX0 yX0_bytesToOpen yX0_bytesToOpen, Cond.code yX0_bytesToOpen cX0_bytesToOpen 1 (some .int), Cond.methodLink RX0 33 yX0_hasRoomFor, Cond.instanceMethod yX0_hasRoomFor, Cond.selects RX0 yX0_hasRoomFor yX0_hasRoomFor, Cond.code yX0_hasRoomFor cX0_hasRoomFor 2 (some .boolean), Cond.methodLink RX0 37 yX0_openLine, Cond.instanceMethod yX0_openLine, Cond.selects RX0 yX0_openLine yX0_openLine, Cond.code yX0_openLine cX0_openLine 2 none, Cond.methodLink RX0 51 yX0_endLine, Cond.instanceMethod yX0_endLine, Cond.selects RX0 yX0_endLine yX0_endLine, Cond.code yX0_endLine cX0_endLine 1 none]
def wsL_law_r3 : List Cond := [Cond.methodLink RX0 75 yX0_put, Cond.instanceMethod yX0_put, Cond.selects RX0 yX0_put yX0_put, Cond.code yX0_put cX0_put 3 none, Cond.methodLink RX0 72 yX0_firstByteOf, Cond.static yX0_firstByteOf, Cond.code yX0_firstByteOf cX0_firstByteOf 1 (some .int), Cond.methodLink RL 17 yX1_begin, Cond.instanceMethod yX1_begin, Cond.selects RX1 yX1_begin yX1_begin, Cond.code yX1_begin cX1_begin 2 (some .boolean), Cond.fieldLink RX1 23 "EventLineDeskModel" "size" "I", Cond.methodLink RX1 43 yX1_start, Cond.instanceMethod yX1_start, Cond.selects RX1 yX1_start yX1_start, Cond.code yX1_start cX1_start 2 none, Cond.methodLink RX1 36 yX1_close, Cond.instanceMethod yX1_close, Cond.selects RX1 yX1_close yX1_close, Cond.code yX1_close cX1_close 1 none, Cond.fieldLink RX1 26 "EventLineDeskModel" "open" "I", Cond.methodLink RX1 39 yX1_put, Cond.instanceMethod yX1_put, Cond.selects RX1 yX1_put yX1_put]
def wsL_law_r4 : List Cond := [Cond.code yX1_put cX1_put 2 none, Cond.methodLink RL 18 yX0_add, Cond.instanceMethod yX0_add, Cond.selects RX0 yX0_add yX0_add, Cond.code yX0_add cX0_add 2 (some .boolean), Cond.methodLink RX0 41 yX0_isCharacter, Cond.static yX0_isCharacter, Cond.code yX0_isCharacter cX0_isCharacter 1 (some .boolean), Cond.constant RX0 78 (55295), Cond.constant RX0 79 (57344), Cond.constant RX0 80 (1114111), Cond.methodLink RX0 44 yX0_sizeOf, Cond.static yX0_sizeOf, Cond.code yX0_sizeOf cX0_sizeOf 1 (some .int), Cond.constant RX0 84 (65536), Cond.methodLink RX0 81 yX0_escapedFormOf, Cond.static yX0_escapedFormOf, Cond.code yX0_escapedFormOf cX0_escapedFormOf 1 (some .int), Cond.methodLink RX0 48 yX0_putCharacter, Cond.instanceMethod yX0_putCharacter, Cond.selects RX0 yX0_putCharacter yX0_putCharacter, Cond.code yX0_putCharacter cX0_putCharacter 3 none, Cond.methodLink RX0 85 yX0_putUtf8, Cond.instanceMethod yX0_putUtf8]
def wsL_law_r5 : List Cond := [Cond.selects RX0 yX0_putUtf8 yX0_putUtf8, Cond.code yX0_putUtf8 cX0_putUtf8 2 none, Cond.methodLink RX0 88 yX0_putTail, Cond.instanceMethod yX0_putTail, Cond.selects RX0 yX0_putTail yX0_putTail, Cond.code yX0_putTail cX0_putTail 2 none, Cond.methodLink RL 21 yX1_add, Cond.instanceMethod yX1_add, Cond.selects RX1 yX1_add yX1_add, Cond.code yX1_add cX1_add 3 (some .boolean), Cond.fieldLink RX1 33 "EventLineDeskModel" "many" "I", Cond.methodLink RX1 46 yX1_code, Cond.instanceMethod yX1_code, Cond.selects RX1 yX1_code yX1_code, Cond.code yX1_code cX1_code 4 (some .boolean), Cond.constant RX1 29 (1114111), Cond.constant RX1 30 (55296), Cond.constant RX1 31 (57344), Cond.constant RX1 32 (65536), Cond.methodLink RL 22 yX0_text, Cond.instanceMethod yX0_text, Cond.selects RX0 yX0_text yX0_text, Cond.code yX0_text cX0_text 3 (some .boolean), Cond.methodLink RL 25 yX1_text]
def wsL_law_r6 : List Cond := [Cond.instanceMethod yX1_text, Cond.selects RX1 yX1_text yX1_text, Cond.code yX1_text cX1_text 4 (some .boolean), Cond.methodLink RL 26 yX0_end, Cond.instanceMethod yX0_end, Cond.selects RX0 yX0_end yX0_end, Cond.code yX0_end cX0_end 2 (some .int), Cond.methodLink RL 30 yX1_end, Cond.instanceMethod yX1_end, Cond.selects RX1 yX1_end yX1_end, Cond.code yX1_end cX1_end 2 (some .int), Cond.methodLink RL 31 yX0_back, Cond.instanceMethod yX0_back, Cond.selects RX0 yX0_back yX0_back, Cond.code yX0_back cX0_back 2 (some .boolean), Cond.methodLink RX0 54 yX0_isBetweenLines, Cond.instanceMethod yX0_isBetweenLines, Cond.selects RX0 yX0_isBetweenLines yX0_isBetweenLines, Cond.code yX0_isBetweenLines cX0_isBetweenLines 2 (some .boolean), Cond.methodLink RX0 69 yX0_byteAt, Cond.instanceMethod yX0_byteAt, Cond.selects RX0 yX0_byteAt yX0_byteAt, Cond.code yX0_byteAt cX0_byteAt 3 (some .int), Cond.methodLink RX0 57 yX0_lineEndsFrom]
def wsL_law_r7 : List Cond := [Cond.instanceMethod yX0_lineEndsFrom, Cond.selects RX0 yX0_lineEndsFrom yX0_lineEndsFrom, Cond.code yX0_lineEndsFrom cX0_lineEndsFrom 4 (some .int), Cond.methodLink RL 34 yX1_back, Cond.instanceMethod yX1_back, Cond.selects RX1 yX1_back yX1_back, Cond.code yX1_back cX1_back 4 (some .boolean), Cond.fieldLink RX1 50 "EventLineDeskModel" "taken" "I", Cond.methodLink RL 35 yX0_mark, Cond.instanceMethod yX0_mark, Cond.selects RX0 yX0_mark yX0_mark, Cond.code yX0_mark cX0_mark 1 (some .int), Cond.methodLink RL 38 yX1_mark, Cond.instanceMethod yX1_mark, Cond.selects RX1 yX1_mark yX1_mark, Cond.code yX1_mark cX1_mark 1 (some .int), Cond.methodLink RL 39 yX0_take, Cond.instanceMethod yX0_take, Cond.selects RX0 yX0_take yX0_take, Cond.code yX0_take cX0_take 5 (some .long), Cond.methodLink RX0 63 Lib.Math.min.name, Cond.static Lib.Math.min.name, Cond.initialized "java/lang/Math", Cond.code Lib.Math.min.name Lib.Math.min.code 2 (some .int)]
def wsL_law_r8 : List Cond := [Cond.methodLink RX0 60 yX0_endOfEndedLines, Cond.instanceMethod yX0_endOfEndedLines, Cond.selects RX0 yX0_endOfEndedLines yX0_endOfEndedLines, Cond.code yX0_endOfEndedLines cX0_endOfEndedLines 1 (some .int), Cond.methodLink RL 43 yX1_take, Cond.instanceMethod yX1_take, Cond.selects RX1 yX1_take yX1_take, Cond.code yX1_take cX1_take 5 (some .long), Cond.fieldLink RX1 53 "EventLineDeskModel" "lines" "I", Cond.methodLink RL 44 yX0_count, Cond.instanceMethod yX0_count, Cond.selects RX0 yX0_count yX0_count, Cond.code yX0_count cX0_count 2 (some .int), Cond.methodLink RL 48 yX1_count, Cond.instanceMethod yX1_count, Cond.selects RX1 yX1_count yX1_count, Cond.code yX1_count cX1_count 4 (some .int)]
def wsL_law : List Cond := (wsL_law_r1 ++ (wsL_law_r2 ++ (wsL_law_r3 ++ (wsL_law_r4 ++ (wsL_law_r5 ++ (wsL_law_r6 ++ (wsL_law_r7 ++ wsL_law_r8))))))) ++ wsX00 ++ wsX10 ++ ([] : List Cond)
set_option maxRecDepth 20000 in
theorem wsL_law_in : ∀ w ∈ wsL_law, w ∈ lw_tbl := fun w h => (goodIn_p wsL_law [24, 27, 151, 51, 55, 59, 63, 67, 71, 74, 185, 189, 193, 197, 78, 81, 87, 90, 95, 99, 103, 201, 205, 107, 213, 111, 217, 115, 119, 123, 127, 221, 131, 225, 135, 142, 139, 229, 146, 233] (by decide +kernel) (by decide +kernel) w h).1
theorem inlX0 : ∀ w ∈ wsX00, w ∈ wsL_law := fun _ h => List.mem_append_left _ (List.mem_append_left _ (List.mem_append_right _ h))
theorem inX0 : ∀ w ∈ wsX00, w ∈ lw_tbl := fun w h => wsL_law_in w (inlX0 w h)
theorem inlX1 : ∀ w ∈ wsX10, w ∈ wsL_law := fun _ h => List.mem_append_left _ (List.mem_append_right _ h)
theorem inX1 : ∀ w ∈ wsX10, w ∈ lw_tbl := fun w h => wsL_law_in w (inlX1 w h)
theorem inJ9 : ∀ w ∈ wsJ90, w ∈ lw_tbl := by decide +kernel
theorem dX0_init_0 : decode cX0_init 0 = .ok (.aload_n 0, 1) := by decide +kernel
theorem dX0_init_1 : decode cX0_init 1 = .ok (.invokespecial 3, 3) := by decide +kernel
theorem dX0_init_4 : decode cX0_init 4 = .ok (.aload_n 0, 1) := by decide +kernel
theorem dX0_init_5 : decode cX0_init 5 = .ok (.sipush 4096, 3) := by decide +kernel
theorem dX0_init_8 : decode cX0_init 8 = .ok (.newarray .byte, 2) := by decide +kernel
theorem dX0_init_10 : decode cX0_init 10 = .ok (.putfield 9, 3) := by decide +kernel
theorem dX0_init_13 : decode cX0_init 13 = .ok (.aload_n 0, 1) := by decide +kernel
theorem dX0_init_14 : decode cX0_init 14 = .ok (.iconst 0, 1) := by decide +kernel
theorem dX0_init_15 : decode cX0_init 15 = .ok (.putfield 13, 3) := by decide +kernel
theorem dX0_init_18 : decode cX0_init 18 = .ok (.aload_n 0, 1) := by decide +kernel
theorem dX0_init_19 : decode cX0_init 19 = .ok (.iconst 0, 1) := by decide +kernel
theorem dX0_init_20 : decode cX0_init 20 = .ok (.putfield 17, 3) := by decide +kernel
theorem dX0_init_23 : decode cX0_init 23 = .ok (.aload_n 0, 1) := by decide +kernel
theorem dX0_init_24 : decode cX0_init 24 = .ok (.iconst 0, 1) := by decide +kernel
theorem dX0_init_25 : decode cX0_init 25 = .ok (.putfield 20, 3) := by decide +kernel
theorem dX0_init_28 : decode cX0_init 28 = .ok (.aload_n 0, 1) := by decide +kernel
theorem dX0_init_29 : decode cX0_init 29 = .ok (.iconst (-1), 1) := by decide +kernel
theorem dX0_init_30 : decode cX0_init 30 = .ok (.putfield 23, 3) := by decide +kernel
theorem dX0_init_33 : decode cX0_init 33 = .ok (.aload_n 0, 1) := by decide +kernel
theorem dX0_init_34 : decode cX0_init 34 = .ok (.iconst 0, 1) := by decide +kernel
theorem dX0_init_35 : decode cX0_init 35 = .ok (.putfield 26, 3) := by decide +kernel
theorem dX0_init_38 : decode cX0_init 38 = .ok (.return_, 1) := by decide +kernel
set_option maxRecDepth 20000 in
theorem ggX0_begin_X0_bytesToOpen : GoodIn wsX0_begin wsX0_bytesToOpen := goodIn_r _ [5, 6, 31, 32, 33, 34, 35, 36] (by decide +kernel) (by decide +kernel)
set_option maxRecDepth 20000 in
theorem gX0_begin_X0_bytesToOpen : GoodIn wsX0_begin (wsV RX0 29 RX0 yX0_bytesToOpen wsX0_bytesToOpen) := goodIn_app (goodIn_of _ (by decide +kernel)) ggX0_begin_X0_bytesToOpen
set_option maxRecDepth 20000 in
theorem ggX0_begin_X0_hasRoomFor : GoodIn wsX0_begin wsX0_hasRoomFor := goodIn_r _ [10, 11, 12, 31, 32, 33, 34, 35, 36] (by decide +kernel) (by decide +kernel)
set_option maxRecDepth 20000 in
theorem gX0_begin_X0_hasRoomFor : GoodIn wsX0_begin (wsV RX0 33 RX0 yX0_hasRoomFor wsX0_hasRoomFor) := goodIn_app (goodIn_of _ (by decide +kernel)) ggX0_begin_X0_hasRoomFor
set_option maxRecDepth 20000 in
theorem ggX0_begin_X0_openLine : GoodIn wsX0_begin wsX0_openLine := goodIn_r _ [16, 6, 11, 17, 18, 19, 20, 4, 21, 22, 23, 24, 25, 26, 27, 28, 29, 30, 31, 32, 33, 34, 35, 36] (by decide +kernel) (by decide +kernel)
set_option maxRecDepth 20000 in
theorem gX0_begin_X0_openLine : GoodIn wsX0_begin (wsV RX0 37 RX0 yX0_openLine wsX0_openLine) := goodIn_app (goodIn_of _ (by decide +kernel)) ggX0_begin_X0_openLine
theorem dX0_begin_0 : decode cX0_begin 0 = .ok (.iload_n 1, 1) := by decide +kernel
theorem dX0_begin_1 : decode cX0_begin 1 = .ok (.ifCond .lt 19, 3) := by decide +kernel
theorem dX0_begin_4 : decode cX0_begin 4 = .ok (.iload_n 1, 1) := by decide +kernel
theorem dX0_begin_5 : decode cX0_begin 5 = .ok (.iconst 3, 1) := by decide +kernel
theorem dX0_begin_6 : decode cX0_begin 6 = .ok (.if_icmp .gt 14, 3) := by decide +kernel
theorem dX0_begin_9 : decode cX0_begin 9 = .ok (.aload_n 0, 1) := by decide +kernel
theorem dX0_begin_10 : decode cX0_begin 10 = .ok (.aload_n 0, 1) := by decide +kernel
theorem dX0_begin_11 : decode cX0_begin 11 = .ok (.invokevirtual 29, 3) := by decide +kernel
theorem dX0_begin_14 : decode cX0_begin 14 = .ok (.invokevirtual 33, 3) := by decide +kernel
theorem dX0_begin_17 : decode cX0_begin 17 = .ok (.ifCond .ne 5, 3) := by decide +kernel
theorem dX0_begin_20 : decode cX0_begin 20 = .ok (.iconst 0, 1) := by decide +kernel
theorem dX0_begin_21 : decode cX0_begin 21 = .ok (.ireturn, 1) := by decide +kernel
theorem dX0_begin_22 : decode cX0_begin 22 = .ok (.aload_n 0, 1) := by decide +kernel
theorem dX0_begin_23 : decode cX0_begin 23 = .ok (.iload_n 1, 1) := by decide +kernel
theorem dX0_begin_24 : decode cX0_begin 24 = .ok (.invokevirtual 37, 3) := by decide +kernel
theorem dX0_begin_27 : decode cX0_begin 27 = .ok (.iconst 1, 1) := by decide +kernel
theorem dX0_begin_28 : decode cX0_begin 28 = .ok (.ireturn, 1) := by decide +kernel
set_option maxRecDepth 20000 in
theorem ggX0_add_X0_isCharacter : GoodIn wsX0_add wsX0_isCharacter := goodIn_r _ [5, 6, 7, 8] (by decide +kernel) (by decide +kernel)
set_option maxRecDepth 20000 in
theorem gX0_add_X0_isCharacter : GoodIn wsX0_add (va_wsS RX0 41 yX0_isCharacter wsX0_isCharacter) := goodIn_app (goodIn_of _ (by decide +kernel)) ggX0_add_X0_isCharacter
set_option maxRecDepth 20000 in
theorem ggX0_add_X0_sizeOf : GoodIn wsX0_add wsX0_sizeOf := goodIn_r _ [11, 12, 13, 14, 4, 15] (by decide +kernel) (by decide +kernel)
set_option maxRecDepth 20000 in
theorem gX0_add_X0_sizeOf : GoodIn wsX0_add (va_wsS RX0 44 yX0_sizeOf wsX0_sizeOf) := goodIn_app (goodIn_of _ (by decide +kernel)) ggX0_add_X0_sizeOf
set_option maxRecDepth 20000 in
theorem ggX0_add_X0_hasRoomFor : GoodIn wsX0_add wsX0_hasRoomFor := goodIn_r _ [19, 20, 21, 39, 40, 41, 42, 43, 44] (by decide +kernel) (by decide +kernel)
set_option maxRecDepth 20000 in
theorem gX0_add_X0_hasRoomFor : GoodIn wsX0_add (wsV RX0 33 RX0 yX0_hasRoomFor wsX0_hasRoomFor) := goodIn_app (goodIn_of _ (by decide +kernel)) ggX0_add_X0_hasRoomFor
set_option maxRecDepth 20000 in
theorem ggX0_add_X0_putCharacter : GoodIn wsX0_add wsX0_putCharacter := goodIn_r _ [25, 13, 14, 4, 15, 26, 27, 28, 29, 20, 30, 31, 32, 33, 34, 12, 35, 36, 37, 38, 39, 40, 41, 42, 43, 44] (by decide +kernel) (by decide +kernel)
set_option maxRecDepth 20000 in
theorem gX0_add_X0_putCharacter : GoodIn wsX0_add (wsV RX0 48 RX0 yX0_putCharacter wsX0_putCharacter) := goodIn_app (goodIn_of _ (by decide +kernel)) ggX0_add_X0_putCharacter
theorem dX0_add_0 : decode cX0_add 0 = .ok (.aload_n 0, 1) := by decide +kernel
theorem dX0_add_1 : decode cX0_add 1 = .ok (.getfield 23, 3) := by decide +kernel
theorem dX0_add_4 : decode cX0_add 4 = .ok (.iconst (-1), 1) := by decide +kernel
theorem dX0_add_5 : decode cX0_add 5 = .ok (.if_icmp .eq 18, 3) := by decide +kernel
theorem dX0_add_8 : decode cX0_add 8 = .ok (.aload_n 0, 1) := by decide +kernel
theorem dX0_add_9 : decode cX0_add 9 = .ok (.getfield 23, 3) := by decide +kernel
theorem dX0_add_12 : decode cX0_add 12 = .ok (.iconst 4, 1) := by decide +kernel
theorem dX0_add_13 : decode cX0_add 13 = .ok (.if_icmp .eq 10, 3) := by decide +kernel
theorem dX0_add_16 : decode cX0_add 16 = .ok (.iload_n 1, 1) := by decide +kernel
theorem dX0_add_17 : decode cX0_add 17 = .ok (.invokestatic 41, 3) := by decide +kernel
theorem dX0_add_20 : decode cX0_add 20 = .ok (.ifCond .ne 5, 3) := by decide +kernel
theorem dX0_add_23 : decode cX0_add 23 = .ok (.iconst 0, 1) := by decide +kernel
theorem dX0_add_24 : decode cX0_add 24 = .ok (.ireturn, 1) := by decide +kernel
theorem dX0_add_25 : decode cX0_add 25 = .ok (.aload_n 0, 1) := by decide +kernel
theorem dX0_add_26 : decode cX0_add 26 = .ok (.iload_n 1, 1) := by decide +kernel
theorem dX0_add_27 : decode cX0_add 27 = .ok (.invokestatic 44, 3) := by decide +kernel
theorem dX0_add_30 : decode cX0_add 30 = .ok (.invokevirtual 33, 3) := by decide +kernel
theorem dX0_add_33 : decode cX0_add 33 = .ok (.ifCond .ne 5, 3) := by decide +kernel
theorem dX0_add_36 : decode cX0_add 36 = .ok (.iconst 0, 1) := by decide +kernel
theorem dX0_add_37 : decode cX0_add 37 = .ok (.ireturn, 1) := by decide +kernel
theorem dX0_add_38 : decode cX0_add 38 = .ok (.aload_n 0, 1) := by decide +kernel
theorem dX0_add_39 : decode cX0_add 39 = .ok (.iload_n 1, 1) := by decide +kernel
theorem dX0_add_40 : decode cX0_add 40 = .ok (.invokevirtual 48, 3) := by decide +kernel
theorem dX0_add_43 : decode cX0_add 43 = .ok (.iconst 1, 1) := by decide +kernel
theorem dX0_add_44 : decode cX0_add 44 = .ok (.ireturn, 1) := by decide +kernel
set_option maxRecDepth 20000 in
theorem ggX0_text_X0_isCharacter : GoodIn wsX0_text wsX0_isCharacter := goodIn_r _ [5, 6, 7, 8] (by decide +kernel) (by decide +kernel)
set_option maxRecDepth 20000 in
theorem gX0_text_X0_isCharacter : GoodIn wsX0_text (va_wsS RX0 41 yX0_isCharacter wsX0_isCharacter) := goodIn_app (goodIn_of _ (by decide +kernel)) ggX0_text_X0_isCharacter
set_option maxRecDepth 20000 in
theorem ggX0_text_X0_bytesToOpen : GoodIn wsX0_text wsX0_bytesToOpen := goodIn_r _ [12, 1, 56, 57, 58, 59, 60, 61] (by decide +kernel) (by decide +kernel)
set_option maxRecDepth 20000 in
theorem gX0_text_X0_bytesToOpen : GoodIn wsX0_text (wsV RX0 29 RX0 yX0_bytesToOpen wsX0_bytesToOpen) := goodIn_app (goodIn_of _ (by decide +kernel)) ggX0_text_X0_bytesToOpen
set_option maxRecDepth 20000 in
theorem ggX0_text_X0_sizeOf : GoodIn wsX0_text wsX0_sizeOf := goodIn_r _ [15, 16, 17, 18, 4, 19] (by decide +kernel) (by decide +kernel)
set_option maxRecDepth 20000 in
theorem gX0_text_X0_sizeOf : GoodIn wsX0_text (va_wsS RX0 44 yX0_sizeOf wsX0_sizeOf) := goodIn_app (goodIn_of _ (by decide +kernel)) ggX0_text_X0_sizeOf
set_option maxRecDepth 20000 in
theorem ggX0_text_X0_hasRoomFor : GoodIn wsX0_text wsX0_hasRoomFor := goodIn_r _ [23, 24, 25, 56, 57, 58, 59, 60, 61] (by decide +kernel) (by decide +kernel)
set_option maxRecDepth 20000 in
theorem gX0_text_X0_hasRoomFor : GoodIn wsX0_text (wsV RX0 33 RX0 yX0_hasRoomFor wsX0_hasRoomFor) := goodIn_app (goodIn_of _ (by decide +kernel)) ggX0_text_X0_hasRoomFor
set_option maxRecDepth 20000 in
theorem ggX0_text_X0_openLine : GoodIn wsX0_text wsX0_openLine := goodIn_r _ [29, 1, 24, 30, 31, 32, 33, 4, 34, 35, 36, 37, 38, 39, 40, 41, 42, 43, 56, 57, 58, 59, 60, 61] (by decide +kernel) (by decide +kernel)
set_option maxRecDepth 20000 in
theorem gX0_text_X0_openLine : GoodIn wsX0_text (wsV RX0 37 RX0 yX0_openLine wsX0_openLine) := goodIn_app (goodIn_of _ (by decide +kernel)) ggX0_text_X0_openLine
set_option maxRecDepth 20000 in
theorem ggX0_text_X0_putCharacter : GoodIn wsX0_text wsX0_putCharacter := goodIn_r _ [47, 17, 18, 4, 19, 36, 37, 38, 39, 24, 40, 48, 49, 50, 51, 16, 52, 53, 54, 55, 56, 57, 58, 59, 60, 61] (by decide +kernel) (by decide +kernel)
set_option maxRecDepth 20000 in
theorem gX0_text_X0_putCharacter : GoodIn wsX0_text (wsV RX0 48 RX0 yX0_putCharacter wsX0_putCharacter) := goodIn_app (goodIn_of _ (by decide +kernel)) ggX0_text_X0_putCharacter
theorem dX0_text_0 : decode cX0_text 0 = .ok (.iload_n 1, 1) := by decide +kernel
theorem dX0_text_1 : decode cX0_text 1 = .ok (.invokestatic 41, 3) := by decide +kernel
theorem dX0_text_4 : decode cX0_text 4 = .ok (.ifCond .ne 5, 3) := by decide +kernel
theorem dX0_text_7 : decode cX0_text 7 = .ok (.iconst 0, 1) := by decide +kernel
theorem dX0_text_8 : decode cX0_text 8 = .ok (.ireturn, 1) := by decide +kernel
theorem dX0_text_9 : decode cX0_text 9 = .ok (.aload_n 0, 1) := by decide +kernel
theorem dX0_text_10 : decode cX0_text 10 = .ok (.getfield 23, 3) := by decide +kernel
theorem dX0_text_13 : decode cX0_text 13 = .ok (.iconst 4, 1) := by decide +kernel
theorem dX0_text_14 : decode cX0_text 14 = .ok (.if_icmp .ne 7, 3) := by decide +kernel
theorem dX0_text_17 : decode cX0_text 17 = .ok (.iconst 0, 1) := by decide +kernel
theorem dX0_text_18 : decode cX0_text 18 = .ok (.goto 7, 3) := by decide +kernel
theorem dX0_text_21 : decode cX0_text 21 = .ok (.aload_n 0, 1) := by decide +kernel
theorem dX0_text_22 : decode cX0_text 22 = .ok (.invokevirtual 29, 3) := by decide +kernel
theorem dX0_text_25 : decode cX0_text 25 = .ok (.istore_n 2, 1) := by decide +kernel
theorem dX0_text_26 : decode cX0_text 26 = .ok (.aload_n 0, 1) := by decide +kernel
theorem dX0_text_27 : decode cX0_text 27 = .ok (.iload_n 2, 1) := by decide +kernel
theorem dX0_text_28 : decode cX0_text 28 = .ok (.iload_n 1, 1) := by decide +kernel
theorem dX0_text_29 : decode cX0_text 29 = .ok (.invokestatic 44, 3) := by decide +kernel
theorem dX0_text_32 : decode cX0_text 32 = .ok (.iadd, 1) := by decide +kernel
theorem dX0_text_33 : decode cX0_text 33 = .ok (.invokevirtual 33, 3) := by decide +kernel
theorem dX0_text_36 : decode cX0_text 36 = .ok (.ifCond .ne 5, 3) := by decide +kernel
theorem dX0_text_39 : decode cX0_text 39 = .ok (.iconst 0, 1) := by decide +kernel
theorem dX0_text_40 : decode cX0_text 40 = .ok (.ireturn, 1) := by decide +kernel
theorem dX0_text_41 : decode cX0_text 41 = .ok (.aload_n 0, 1) := by decide +kernel
theorem dX0_text_42 : decode cX0_text 42 = .ok (.getfield 23, 3) := by decide +kernel
theorem dX0_text_45 : decode cX0_text 45 = .ok (.iconst 4, 1) := by decide +kernel
theorem dX0_text_46 : decode cX0_text 46 = .ok (.if_icmp .eq 8, 3) := by decide +kernel
theorem dX0_text_49 : decode cX0_text 49 = .ok (.aload_n 0, 1) := by decide +kernel
theorem dX0_text_50 : decode cX0_text 50 = .ok (.iconst 4, 1) := by decide +kernel
theorem dX0_text_51 : decode cX0_text 51 = .ok (.invokevirtual 37, 3) := by decide +kernel
theorem dX0_text_54 : decode cX0_text 54 = .ok (.aload_n 0, 1) := by decide +kernel
theorem dX0_text_55 : decode cX0_text 55 = .ok (.iload_n 1, 1) := by decide +kernel
theorem dX0_text_56 : decode cX0_text 56 = .ok (.invokevirtual 48, 3) := by decide +kernel
theorem dX0_text_59 : decode cX0_text 59 = .ok (.iconst 1, 1) := by decide +kernel
theorem dX0_text_60 : decode cX0_text 60 = .ok (.ireturn, 1) := by decide +kernel
set_option maxRecDepth 20000 in
theorem ggX0_end_X0_endLine : GoodIn wsX0_end wsX0_endLine := goodIn_r _ [6, 7, 1, 8, 9, 10, 5, 11, 12, 13, 14, 15, 16, 17, 18, 19] (by decide +kernel) (by decide +kernel)
set_option maxRecDepth 20000 in
theorem gX0_end_X0_endLine : GoodIn wsX0_end (wsV RX0 51 RX0 yX0_endLine wsX0_endLine) := goodIn_app (goodIn_of _ (by decide +kernel)) ggX0_end_X0_endLine
theorem dX0_end_0 : decode cX0_end 0 = .ok (.aload_n 0, 1) := by decide +kernel
theorem dX0_end_1 : decode cX0_end 1 = .ok (.getfield 23, 3) := by decide +kernel
theorem dX0_end_4 : decode cX0_end 4 = .ok (.istore_n 1, 1) := by decide +kernel
theorem dX0_end_5 : decode cX0_end 5 = .ok (.iload_n 1, 1) := by decide +kernel
theorem dX0_end_6 : decode cX0_end 6 = .ok (.iconst (-1), 1) := by decide +kernel
theorem dX0_end_7 : decode cX0_end 7 = .ok (.if_icmp .eq 7, 3) := by decide +kernel
theorem dX0_end_10 : decode cX0_end 10 = .ok (.aload_n 0, 1) := by decide +kernel
theorem dX0_end_11 : decode cX0_end 11 = .ok (.invokevirtual 51, 3) := by decide +kernel
theorem dX0_end_14 : decode cX0_end 14 = .ok (.iload_n 1, 1) := by decide +kernel
theorem dX0_end_15 : decode cX0_end 15 = .ok (.ireturn, 1) := by decide +kernel
set_option maxRecDepth 20000 in
theorem ggX0_back_X0_isBetweenLines : GoodIn wsX0_back wsX0_isBetweenLines := goodIn_r _ [9, 10, 11, 12, 8, 13, 14, 19, 20, 21, 22, 23, 24] (by decide +kernel) (by decide +kernel)
set_option maxRecDepth 20000 in
theorem gX0_back_X0_isBetweenLines : GoodIn wsX0_back (wsV RX0 54 RX0 yX0_isBetweenLines wsX0_isBetweenLines) := goodIn_app (goodIn_of _ (by decide +kernel)) ggX0_back_X0_isBetweenLines
set_option maxRecDepth 20000 in
theorem ggX0_back_X0_lineEndsFrom : GoodIn wsX0_back wsX0_lineEndsFrom := goodIn_r _ [18, 2, 10, 11, 12, 8, 13, 14, 19, 20, 21, 22, 23, 24] (by decide +kernel) (by decide +kernel)
set_option maxRecDepth 20000 in
theorem gX0_back_X0_lineEndsFrom : GoodIn wsX0_back (wsV RX0 57 RX0 yX0_lineEndsFrom wsX0_lineEndsFrom) := goodIn_app (goodIn_of _ (by decide +kernel)) ggX0_back_X0_lineEndsFrom
theorem dX0_back_0 : decode cX0_back 0 = .ok (.iload_n 1, 1) := by decide +kernel
theorem dX0_back_1 : decode cX0_back 1 = .ok (.aload_n 0, 1) := by decide +kernel
theorem dX0_back_2 : decode cX0_back 2 = .ok (.getfield 17, 3) := by decide +kernel
theorem dX0_back_5 : decode cX0_back 5 = .ok (.if_icmp .lt 19, 3) := by decide +kernel
theorem dX0_back_8 : decode cX0_back 8 = .ok (.iload_n 1, 1) := by decide +kernel
theorem dX0_back_9 : decode cX0_back 9 = .ok (.aload_n 0, 1) := by decide +kernel
theorem dX0_back_10 : decode cX0_back 10 = .ok (.getfield 13, 3) := by decide +kernel
theorem dX0_back_13 : decode cX0_back 13 = .ok (.if_icmp .gt 11, 3) := by decide +kernel
theorem dX0_back_16 : decode cX0_back 16 = .ok (.aload_n 0, 1) := by decide +kernel
theorem dX0_back_17 : decode cX0_back 17 = .ok (.iload_n 1, 1) := by decide +kernel
theorem dX0_back_18 : decode cX0_back 18 = .ok (.invokevirtual 54, 3) := by decide +kernel
theorem dX0_back_21 : decode cX0_back 21 = .ok (.ifCond .ne 5, 3) := by decide +kernel
theorem dX0_back_24 : decode cX0_back 24 = .ok (.iconst 0, 1) := by decide +kernel
theorem dX0_back_25 : decode cX0_back 25 = .ok (.ireturn, 1) := by decide +kernel
theorem dX0_back_26 : decode cX0_back 26 = .ok (.aload_n 0, 1) := by decide +kernel
theorem dX0_back_27 : decode cX0_back 27 = .ok (.dup, 1) := by decide +kernel
theorem dX0_back_28 : decode cX0_back 28 = .ok (.getfield 20, 3) := by decide +kernel
theorem dX0_back_31 : decode cX0_back 31 = .ok (.aload_n 0, 1) := by decide +kernel
theorem dX0_back_32 : decode cX0_back 32 = .ok (.iload_n 1, 1) := by decide +kernel
theorem dX0_back_33 : decode cX0_back 33 = .ok (.invokevirtual 57, 3) := by decide +kernel
theorem dX0_back_36 : decode cX0_back 36 = .ok (.isub, 1) := by decide +kernel
theorem dX0_back_37 : decode cX0_back 37 = .ok (.putfield 20, 3) := by decide +kernel
theorem dX0_back_40 : decode cX0_back 40 = .ok (.aload_n 0, 1) := by decide +kernel
theorem dX0_back_41 : decode cX0_back 41 = .ok (.iload_n 1, 1) := by decide +kernel
theorem dX0_back_42 : decode cX0_back 42 = .ok (.putfield 13, 3) := by decide +kernel
theorem dX0_back_45 : decode cX0_back 45 = .ok (.aload_n 0, 1) := by decide +kernel
theorem dX0_back_46 : decode cX0_back 46 = .ok (.iconst (-1), 1) := by decide +kernel
theorem dX0_back_47 : decode cX0_back 47 = .ok (.putfield 23, 3) := by decide +kernel
theorem dX0_back_50 : decode cX0_back 50 = .ok (.iconst 1, 1) := by decide +kernel
theorem dX0_back_51 : decode cX0_back 51 = .ok (.ireturn, 1) := by decide +kernel
theorem dX0_mark_0 : decode cX0_mark 0 = .ok (.aload_n 0, 1) := by decide +kernel
theorem dX0_mark_1 : decode cX0_mark 1 = .ok (.getfield 23, 3) := by decide +kernel
theorem dX0_mark_4 : decode cX0_mark 4 = .ok (.iconst (-1), 1) := by decide +kernel
theorem dX0_mark_5 : decode cX0_mark 5 = .ok (.if_icmp .ne 10, 3) := by decide +kernel
theorem dX0_mark_8 : decode cX0_mark 8 = .ok (.aload_n 0, 1) := by decide +kernel
theorem dX0_mark_9 : decode cX0_mark 9 = .ok (.getfield 13, 3) := by decide +kernel
theorem dX0_mark_12 : decode cX0_mark 12 = .ok (.goto 4, 3) := by decide +kernel
theorem dX0_mark_15 : decode cX0_mark 15 = .ok (.iconst (-1), 1) := by decide +kernel
theorem dX0_mark_16 : decode cX0_mark 16 = .ok (.ireturn, 1) := by decide +kernel
set_option maxRecDepth 20000 in
theorem ggX0_take_X0_endOfEndedLines : GoodIn wsX0_take wsX0_endOfEndedLines := goodIn_r _ [10, 11, 12, 13, 19, 20, 21, 22, 23, 24] (by decide +kernel) (by decide +kernel)
set_option maxRecDepth 20000 in
theorem gX0_take_X0_endOfEndedLines : GoodIn wsX0_take (wsV RX0 60 RX0 yX0_endOfEndedLines wsX0_endOfEndedLines) := goodIn_app (goodIn_of _ (by decide +kernel)) ggX0_take_X0_endOfEndedLines
set_option maxRecDepth 20000 in
theorem ggX0_take_X0_byteAt : GoodIn wsX0_take wsX0_byteAt := goodIn_r _ [17, 18, 19, 20, 21, 22, 23, 24] (by decide +kernel) (by decide +kernel)
set_option maxRecDepth 20000 in
theorem gX0_take_X0_byteAt : GoodIn wsX0_take (wsV RX0 69 RX0 yX0_byteAt wsX0_byteAt) := goodIn_app (goodIn_of _ (by decide +kernel)) ggX0_take_X0_byteAt
theorem dX0_take_0 : decode cX0_take 0 = .ok (.aload_n 0, 1) := by decide +kernel
theorem dX0_take_1 : decode cX0_take 1 = .ok (.invokevirtual 60, 3) := by decide +kernel
theorem dX0_take_4 : decode cX0_take 4 = .ok (.aload_n 0, 1) := by decide +kernel
theorem dX0_take_5 : decode cX0_take 5 = .ok (.getfield 17, 3) := by decide +kernel
theorem dX0_take_8 : decode cX0_take 8 = .ok (.isub, 1) := by decide +kernel
theorem dX0_take_9 : decode cX0_take 9 = .ok (.bipush 7, 2) := by decide +kernel
theorem dX0_take_11 : decode cX0_take 11 = .ok (.invokestatic 63, 3) := by decide +kernel
theorem dX0_take_14 : decode cX0_take 14 = .ok (.istore_n 1, 1) := by decide +kernel
theorem dX0_take_15 : decode cX0_take 15 = .ok (.iload_n 1, 1) := by decide +kernel
theorem dX0_take_16 : decode cX0_take 16 = .ok (.ifCond .gt 5, 3) := by decide +kernel
theorem dX0_take_19 : decode cX0_take 19 = .ok (.lconst 0, 1) := by decide +kernel
theorem dX0_take_20 : decode cX0_take 20 = .ok (.lreturn, 1) := by decide +kernel
theorem dX0_take_21 : decode cX0_take 21 = .ok (.iload_n 1, 1) := by decide +kernel
theorem dX0_take_22 : decode cX0_take 22 = .ok (.i2l, 1) := by decide +kernel
theorem dX0_take_23 : decode cX0_take 23 = .ok (.lstore_n 2, 1) := by decide +kernel
theorem dX0_take_24 : decode cX0_take 24 = .ok (.iconst 0, 1) := by decide +kernel
theorem dX0_take_25 : decode cX0_take 25 = .ok (.istore 4, 2) := by decide +kernel
theorem dX0_take_27 : decode cX0_take 27 = .ok (.iload 4, 2) := by decide +kernel
theorem dX0_take_29 : decode cX0_take 29 = .ok (.bipush 7, 2) := by decide +kernel
theorem dX0_take_31 : decode cX0_take 31 = .ok (.if_icmp .ge 37, 3) := by decide +kernel
theorem dX0_take_34 : decode cX0_take 34 = .ok (.lload_n 2, 1) := by decide +kernel
theorem dX0_take_35 : decode cX0_take 35 = .ok (.bipush 8, 2) := by decide +kernel
theorem dX0_take_37 : decode cX0_take 37 = .ok (.lshl, 1) := by decide +kernel
theorem dX0_take_38 : decode cX0_take 38 = .ok (.iload 4, 2) := by decide +kernel
theorem dX0_take_40 : decode cX0_take 40 = .ok (.iload_n 1, 1) := by decide +kernel
theorem dX0_take_41 : decode cX0_take 41 = .ok (.if_icmp .ge 17, 3) := by decide +kernel
theorem dX0_take_44 : decode cX0_take 44 = .ok (.aload_n 0, 1) := by decide +kernel
theorem dX0_take_45 : decode cX0_take 45 = .ok (.aload_n 0, 1) := by decide +kernel
theorem dX0_take_46 : decode cX0_take 46 = .ok (.getfield 17, 3) := by decide +kernel
theorem dX0_take_49 : decode cX0_take 49 = .ok (.iload 4, 2) := by decide +kernel
theorem dX0_take_51 : decode cX0_take 51 = .ok (.iadd, 1) := by decide +kernel
theorem dX0_take_52 : decode cX0_take 52 = .ok (.invokevirtual 69, 3) := by decide +kernel
theorem dX0_take_55 : decode cX0_take 55 = .ok (.goto 4, 3) := by decide +kernel
theorem dX0_take_58 : decode cX0_take 58 = .ok (.iconst 0, 1) := by decide +kernel
theorem dX0_take_59 : decode cX0_take 59 = .ok (.i2l, 1) := by decide +kernel
theorem dX0_take_60 : decode cX0_take 60 = .ok (.lor, 1) := by decide +kernel
theorem dX0_take_61 : decode cX0_take 61 = .ok (.lstore_n 2, 1) := by decide +kernel
theorem dX0_take_62 : decode cX0_take 62 = .ok (.iinc 4 1, 3) := by decide +kernel
theorem dX0_take_65 : decode cX0_take 65 = .ok (.goto (-38), 3) := by decide +kernel
theorem dX0_take_68 : decode cX0_take 68 = .ok (.aload_n 0, 1) := by decide +kernel
theorem dX0_take_69 : decode cX0_take 69 = .ok (.dup, 1) := by decide +kernel
theorem dX0_take_70 : decode cX0_take 70 = .ok (.getfield 17, 3) := by decide +kernel
theorem dX0_take_73 : decode cX0_take 73 = .ok (.iload_n 1, 1) := by decide +kernel
theorem dX0_take_74 : decode cX0_take 74 = .ok (.iadd, 1) := by decide +kernel
theorem dX0_take_75 : decode cX0_take 75 = .ok (.putfield 17, 3) := by decide +kernel
theorem dX0_take_78 : decode cX0_take 78 = .ok (.lload_n 2, 1) := by decide +kernel
theorem dX0_take_79 : decode cX0_take 79 = .ok (.lreturn, 1) := by decide +kernel
set_option maxRecDepth 20000 in
theorem ggX0_count_X0_endOfEndedLines : GoodIn wsX0_count wsX0_endOfEndedLines := goodIn_r _ [9, 4, 1, 10, 11, 12, 13, 14, 15, 16] (by decide +kernel) (by decide +kernel)
set_option maxRecDepth 20000 in
theorem gX0_count_X0_endOfEndedLines : GoodIn wsX0_count (wsV RX0 60 RX0 yX0_endOfEndedLines wsX0_endOfEndedLines) := goodIn_app (goodIn_of _ (by decide +kernel)) ggX0_count_X0_endOfEndedLines
theorem dX0_count_0 : decode cX0_count 0 = .ok (.iload_n 1, 1) := by decide +kernel
theorem dX0_count_1 : decode cX0_count 1 = .ok (.tableswitch 61 0 3 #[31, 41, 46, 51], 31) := by decide +kernel
theorem dX0_count_32 : decode cX0_count 32 = .ok (.aload_n 0, 1) := by decide +kernel
theorem dX0_count_33 : decode cX0_count 33 = .ok (.getfield 13, 3) := by decide +kernel
theorem dX0_count_36 : decode cX0_count 36 = .ok (.aload_n 0, 1) := by decide +kernel
theorem dX0_count_37 : decode cX0_count 37 = .ok (.getfield 17, 3) := by decide +kernel
theorem dX0_count_40 : decode cX0_count 40 = .ok (.isub, 1) := by decide +kernel
theorem dX0_count_41 : decode cX0_count 41 = .ok (.ireturn, 1) := by decide +kernel
theorem dX0_count_42 : decode cX0_count 42 = .ok (.aload_n 0, 1) := by decide +kernel
theorem dX0_count_43 : decode cX0_count 43 = .ok (.getfield 20, 3) := by decide +kernel
theorem dX0_count_46 : decode cX0_count 46 = .ok (.ireturn, 1) := by decide +kernel
theorem dX0_count_47 : decode cX0_count 47 = .ok (.aload_n 0, 1) := by decide +kernel
theorem dX0_count_48 : decode cX0_count 48 = .ok (.getfield 23, 3) := by decide +kernel
theorem dX0_count_51 : decode cX0_count 51 = .ok (.ireturn, 1) := by decide +kernel
theorem dX0_count_52 : decode cX0_count 52 = .ok (.aload_n 0, 1) := by decide +kernel
theorem dX0_count_53 : decode cX0_count 53 = .ok (.getfield 13, 3) := by decide +kernel
theorem dX0_count_56 : decode cX0_count 56 = .ok (.aload_n 0, 1) := by decide +kernel
theorem dX0_count_57 : decode cX0_count 57 = .ok (.invokevirtual 60, 3) := by decide +kernel
theorem dX0_count_60 : decode cX0_count 60 = .ok (.isub, 1) := by decide +kernel
theorem dX0_count_61 : decode cX0_count 61 = .ok (.ireturn, 1) := by decide +kernel
theorem dX0_count_62 : decode cX0_count 62 = .ok (.iconst (-1), 1) := by decide +kernel
theorem dX0_count_63 : decode cX0_count 63 = .ok (.ireturn, 1) := by decide +kernel
theorem dX0_hasRoomFor_0 : decode cX0_hasRoomFor 0 = .ok (.aload_n 0, 1) := by decide +kernel
theorem dX0_hasRoomFor_1 : decode cX0_hasRoomFor 1 = .ok (.getfield 13, 3) := by decide +kernel
theorem dX0_hasRoomFor_4 : decode cX0_hasRoomFor 4 = .ok (.aload_n 0, 1) := by decide +kernel
theorem dX0_hasRoomFor_5 : decode cX0_hasRoomFor 5 = .ok (.getfield 17, 3) := by decide +kernel
theorem dX0_hasRoomFor_8 : decode cX0_hasRoomFor 8 = .ok (.isub, 1) := by decide +kernel
theorem dX0_hasRoomFor_9 : decode cX0_hasRoomFor 9 = .ok (.iload_n 1, 1) := by decide +kernel
theorem dX0_hasRoomFor_10 : decode cX0_hasRoomFor 10 = .ok (.iadd, 1) := by decide +kernel
theorem dX0_hasRoomFor_11 : decode cX0_hasRoomFor 11 = .ok (.iconst 1, 1) := by decide +kernel
theorem dX0_hasRoomFor_12 : decode cX0_hasRoomFor 12 = .ok (.iadd, 1) := by decide +kernel
theorem dX0_hasRoomFor_13 : decode cX0_hasRoomFor 13 = .ok (.sipush 3000, 3) := by decide +kernel
theorem dX0_hasRoomFor_16 : decode cX0_hasRoomFor 16 = .ok (.if_icmp .gt 7, 3) := by decide +kernel
theorem dX0_hasRoomFor_19 : decode cX0_hasRoomFor 19 = .ok (.iconst 1, 1) := by decide +kernel
theorem dX0_hasRoomFor_20 : decode cX0_hasRoomFor 20 = .ok (.goto 4, 3) := by decide +kernel
theorem dX0_hasRoomFor_23 : decode cX0_hasRoomFor 23 = .ok (.iconst 0, 1) := by decide +kernel
theorem dX0_hasRoomFor_24 : decode cX0_hasRoomFor 24 = .ok (.ireturn, 1) := by decide +kernel
theorem dX0_bytesToOpen_0 : decode cX0_bytesToOpen 0 = .ok (.aload_n 0, 1) := by decide +kernel
theorem dX0_bytesToOpen_1 : decode cX0_bytesToOpen 1 = .ok (.getfield 23, 3) := by decide +kernel
theorem dX0_bytesToOpen_4 : decode cX0_bytesToOpen 4 = .ok (.iconst (-1), 1) := by decide +kernel
theorem dX0_bytesToOpen_5 : decode cX0_bytesToOpen 5 = .ok (.if_icmp .ne 7, 3) := by decide +kernel
theorem dX0_bytesToOpen_8 : decode cX0_bytesToOpen 8 = .ok (.iconst 1, 1) := by decide +kernel
theorem dX0_bytesToOpen_9 : decode cX0_bytesToOpen 9 = .ok (.goto 4, 3) := by decide +kernel
theorem dX0_bytesToOpen_12 : decode cX0_bytesToOpen 12 = .ok (.iconst 2, 1) := by decide +kernel
theorem dX0_bytesToOpen_13 : decode cX0_bytesToOpen 13 = .ok (.ireturn, 1) := by decide +kernel
set_option maxRecDepth 20000 in
theorem ggX0_openLine_X0_endLine : GoodIn wsX0_openLine wsX0_endLine := goodIn_r _ [8, 9, 1, 10, 11, 12, 7, 13, 2, 14, 18, 19, 20, 21, 22, 23] (by decide +kernel) (by decide +kernel)
set_option maxRecDepth 20000 in
theorem gX0_openLine_X0_endLine : GoodIn wsX0_openLine (wsV RX0 51 RX0 yX0_endLine wsX0_endLine) := goodIn_app (goodIn_of _ (by decide +kernel)) ggX0_openLine_X0_endLine
set_option maxRecDepth 20000 in
theorem ggX0_openLine_X0_firstByteOf : GoodIn wsX0_openLine wsX0_firstByteOf := goodIn_r _ [17] (by decide +kernel) (by decide +kernel)
set_option maxRecDepth 20000 in
theorem gX0_openLine_X0_firstByteOf : GoodIn wsX0_openLine (va_wsS RX0 72 yX0_firstByteOf wsX0_firstByteOf) := goodIn_app (goodIn_of _ (by decide +kernel)) ggX0_openLine_X0_firstByteOf
set_option maxRecDepth 20000 in
theorem ggX0_openLine_X0_put : GoodIn wsX0_openLine wsX0_put := goodIn_r _ [13, 2, 14, 18, 19, 20, 21, 22, 23] (by decide +kernel) (by decide +kernel)
set_option maxRecDepth 20000 in
theorem gX0_openLine_X0_put : GoodIn wsX0_openLine (wsV RX0 75 RX0 yX0_put wsX0_put) := goodIn_app (goodIn_of _ (by decide +kernel)) ggX0_openLine_X0_put
theorem dX0_openLine_0 : decode cX0_openLine 0 = .ok (.aload_n 0, 1) := by decide +kernel
theorem dX0_openLine_1 : decode cX0_openLine 1 = .ok (.getfield 23, 3) := by decide +kernel
theorem dX0_openLine_4 : decode cX0_openLine 4 = .ok (.iconst (-1), 1) := by decide +kernel
theorem dX0_openLine_5 : decode cX0_openLine 5 = .ok (.if_icmp .eq 7, 3) := by decide +kernel
theorem dX0_openLine_8 : decode cX0_openLine 8 = .ok (.aload_n 0, 1) := by decide +kernel
theorem dX0_openLine_9 : decode cX0_openLine 9 = .ok (.invokevirtual 51, 3) := by decide +kernel
theorem dX0_openLine_12 : decode cX0_openLine 12 = .ok (.aload_n 0, 1) := by decide +kernel
theorem dX0_openLine_13 : decode cX0_openLine 13 = .ok (.iload_n 1, 1) := by decide +kernel
theorem dX0_openLine_14 : decode cX0_openLine 14 = .ok (.putfield 23, 3) := by decide +kernel
theorem dX0_openLine_17 : decode cX0_openLine 17 = .ok (.aload_n 0, 1) := by decide +kernel
theorem dX0_openLine_18 : decode cX0_openLine 18 = .ok (.aload_n 0, 1) := by decide +kernel
theorem dX0_openLine_19 : decode cX0_openLine 19 = .ok (.getfield 13, 3) := by decide +kernel
theorem dX0_openLine_22 : decode cX0_openLine 22 = .ok (.putfield 26, 3) := by decide +kernel
theorem dX0_openLine_25 : decode cX0_openLine 25 = .ok (.aload_n 0, 1) := by decide +kernel
theorem dX0_openLine_26 : decode cX0_openLine 26 = .ok (.iload_n 1, 1) := by decide +kernel
theorem dX0_openLine_27 : decode cX0_openLine 27 = .ok (.invokestatic 72, 3) := by decide +kernel
theorem dX0_openLine_30 : decode cX0_openLine 30 = .ok (.invokevirtual 75, 3) := by decide +kernel
theorem dX0_openLine_33 : decode cX0_openLine 33 = .ok (.return_, 1) := by decide +kernel
set_option maxRecDepth 20000 in
theorem ggX0_endLine_X0_put : GoodIn wsX0_endLine wsX0_put := goodIn_r _ [7, 8, 9, 10, 11, 12, 13, 14, 15] (by decide +kernel) (by decide +kernel)
set_option maxRecDepth 20000 in
theorem gX0_endLine_X0_put : GoodIn wsX0_endLine (wsV RX0 75 RX0 yX0_put wsX0_put) := goodIn_app (goodIn_of _ (by decide +kernel)) ggX0_endLine_X0_put
theorem dX0_endLine_0 : decode cX0_endLine 0 = .ok (.aload_n 0, 1) := by decide +kernel
theorem dX0_endLine_1 : decode cX0_endLine 1 = .ok (.bipush 10, 2) := by decide +kernel
theorem dX0_endLine_3 : decode cX0_endLine 3 = .ok (.invokevirtual 75, 3) := by decide +kernel
theorem dX0_endLine_6 : decode cX0_endLine 6 = .ok (.aload_n 0, 1) := by decide +kernel
theorem dX0_endLine_7 : decode cX0_endLine 7 = .ok (.dup, 1) := by decide +kernel
theorem dX0_endLine_8 : decode cX0_endLine 8 = .ok (.getfield 20, 3) := by decide +kernel
theorem dX0_endLine_11 : decode cX0_endLine 11 = .ok (.iconst 1, 1) := by decide +kernel
theorem dX0_endLine_12 : decode cX0_endLine 12 = .ok (.iadd, 1) := by decide +kernel
theorem dX0_endLine_13 : decode cX0_endLine 13 = .ok (.putfield 20, 3) := by decide +kernel
theorem dX0_endLine_16 : decode cX0_endLine 16 = .ok (.aload_n 0, 1) := by decide +kernel
theorem dX0_endLine_17 : decode cX0_endLine 17 = .ok (.iconst (-1), 1) := by decide +kernel
theorem dX0_endLine_18 : decode cX0_endLine 18 = .ok (.putfield 23, 3) := by decide +kernel
theorem dX0_endLine_21 : decode cX0_endLine 21 = .ok (.return_, 1) := by decide +kernel
theorem dX0_endOfEndedLines_0 : decode cX0_endOfEndedLines 0 = .ok (.aload_n 0, 1) := by decide +kernel
theorem dX0_endOfEndedLines_1 : decode cX0_endOfEndedLines 1 = .ok (.getfield 23, 3) := by decide +kernel
theorem dX0_endOfEndedLines_4 : decode cX0_endOfEndedLines 4 = .ok (.iconst (-1), 1) := by decide +kernel
theorem dX0_endOfEndedLines_5 : decode cX0_endOfEndedLines 5 = .ok (.if_icmp .ne 10, 3) := by decide +kernel
theorem dX0_endOfEndedLines_8 : decode cX0_endOfEndedLines 8 = .ok (.aload_n 0, 1) := by decide +kernel
theorem dX0_endOfEndedLines_9 : decode cX0_endOfEndedLines 9 = .ok (.getfield 13, 3) := by decide +kernel
theorem dX0_endOfEndedLines_12 : decode cX0_endOfEndedLines 12 = .ok (.goto 7, 3) := by decide +kernel
theorem dX0_endOfEndedLines_15 : decode cX0_endOfEndedLines 15 = .ok (.aload_n 0, 1) := by decide +kernel
theorem dX0_endOfEndedLines_16 : decode cX0_endOfEndedLines 16 = .ok (.getfield 26, 3) := by decide +kernel
theorem dX0_endOfEndedLines_19 : decode cX0_endOfEndedLines 19 = .ok (.ireturn, 1) := by decide +kernel
set_option maxRecDepth 20000 in
theorem ggX0_isBetweenLines_X0_byteAt : GoodIn wsX0_isBetweenLines wsX0_byteAt := goodIn_r _ [5, 6, 7, 8, 9, 10, 11, 12] (by decide +kernel) (by decide +kernel)
set_option maxRecDepth 20000 in
theorem gX0_isBetweenLines_X0_byteAt : GoodIn wsX0_isBetweenLines (wsV RX0 69 RX0 yX0_byteAt wsX0_byteAt) := goodIn_app (goodIn_of _ (by decide +kernel)) ggX0_isBetweenLines_X0_byteAt
theorem dX0_isBetweenLines_0 : decode cX0_isBetweenLines 0 = .ok (.iload_n 1, 1) := by decide +kernel
theorem dX0_isBetweenLines_1 : decode cX0_isBetweenLines 1 = .ok (.ifCond .eq 15, 3) := by decide +kernel
theorem dX0_isBetweenLines_4 : decode cX0_isBetweenLines 4 = .ok (.aload_n 0, 1) := by decide +kernel
theorem dX0_isBetweenLines_5 : decode cX0_isBetweenLines 5 = .ok (.iload_n 1, 1) := by decide +kernel
theorem dX0_isBetweenLines_6 : decode cX0_isBetweenLines 6 = .ok (.iconst 1, 1) := by decide +kernel
theorem dX0_isBetweenLines_7 : decode cX0_isBetweenLines 7 = .ok (.isub, 1) := by decide +kernel
theorem dX0_isBetweenLines_8 : decode cX0_isBetweenLines 8 = .ok (.invokevirtual 69, 3) := by decide +kernel
theorem dX0_isBetweenLines_11 : decode cX0_isBetweenLines 11 = .ok (.bipush 10, 2) := by decide +kernel
theorem dX0_isBetweenLines_13 : decode cX0_isBetweenLines 13 = .ok (.if_icmp .ne 7, 3) := by decide +kernel
theorem dX0_isBetweenLines_16 : decode cX0_isBetweenLines 16 = .ok (.iconst 1, 1) := by decide +kernel
theorem dX0_isBetweenLines_17 : decode cX0_isBetweenLines 17 = .ok (.goto 4, 3) := by decide +kernel
theorem dX0_isBetweenLines_20 : decode cX0_isBetweenLines 20 = .ok (.iconst 0, 1) := by decide +kernel
theorem dX0_isBetweenLines_21 : decode cX0_isBetweenLines 21 = .ok (.ireturn, 1) := by decide +kernel
set_option maxRecDepth 20000 in
theorem ggX0_lineEndsFrom_X0_byteAt : GoodIn wsX0_lineEndsFrom wsX0_byteAt := goodIn_r _ [6, 7, 8, 9, 10, 11, 12, 13] (by decide +kernel) (by decide +kernel)
set_option maxRecDepth 20000 in
theorem gX0_lineEndsFrom_X0_byteAt : GoodIn wsX0_lineEndsFrom (wsV RX0 69 RX0 yX0_byteAt wsX0_byteAt) := goodIn_app (goodIn_of _ (by decide +kernel)) ggX0_lineEndsFrom_X0_byteAt
theorem dX0_lineEndsFrom_0 : decode cX0_lineEndsFrom 0 = .ok (.iconst 0, 1) := by decide +kernel
theorem dX0_lineEndsFrom_1 : decode cX0_lineEndsFrom 1 = .ok (.istore_n 2, 1) := by decide +kernel
theorem dX0_lineEndsFrom_2 : decode cX0_lineEndsFrom 2 = .ok (.iload_n 1, 1) := by decide +kernel
theorem dX0_lineEndsFrom_3 : decode cX0_lineEndsFrom 3 = .ok (.istore_n 3, 1) := by decide +kernel
theorem dX0_lineEndsFrom_4 : decode cX0_lineEndsFrom 4 = .ok (.iload_n 3, 1) := by decide +kernel
theorem dX0_lineEndsFrom_5 : decode cX0_lineEndsFrom 5 = .ok (.aload_n 0, 1) := by decide +kernel
theorem dX0_lineEndsFrom_6 : decode cX0_lineEndsFrom 6 = .ok (.getfield 13, 3) := by decide +kernel
theorem dX0_lineEndsFrom_9 : decode cX0_lineEndsFrom 9 = .ok (.if_icmp .ge 22, 3) := by decide +kernel
theorem dX0_lineEndsFrom_12 : decode cX0_lineEndsFrom 12 = .ok (.aload_n 0, 1) := by decide +kernel
theorem dX0_lineEndsFrom_13 : decode cX0_lineEndsFrom 13 = .ok (.iload_n 3, 1) := by decide +kernel
theorem dX0_lineEndsFrom_14 : decode cX0_lineEndsFrom 14 = .ok (.invokevirtual 69, 3) := by decide +kernel
theorem dX0_lineEndsFrom_17 : decode cX0_lineEndsFrom 17 = .ok (.bipush 10, 2) := by decide +kernel
theorem dX0_lineEndsFrom_19 : decode cX0_lineEndsFrom 19 = .ok (.if_icmp .ne 6, 3) := by decide +kernel
theorem dX0_lineEndsFrom_22 : decode cX0_lineEndsFrom 22 = .ok (.iinc 2 1, 3) := by decide +kernel
theorem dX0_lineEndsFrom_25 : decode cX0_lineEndsFrom 25 = .ok (.iinc 3 1, 3) := by decide +kernel
theorem dX0_lineEndsFrom_28 : decode cX0_lineEndsFrom 28 = .ok (.goto (-24), 3) := by decide +kernel
theorem dX0_lineEndsFrom_31 : decode cX0_lineEndsFrom 31 = .ok (.iload_n 2, 1) := by decide +kernel
theorem dX0_lineEndsFrom_32 : decode cX0_lineEndsFrom 32 = .ok (.ireturn, 1) := by decide +kernel
theorem dX0_firstByteOf_0 : decode cX0_firstByteOf 0 = .ok (.iload_n 0, 1) := by decide +kernel
theorem dX0_firstByteOf_1 : decode cX0_firstByteOf 1 = .ok (.tableswitch 43 0 3 #[31, 34, 37, 40], 31) := by decide +kernel
theorem dX0_firstByteOf_32 : decode cX0_firstByteOf 32 = .ok (.bipush 40, 2) := by decide +kernel
theorem dX0_firstByteOf_34 : decode cX0_firstByteOf 34 = .ok (.ireturn, 1) := by decide +kernel
theorem dX0_firstByteOf_35 : decode cX0_firstByteOf 35 = .ok (.bipush 41, 2) := by decide +kernel
theorem dX0_firstByteOf_37 : decode cX0_firstByteOf 37 = .ok (.ireturn, 1) := by decide +kernel
theorem dX0_firstByteOf_38 : decode cX0_firstByteOf 38 = .ok (.bipush 65, 2) := by decide +kernel
theorem dX0_firstByteOf_40 : decode cX0_firstByteOf 40 = .ok (.ireturn, 1) := by decide +kernel
theorem dX0_firstByteOf_41 : decode cX0_firstByteOf 41 = .ok (.bipush 63, 2) := by decide +kernel
theorem dX0_firstByteOf_43 : decode cX0_firstByteOf 43 = .ok (.ireturn, 1) := by decide +kernel
theorem dX0_firstByteOf_44 : decode cX0_firstByteOf 44 = .ok (.bipush 45, 2) := by decide +kernel
theorem dX0_firstByteOf_46 : decode cX0_firstByteOf 46 = .ok (.ireturn, 1) := by decide +kernel
theorem dX0_isCharacter_0 : decode cX0_isCharacter 0 = .ok (.iload_n 0, 1) := by decide +kernel
theorem dX0_isCharacter_1 : decode cX0_isCharacter 1 = .ok (.ifCond .lt 9, 3) := by decide +kernel
theorem dX0_isCharacter_4 : decode cX0_isCharacter 4 = .ok (.iload_n 0, 1) := by decide +kernel
theorem dX0_isCharacter_5 : decode cX0_isCharacter 5 = .ok (.ldc 78, 2) := by decide +kernel
theorem dX0_isCharacter_7 : decode cX0_isCharacter 7 = .ok (.if_icmp .le 15, 3) := by decide +kernel
theorem dX0_isCharacter_10 : decode cX0_isCharacter 10 = .ok (.iload_n 0, 1) := by decide +kernel
theorem dX0_isCharacter_11 : decode cX0_isCharacter 11 = .ok (.ldc 79, 2) := by decide +kernel
theorem dX0_isCharacter_13 : decode cX0_isCharacter 13 = .ok (.if_icmp .lt 13, 3) := by decide +kernel
theorem dX0_isCharacter_16 : decode cX0_isCharacter 16 = .ok (.iload_n 0, 1) := by decide +kernel
theorem dX0_isCharacter_17 : decode cX0_isCharacter 17 = .ok (.ldc 80, 2) := by decide +kernel
theorem dX0_isCharacter_19 : decode cX0_isCharacter 19 = .ok (.if_icmp .gt 7, 3) := by decide +kernel
theorem dX0_isCharacter_22 : decode cX0_isCharacter 22 = .ok (.iconst 1, 1) := by decide +kernel
theorem dX0_isCharacter_23 : decode cX0_isCharacter 23 = .ok (.goto 4, 3) := by decide +kernel
theorem dX0_isCharacter_26 : decode cX0_isCharacter 26 = .ok (.iconst 0, 1) := by decide +kernel
theorem dX0_isCharacter_27 : decode cX0_isCharacter 27 = .ok (.ireturn, 1) := by decide +kernel
theorem dX0_escapedFormOf_0 : decode cX0_escapedFormOf 0 = .ok (.iload_n 0, 1) := by decide +kernel
theorem dX0_escapedFormOf_1 : decode cX0_escapedFormOf 1 = .ok (.lookupswitch 55 #[(9, 49), (10, 46), (13, 52), (92, 43)], 43) := by decide +kernel
theorem dX0_escapedFormOf_44 : decode cX0_escapedFormOf 44 = .ok (.bipush 92, 2) := by decide +kernel
theorem dX0_escapedFormOf_46 : decode cX0_escapedFormOf 46 = .ok (.ireturn, 1) := by decide +kernel
theorem dX0_escapedFormOf_47 : decode cX0_escapedFormOf 47 = .ok (.bipush 110, 2) := by decide +kernel
theorem dX0_escapedFormOf_49 : decode cX0_escapedFormOf 49 = .ok (.ireturn, 1) := by decide +kernel
theorem dX0_escapedFormOf_50 : decode cX0_escapedFormOf 50 = .ok (.bipush 116, 2) := by decide +kernel
theorem dX0_escapedFormOf_52 : decode cX0_escapedFormOf 52 = .ok (.ireturn, 1) := by decide +kernel
theorem dX0_escapedFormOf_53 : decode cX0_escapedFormOf 53 = .ok (.bipush 114, 2) := by decide +kernel
theorem dX0_escapedFormOf_55 : decode cX0_escapedFormOf 55 = .ok (.ireturn, 1) := by decide +kernel
theorem dX0_escapedFormOf_56 : decode cX0_escapedFormOf 56 = .ok (.iconst 0, 1) := by decide +kernel
theorem dX0_escapedFormOf_57 : decode cX0_escapedFormOf 57 = .ok (.ireturn, 1) := by decide +kernel
set_option maxRecDepth 20000 in
theorem ggX0_sizeOf_X0_escapedFormOf : GoodIn wsX0_sizeOf wsX0_escapedFormOf := goodIn_r _ [5] (by decide +kernel) (by decide +kernel)
set_option maxRecDepth 20000 in
theorem gX0_sizeOf_X0_escapedFormOf : GoodIn wsX0_sizeOf (va_wsS RX0 81 yX0_escapedFormOf wsX0_escapedFormOf) := goodIn_app (goodIn_of _ (by decide +kernel)) ggX0_sizeOf_X0_escapedFormOf
theorem dX0_sizeOf_0 : decode cX0_sizeOf 0 = .ok (.iload_n 0, 1) := by decide +kernel
theorem dX0_sizeOf_1 : decode cX0_sizeOf 1 = .ok (.invokestatic 81, 3) := by decide +kernel
theorem dX0_sizeOf_4 : decode cX0_sizeOf 4 = .ok (.ifCond .eq 5, 3) := by decide +kernel
theorem dX0_sizeOf_7 : decode cX0_sizeOf 7 = .ok (.iconst 2, 1) := by decide +kernel
theorem dX0_sizeOf_8 : decode cX0_sizeOf 8 = .ok (.ireturn, 1) := by decide +kernel
theorem dX0_sizeOf_9 : decode cX0_sizeOf 9 = .ok (.iload_n 0, 1) := by decide +kernel
theorem dX0_sizeOf_10 : decode cX0_sizeOf 10 = .ok (.sipush 128, 3) := by decide +kernel
theorem dX0_sizeOf_13 : decode cX0_sizeOf 13 = .ok (.if_icmp .ge 5, 3) := by decide +kernel
theorem dX0_sizeOf_16 : decode cX0_sizeOf 16 = .ok (.iconst 1, 1) := by decide +kernel
theorem dX0_sizeOf_17 : decode cX0_sizeOf 17 = .ok (.ireturn, 1) := by decide +kernel
theorem dX0_sizeOf_18 : decode cX0_sizeOf 18 = .ok (.iload_n 0, 1) := by decide +kernel
theorem dX0_sizeOf_19 : decode cX0_sizeOf 19 = .ok (.sipush 2048, 3) := by decide +kernel
theorem dX0_sizeOf_22 : decode cX0_sizeOf 22 = .ok (.if_icmp .ge 5, 3) := by decide +kernel
theorem dX0_sizeOf_25 : decode cX0_sizeOf 25 = .ok (.iconst 2, 1) := by decide +kernel
theorem dX0_sizeOf_26 : decode cX0_sizeOf 26 = .ok (.ireturn, 1) := by decide +kernel
theorem dX0_sizeOf_27 : decode cX0_sizeOf 27 = .ok (.iload_n 0, 1) := by decide +kernel
theorem dX0_sizeOf_28 : decode cX0_sizeOf 28 = .ok (.ldc 84, 2) := by decide +kernel
theorem dX0_sizeOf_30 : decode cX0_sizeOf 30 = .ok (.if_icmp .ge 7, 3) := by decide +kernel
theorem dX0_sizeOf_33 : decode cX0_sizeOf 33 = .ok (.iconst 3, 1) := by decide +kernel
theorem dX0_sizeOf_34 : decode cX0_sizeOf 34 = .ok (.goto 4, 3) := by decide +kernel
theorem dX0_sizeOf_37 : decode cX0_sizeOf 37 = .ok (.iconst 4, 1) := by decide +kernel
theorem dX0_sizeOf_38 : decode cX0_sizeOf 38 = .ok (.ireturn, 1) := by decide +kernel
set_option maxRecDepth 20000 in
theorem ggX0_putCharacter_X0_escapedFormOf : GoodIn wsX0_putCharacter wsX0_escapedFormOf := goodIn_r _ [4] (by decide +kernel) (by decide +kernel)
set_option maxRecDepth 20000 in
theorem gX0_putCharacter_X0_escapedFormOf : GoodIn wsX0_putCharacter (va_wsS RX0 81 yX0_escapedFormOf wsX0_escapedFormOf) := goodIn_app (goodIn_of _ (by decide +kernel)) ggX0_putCharacter_X0_escapedFormOf
set_option maxRecDepth 20000 in
theorem ggX0_putCharacter_X0_put : GoodIn wsX0_putCharacter wsX0_put := goodIn_r _ [8, 9, 10, 20, 21, 22, 23, 24, 25] (by decide +kernel) (by decide +kernel)
set_option maxRecDepth 20000 in
theorem gX0_putCharacter_X0_put : GoodIn wsX0_putCharacter (wsV RX0 75 RX0 yX0_put wsX0_put) := goodIn_app (goodIn_of _ (by decide +kernel)) ggX0_putCharacter_X0_put
set_option maxRecDepth 20000 in
theorem ggX0_putCharacter_X0_putUtf8 : GoodIn wsX0_putCharacter wsX0_putUtf8 := goodIn_r _ [14, 15, 5, 6, 7, 3, 8, 9, 10, 16, 17, 18, 19, 20, 21, 22, 23, 24, 25] (by decide +kernel) (by decide +kernel)
set_option maxRecDepth 20000 in
theorem gX0_putCharacter_X0_putUtf8 : GoodIn wsX0_putCharacter (wsV RX0 85 RX0 yX0_putUtf8 wsX0_putUtf8) := goodIn_app (goodIn_of _ (by decide +kernel)) ggX0_putCharacter_X0_putUtf8
theorem dX0_putCharacter_0 : decode cX0_putCharacter 0 = .ok (.iload_n 1, 1) := by decide +kernel
theorem dX0_putCharacter_1 : decode cX0_putCharacter 1 = .ok (.invokestatic 81, 3) := by decide +kernel
theorem dX0_putCharacter_4 : decode cX0_putCharacter 4 = .ok (.istore_n 2, 1) := by decide +kernel
theorem dX0_putCharacter_5 : decode cX0_putCharacter 5 = .ok (.iload_n 2, 1) := by decide +kernel
theorem dX0_putCharacter_6 : decode cX0_putCharacter 6 = .ok (.ifCond .eq 17, 3) := by decide +kernel
theorem dX0_putCharacter_9 : decode cX0_putCharacter 9 = .ok (.aload_n 0, 1) := by decide +kernel
theorem dX0_putCharacter_10 : decode cX0_putCharacter 10 = .ok (.bipush 92, 2) := by decide +kernel
theorem dX0_putCharacter_12 : decode cX0_putCharacter 12 = .ok (.invokevirtual 75, 3) := by decide +kernel
theorem dX0_putCharacter_15 : decode cX0_putCharacter 15 = .ok (.aload_n 0, 1) := by decide +kernel
theorem dX0_putCharacter_16 : decode cX0_putCharacter 16 = .ok (.iload_n 2, 1) := by decide +kernel
theorem dX0_putCharacter_17 : decode cX0_putCharacter 17 = .ok (.invokevirtual 75, 3) := by decide +kernel
theorem dX0_putCharacter_20 : decode cX0_putCharacter 20 = .ok (.goto 8, 3) := by decide +kernel
theorem dX0_putCharacter_23 : decode cX0_putCharacter 23 = .ok (.aload_n 0, 1) := by decide +kernel
theorem dX0_putCharacter_24 : decode cX0_putCharacter 24 = .ok (.iload_n 1, 1) := by decide +kernel
theorem dX0_putCharacter_25 : decode cX0_putCharacter 25 = .ok (.invokevirtual 85, 3) := by decide +kernel
theorem dX0_putCharacter_28 : decode cX0_putCharacter 28 = .ok (.return_, 1) := by decide +kernel
set_option maxRecDepth 20000 in
theorem ggX0_putUtf8_X0_put : GoodIn wsX0_putUtf8 wsX0_put := goodIn_r _ [6, 7, 8, 13, 14, 15, 16, 17, 18] (by decide +kernel) (by decide +kernel)
set_option maxRecDepth 20000 in
theorem gX0_putUtf8_X0_put : GoodIn wsX0_putUtf8 (wsV RX0 75 RX0 yX0_put wsX0_put) := goodIn_app (goodIn_of _ (by decide +kernel)) ggX0_putUtf8_X0_put
set_option maxRecDepth 20000 in
theorem ggX0_putUtf8_X0_putTail : GoodIn wsX0_putUtf8 wsX0_putTail := goodIn_r _ [12, 2, 3, 4, 5, 6, 7, 8, 13, 14, 15, 16, 17, 18] (by decide +kernel) (by decide +kernel)
set_option maxRecDepth 20000 in
theorem gX0_putUtf8_X0_putTail : GoodIn wsX0_putUtf8 (wsV RX0 88 RX0 yX0_putTail wsX0_putTail) := goodIn_app (goodIn_of _ (by decide +kernel)) ggX0_putUtf8_X0_putTail
theorem dX0_putUtf8_0 : decode cX0_putUtf8 0 = .ok (.iload_n 1, 1) := by decide +kernel
theorem dX0_putUtf8_1 : decode cX0_putUtf8 1 = .ok (.sipush 128, 3) := by decide +kernel
theorem dX0_putUtf8_4 : decode cX0_putUtf8 4 = .ok (.if_icmp .ge 11, 3) := by decide +kernel
theorem dX0_putUtf8_7 : decode cX0_putUtf8 7 = .ok (.aload_n 0, 1) := by decide +kernel
theorem dX0_putUtf8_8 : decode cX0_putUtf8 8 = .ok (.iload_n 1, 1) := by decide +kernel
theorem dX0_putUtf8_9 : decode cX0_putUtf8 9 = .ok (.invokevirtual 75, 3) := by decide +kernel
theorem dX0_putUtf8_12 : decode cX0_putUtf8 12 = .ok (.goto 97, 3) := by decide +kernel
theorem dX0_putUtf8_15 : decode cX0_putUtf8 15 = .ok (.iload_n 1, 1) := by decide +kernel
theorem dX0_putUtf8_16 : decode cX0_putUtf8 16 = .ok (.sipush 2048, 3) := by decide +kernel
theorem dX0_putUtf8_19 : decode cX0_putUtf8 19 = .ok (.if_icmp .ge 23, 3) := by decide +kernel
theorem dX0_putUtf8_22 : decode cX0_putUtf8 22 = .ok (.aload_n 0, 1) := by decide +kernel
theorem dX0_putUtf8_23 : decode cX0_putUtf8 23 = .ok (.sipush 192, 3) := by decide +kernel
theorem dX0_putUtf8_26 : decode cX0_putUtf8 26 = .ok (.iload_n 1, 1) := by decide +kernel
theorem dX0_putUtf8_27 : decode cX0_putUtf8 27 = .ok (.bipush 6, 2) := by decide +kernel
theorem dX0_putUtf8_29 : decode cX0_putUtf8 29 = .ok (.ishr, 1) := by decide +kernel
theorem dX0_putUtf8_30 : decode cX0_putUtf8 30 = .ok (.ior, 1) := by decide +kernel
theorem dX0_putUtf8_31 : decode cX0_putUtf8 31 = .ok (.invokevirtual 75, 3) := by decide +kernel
theorem dX0_putUtf8_34 : decode cX0_putUtf8 34 = .ok (.aload_n 0, 1) := by decide +kernel
theorem dX0_putUtf8_35 : decode cX0_putUtf8 35 = .ok (.iload_n 1, 1) := by decide +kernel
theorem dX0_putUtf8_36 : decode cX0_putUtf8 36 = .ok (.invokevirtual 88, 3) := by decide +kernel
theorem dX0_putUtf8_39 : decode cX0_putUtf8 39 = .ok (.goto 70, 3) := by decide +kernel
theorem dX0_putUtf8_42 : decode cX0_putUtf8 42 = .ok (.iload_n 1, 1) := by decide +kernel
theorem dX0_putUtf8_43 : decode cX0_putUtf8 43 = .ok (.ldc 84, 2) := by decide +kernel
theorem dX0_putUtf8_45 : decode cX0_putUtf8 45 = .ok (.if_icmp .ge 31, 3) := by decide +kernel
theorem dX0_putUtf8_48 : decode cX0_putUtf8 48 = .ok (.aload_n 0, 1) := by decide +kernel
theorem dX0_putUtf8_49 : decode cX0_putUtf8 49 = .ok (.sipush 224, 3) := by decide +kernel
theorem dX0_putUtf8_52 : decode cX0_putUtf8 52 = .ok (.iload_n 1, 1) := by decide +kernel
theorem dX0_putUtf8_53 : decode cX0_putUtf8 53 = .ok (.bipush 12, 2) := by decide +kernel
theorem dX0_putUtf8_55 : decode cX0_putUtf8 55 = .ok (.ishr, 1) := by decide +kernel
theorem dX0_putUtf8_56 : decode cX0_putUtf8 56 = .ok (.ior, 1) := by decide +kernel
theorem dX0_putUtf8_57 : decode cX0_putUtf8 57 = .ok (.invokevirtual 75, 3) := by decide +kernel
theorem dX0_putUtf8_60 : decode cX0_putUtf8 60 = .ok (.aload_n 0, 1) := by decide +kernel
theorem dX0_putUtf8_61 : decode cX0_putUtf8 61 = .ok (.iload_n 1, 1) := by decide +kernel
theorem dX0_putUtf8_62 : decode cX0_putUtf8 62 = .ok (.bipush 6, 2) := by decide +kernel
theorem dX0_putUtf8_64 : decode cX0_putUtf8 64 = .ok (.ishr, 1) := by decide +kernel
theorem dX0_putUtf8_65 : decode cX0_putUtf8 65 = .ok (.invokevirtual 88, 3) := by decide +kernel
theorem dX0_putUtf8_68 : decode cX0_putUtf8 68 = .ok (.aload_n 0, 1) := by decide +kernel
theorem dX0_putUtf8_69 : decode cX0_putUtf8 69 = .ok (.iload_n 1, 1) := by decide +kernel
theorem dX0_putUtf8_70 : decode cX0_putUtf8 70 = .ok (.invokevirtual 88, 3) := by decide +kernel
theorem dX0_putUtf8_73 : decode cX0_putUtf8 73 = .ok (.goto 36, 3) := by decide +kernel
theorem dX0_putUtf8_76 : decode cX0_putUtf8 76 = .ok (.aload_n 0, 1) := by decide +kernel
theorem dX0_putUtf8_77 : decode cX0_putUtf8 77 = .ok (.sipush 240, 3) := by decide +kernel
theorem dX0_putUtf8_80 : decode cX0_putUtf8 80 = .ok (.iload_n 1, 1) := by decide +kernel
theorem dX0_putUtf8_81 : decode cX0_putUtf8 81 = .ok (.bipush 18, 2) := by decide +kernel
theorem dX0_putUtf8_83 : decode cX0_putUtf8 83 = .ok (.ishr, 1) := by decide +kernel
theorem dX0_putUtf8_84 : decode cX0_putUtf8 84 = .ok (.ior, 1) := by decide +kernel
theorem dX0_putUtf8_85 : decode cX0_putUtf8 85 = .ok (.invokevirtual 75, 3) := by decide +kernel
theorem dX0_putUtf8_88 : decode cX0_putUtf8 88 = .ok (.aload_n 0, 1) := by decide +kernel
theorem dX0_putUtf8_89 : decode cX0_putUtf8 89 = .ok (.iload_n 1, 1) := by decide +kernel
theorem dX0_putUtf8_90 : decode cX0_putUtf8 90 = .ok (.bipush 12, 2) := by decide +kernel
theorem dX0_putUtf8_92 : decode cX0_putUtf8 92 = .ok (.ishr, 1) := by decide +kernel
theorem dX0_putUtf8_93 : decode cX0_putUtf8 93 = .ok (.invokevirtual 88, 3) := by decide +kernel
theorem dX0_putUtf8_96 : decode cX0_putUtf8 96 = .ok (.aload_n 0, 1) := by decide +kernel
theorem dX0_putUtf8_97 : decode cX0_putUtf8 97 = .ok (.iload_n 1, 1) := by decide +kernel
theorem dX0_putUtf8_98 : decode cX0_putUtf8 98 = .ok (.bipush 6, 2) := by decide +kernel
theorem dX0_putUtf8_100 : decode cX0_putUtf8 100 = .ok (.ishr, 1) := by decide +kernel
theorem dX0_putUtf8_101 : decode cX0_putUtf8 101 = .ok (.invokevirtual 88, 3) := by decide +kernel
theorem dX0_putUtf8_104 : decode cX0_putUtf8 104 = .ok (.aload_n 0, 1) := by decide +kernel
theorem dX0_putUtf8_105 : decode cX0_putUtf8 105 = .ok (.iload_n 1, 1) := by decide +kernel
theorem dX0_putUtf8_106 : decode cX0_putUtf8 106 = .ok (.invokevirtual 88, 3) := by decide +kernel
theorem dX0_putUtf8_109 : decode cX0_putUtf8 109 = .ok (.return_, 1) := by decide +kernel
set_option maxRecDepth 20000 in
theorem ggX0_putTail_X0_put : GoodIn wsX0_putTail wsX0_put := goodIn_r _ [5, 6, 7, 8, 9, 10, 11, 12, 13] (by decide +kernel) (by decide +kernel)
set_option maxRecDepth 20000 in
theorem gX0_putTail_X0_put : GoodIn wsX0_putTail (wsV RX0 75 RX0 yX0_put wsX0_put) := goodIn_app (goodIn_of _ (by decide +kernel)) ggX0_putTail_X0_put
theorem dX0_putTail_0 : decode cX0_putTail 0 = .ok (.aload_n 0, 1) := by decide +kernel
theorem dX0_putTail_1 : decode cX0_putTail 1 = .ok (.sipush 128, 3) := by decide +kernel
theorem dX0_putTail_4 : decode cX0_putTail 4 = .ok (.iload_n 1, 1) := by decide +kernel
theorem dX0_putTail_5 : decode cX0_putTail 5 = .ok (.bipush 63, 2) := by decide +kernel
theorem dX0_putTail_7 : decode cX0_putTail 7 = .ok (.iand, 1) := by decide +kernel
theorem dX0_putTail_8 : decode cX0_putTail 8 = .ok (.ior, 1) := by decide +kernel
theorem dX0_putTail_9 : decode cX0_putTail 9 = .ok (.invokevirtual 75, 3) := by decide +kernel
theorem dX0_putTail_12 : decode cX0_putTail 12 = .ok (.return_, 1) := by decide +kernel
theorem dX0_put_0 : decode cX0_put 0 = .ok (.aload_n 0, 1) := by decide +kernel
theorem dX0_put_1 : decode cX0_put 1 = .ok (.getfield 13, 3) := by decide +kernel
theorem dX0_put_4 : decode cX0_put 4 = .ok (.sipush 4095, 3) := by decide +kernel
theorem dX0_put_7 : decode cX0_put 7 = .ok (.iand, 1) := by decide +kernel
theorem dX0_put_8 : decode cX0_put 8 = .ok (.istore_n 2, 1) := by decide +kernel
theorem dX0_put_9 : decode cX0_put 9 = .ok (.iload_n 2, 1) := by decide +kernel
theorem dX0_put_10 : decode cX0_put 10 = .ok (.aload_n 0, 1) := by decide +kernel
theorem dX0_put_11 : decode cX0_put 11 = .ok (.getfield 9, 3) := by decide +kernel
theorem dX0_put_14 : decode cX0_put 14 = .ok (.arraylength, 1) := by decide +kernel
theorem dX0_put_15 : decode cX0_put 15 = .ok (.if_icmp .ge 11, 3) := by decide +kernel
theorem dX0_put_18 : decode cX0_put 18 = .ok (.aload_n 0, 1) := by decide +kernel
theorem dX0_put_19 : decode cX0_put 19 = .ok (.getfield 9, 3) := by decide +kernel
theorem dX0_put_22 : decode cX0_put 22 = .ok (.iload_n 2, 1) := by decide +kernel
theorem dX0_put_23 : decode cX0_put 23 = .ok (.iload_n 1, 1) := by decide +kernel
theorem dX0_put_24 : decode cX0_put 24 = .ok (.i2b, 1) := by decide +kernel
theorem dX0_put_25 : decode cX0_put 25 = .ok (.bastore, 1) := by decide +kernel
theorem dX0_put_26 : decode cX0_put 26 = .ok (.aload_n 0, 1) := by decide +kernel
theorem dX0_put_27 : decode cX0_put 27 = .ok (.dup, 1) := by decide +kernel
theorem dX0_put_28 : decode cX0_put 28 = .ok (.getfield 13, 3) := by decide +kernel
theorem dX0_put_31 : decode cX0_put 31 = .ok (.iconst 1, 1) := by decide +kernel
theorem dX0_put_32 : decode cX0_put 32 = .ok (.iadd, 1) := by decide +kernel
theorem dX0_put_33 : decode cX0_put 33 = .ok (.putfield 13, 3) := by decide +kernel
theorem dX0_put_36 : decode cX0_put 36 = .ok (.return_, 1) := by decide +kernel
theorem dX0_byteAt_0 : decode cX0_byteAt 0 = .ok (.iload_n 1, 1) := by decide +kernel
theorem dX0_byteAt_1 : decode cX0_byteAt 1 = .ok (.sipush 4095, 3) := by decide +kernel
theorem dX0_byteAt_4 : decode cX0_byteAt 4 = .ok (.iand, 1) := by decide +kernel
theorem dX0_byteAt_5 : decode cX0_byteAt 5 = .ok (.istore_n 2, 1) := by decide +kernel
theorem dX0_byteAt_6 : decode cX0_byteAt 6 = .ok (.iload_n 2, 1) := by decide +kernel
theorem dX0_byteAt_7 : decode cX0_byteAt 7 = .ok (.aload_n 0, 1) := by decide +kernel
theorem dX0_byteAt_8 : decode cX0_byteAt 8 = .ok (.getfield 9, 3) := by decide +kernel
theorem dX0_byteAt_11 : decode cX0_byteAt 11 = .ok (.arraylength, 1) := by decide +kernel
theorem dX0_byteAt_12 : decode cX0_byteAt 12 = .ok (.if_icmp .ge 16, 3) := by decide +kernel
theorem dX0_byteAt_15 : decode cX0_byteAt 15 = .ok (.aload_n 0, 1) := by decide +kernel
theorem dX0_byteAt_16 : decode cX0_byteAt 16 = .ok (.getfield 9, 3) := by decide +kernel
theorem dX0_byteAt_19 : decode cX0_byteAt 19 = .ok (.iload_n 2, 1) := by decide +kernel
theorem dX0_byteAt_20 : decode cX0_byteAt 20 = .ok (.baload, 1) := by decide +kernel
theorem dX0_byteAt_21 : decode cX0_byteAt 21 = .ok (.sipush 255, 3) := by decide +kernel
theorem dX0_byteAt_24 : decode cX0_byteAt 24 = .ok (.iand, 1) := by decide +kernel
theorem dX0_byteAt_25 : decode cX0_byteAt 25 = .ok (.goto 4, 3) := by decide +kernel
theorem dX0_byteAt_28 : decode cX0_byteAt 28 = .ok (.iconst 0, 1) := by decide +kernel
theorem dX0_byteAt_29 : decode cX0_byteAt 29 = .ok (.ireturn, 1) := by decide +kernel
theorem dX1_init_0 : decode cX1_init 0 = .ok (.aload_n 0, 1) := by decide +kernel
theorem dX1_init_1 : decode cX1_init 1 = .ok (.invokespecial 1, 3) := by decide +kernel
theorem dX1_init_4 : decode cX1_init 4 = .ok (.aload_n 0, 1) := by decide +kernel
theorem dX1_init_5 : decode cX1_init 5 = .ok (.sipush 3000, 3) := by decide +kernel
theorem dX1_init_8 : decode cX1_init 8 = .ok (.newarray .int, 2) := by decide +kernel
theorem dX1_init_10 : decode cX1_init 10 = .ok (.putfield 7, 3) := by decide +kernel
theorem dX1_init_13 : decode cX1_init 13 = .ok (.aload_n 0, 1) := by decide +kernel
theorem dX1_init_14 : decode cX1_init 14 = .ok (.iconst (-1), 1) := by decide +kernel
theorem dX1_init_15 : decode cX1_init 15 = .ok (.putfield 13, 3) := by decide +kernel
theorem dX1_init_18 : decode cX1_init 18 = .ok (.aload_n 0, 1) := by decide +kernel
theorem dX1_init_19 : decode cX1_init 19 = .ok (.bipush 10, 2) := by decide +kernel
theorem dX1_init_21 : decode cX1_init 21 = .ok (.putfield 17, 3) := by decide +kernel
theorem dX1_init_24 : decode cX1_init 24 = .ok (.aload_n 0, 1) := by decide +kernel
theorem dX1_init_25 : decode cX1_init 25 = .ok (.iconst 4, 1) := by decide +kernel
theorem dX1_init_26 : decode cX1_init 26 = .ok (.newarray .int, 2) := by decide +kernel
theorem dX1_init_28 : decode cX1_init 28 = .ok (.putfield 20, 3) := by decide +kernel
theorem dX1_init_31 : decode cX1_init 31 = .ok (.return_, 1) := by decide +kernel
theorem dX1_put_0 : decode cX1_put 0 = .ok (.aload_n 0, 1) := by decide +kernel
theorem dX1_put_1 : decode cX1_put 1 = .ok (.getfield 7, 3) := by decide +kernel
theorem dX1_put_4 : decode cX1_put 4 = .ok (.aload_n 0, 1) := by decide +kernel
theorem dX1_put_5 : decode cX1_put 5 = .ok (.getfield 23, 3) := by decide +kernel
theorem dX1_put_8 : decode cX1_put 8 = .ok (.iload_n 1, 1) := by decide +kernel
theorem dX1_put_9 : decode cX1_put 9 = .ok (.iastore, 1) := by decide +kernel
theorem dX1_put_10 : decode cX1_put 10 = .ok (.aload_n 0, 1) := by decide +kernel
theorem dX1_put_11 : decode cX1_put 11 = .ok (.aload_n 0, 1) := by decide +kernel
theorem dX1_put_12 : decode cX1_put 12 = .ok (.getfield 23, 3) := by decide +kernel
theorem dX1_put_15 : decode cX1_put 15 = .ok (.iconst 1, 1) := by decide +kernel
theorem dX1_put_16 : decode cX1_put 16 = .ok (.iadd, 1) := by decide +kernel
theorem dX1_put_17 : decode cX1_put 17 = .ok (.putfield 23, 3) := by decide +kernel
theorem dX1_put_20 : decode cX1_put 20 = .ok (.aload_n 0, 1) := by decide +kernel
theorem dX1_put_21 : decode cX1_put 21 = .ok (.aload_n 0, 1) := by decide +kernel
theorem dX1_put_22 : decode cX1_put 22 = .ok (.getfield 26, 3) := by decide +kernel
theorem dX1_put_25 : decode cX1_put 25 = .ok (.iconst 1, 1) := by decide +kernel
theorem dX1_put_26 : decode cX1_put 26 = .ok (.iadd, 1) := by decide +kernel
theorem dX1_put_27 : decode cX1_put 27 = .ok (.putfield 26, 3) := by decide +kernel
theorem dX1_put_30 : decode cX1_put 30 = .ok (.return_, 1) := by decide +kernel
theorem dX1_code_0 : decode cX1_code 0 = .ok (.iload_n 1, 1) := by decide +kernel
theorem dX1_code_1 : decode cX1_code 1 = .ok (.ifCond .lt 21, 3) := by decide +kernel
theorem dX1_code_4 : decode cX1_code 4 = .ok (.iload_n 1, 1) := by decide +kernel
theorem dX1_code_5 : decode cX1_code 5 = .ok (.ldc 29, 2) := by decide +kernel
theorem dX1_code_7 : decode cX1_code 7 = .ok (.if_icmp .gt 15, 3) := by decide +kernel
theorem dX1_code_10 : decode cX1_code 10 = .ok (.iload_n 1, 1) := by decide +kernel
theorem dX1_code_11 : decode cX1_code 11 = .ok (.ldc 30, 2) := by decide +kernel
theorem dX1_code_13 : decode cX1_code 13 = .ok (.if_icmp .lt 11, 3) := by decide +kernel
theorem dX1_code_16 : decode cX1_code 16 = .ok (.iload_n 1, 1) := by decide +kernel
theorem dX1_code_17 : decode cX1_code 17 = .ok (.ldc 31, 2) := by decide +kernel
theorem dX1_code_19 : decode cX1_code 19 = .ok (.if_icmp .ge 5, 3) := by decide +kernel
theorem dX1_code_22 : decode cX1_code 22 = .ok (.iconst 0, 1) := by decide +kernel
theorem dX1_code_23 : decode cX1_code 23 = .ok (.ireturn, 1) := by decide +kernel
theorem dX1_code_24 : decode cX1_code 24 = .ok (.aload_n 0, 1) := by decide +kernel
theorem dX1_code_25 : decode cX1_code 25 = .ok (.iload_n 1, 1) := by decide +kernel
theorem dX1_code_26 : decode cX1_code 26 = .ok (.sipush 128, 3) := by decide +kernel
theorem dX1_code_29 : decode cX1_code 29 = .ok (.if_icmp .ge 7, 3) := by decide +kernel
theorem dX1_code_32 : decode cX1_code 32 = .ok (.iconst 1, 1) := by decide +kernel
theorem dX1_code_33 : decode cX1_code 33 = .ok (.goto 25, 3) := by decide +kernel
theorem dX1_code_36 : decode cX1_code 36 = .ok (.iload_n 1, 1) := by decide +kernel
theorem dX1_code_37 : decode cX1_code 37 = .ok (.sipush 2048, 3) := by decide +kernel
theorem dX1_code_40 : decode cX1_code 40 = .ok (.if_icmp .ge 7, 3) := by decide +kernel
theorem dX1_code_43 : decode cX1_code 43 = .ok (.iconst 2, 1) := by decide +kernel
theorem dX1_code_44 : decode cX1_code 44 = .ok (.goto 14, 3) := by decide +kernel
theorem dX1_code_47 : decode cX1_code 47 = .ok (.iload_n 1, 1) := by decide +kernel
theorem dX1_code_48 : decode cX1_code 48 = .ok (.ldc 32, 2) := by decide +kernel
theorem dX1_code_50 : decode cX1_code 50 = .ok (.if_icmp .ge 7, 3) := by decide +kernel
theorem dX1_code_53 : decode cX1_code 53 = .ok (.iconst 3, 1) := by decide +kernel
theorem dX1_code_54 : decode cX1_code 54 = .ok (.goto 4, 3) := by decide +kernel
theorem dX1_code_57 : decode cX1_code 57 = .ok (.iconst 4, 1) := by decide +kernel
theorem dX1_code_58 : decode cX1_code 58 = .ok (.putfield 33, 3) := by decide +kernel
theorem dX1_code_61 : decode cX1_code 61 = .ok (.iload_n 1, 1) := by decide +kernel
theorem dX1_code_62 : decode cX1_code 62 = .ok (.istore_n 2, 1) := by decide +kernel
theorem dX1_code_63 : decode cX1_code 63 = .ok (.aload_n 0, 1) := by decide +kernel
theorem dX1_code_64 : decode cX1_code 64 = .ok (.getfield 33, 3) := by decide +kernel
theorem dX1_code_67 : decode cX1_code 67 = .ok (.iconst 1, 1) := by decide +kernel
theorem dX1_code_68 : decode cX1_code 68 = .ok (.isub, 1) := by decide +kernel
theorem dX1_code_69 : decode cX1_code 69 = .ok (.istore_n 3, 1) := by decide +kernel
theorem dX1_code_70 : decode cX1_code 70 = .ok (.iload_n 3, 1) := by decide +kernel
theorem dX1_code_71 : decode cX1_code 71 = .ok (.ifCond .le 28, 3) := by decide +kernel
theorem dX1_code_74 : decode cX1_code 74 = .ok (.aload_n 0, 1) := by decide +kernel
theorem dX1_code_75 : decode cX1_code 75 = .ok (.getfield 20, 3) := by decide +kernel
theorem dX1_code_78 : decode cX1_code 78 = .ok (.iload_n 3, 1) := by decide +kernel
theorem dX1_code_79 : decode cX1_code 79 = .ok (.sipush 128, 3) := by decide +kernel
theorem dX1_code_82 : decode cX1_code 82 = .ok (.iload_n 2, 1) := by decide +kernel
theorem dX1_code_83 : decode cX1_code 83 = .ok (.bipush 64, 2) := by decide +kernel
theorem dX1_code_85 : decode cX1_code 85 = .ok (.irem, 1) := by decide +kernel
theorem dX1_code_86 : decode cX1_code 86 = .ok (.iadd, 1) := by decide +kernel
theorem dX1_code_87 : decode cX1_code 87 = .ok (.iastore, 1) := by decide +kernel
theorem dX1_code_88 : decode cX1_code 88 = .ok (.iload_n 2, 1) := by decide +kernel
theorem dX1_code_89 : decode cX1_code 89 = .ok (.bipush 64, 2) := by decide +kernel
theorem dX1_code_91 : decode cX1_code 91 = .ok (.idiv, 1) := by decide +kernel
theorem dX1_code_92 : decode cX1_code 92 = .ok (.istore_n 2, 1) := by decide +kernel
theorem dX1_code_93 : decode cX1_code 93 = .ok (.iinc 3 (-1), 3) := by decide +kernel
theorem dX1_code_96 : decode cX1_code 96 = .ok (.goto (-26), 3) := by decide +kernel
theorem dX1_code_99 : decode cX1_code 99 = .ok (.aload_n 0, 1) := by decide +kernel
theorem dX1_code_100 : decode cX1_code 100 = .ok (.getfield 20, 3) := by decide +kernel
theorem dX1_code_103 : decode cX1_code 103 = .ok (.iconst 0, 1) := by decide +kernel
theorem dX1_code_104 : decode cX1_code 104 = .ok (.aload_n 0, 1) := by decide +kernel
theorem dX1_code_105 : decode cX1_code 105 = .ok (.getfield 33, 3) := by decide +kernel
theorem dX1_code_108 : decode cX1_code 108 = .ok (.iconst 1, 1) := by decide +kernel
theorem dX1_code_109 : decode cX1_code 109 = .ok (.if_icmp .ne 7, 3) := by decide +kernel
theorem dX1_code_112 : decode cX1_code 112 = .ok (.iload_n 2, 1) := by decide +kernel
theorem dX1_code_113 : decode cX1_code 113 = .ok (.goto 40, 3) := by decide +kernel
theorem dX1_code_116 : decode cX1_code 116 = .ok (.aload_n 0, 1) := by decide +kernel
theorem dX1_code_117 : decode cX1_code 117 = .ok (.getfield 33, 3) := by decide +kernel
theorem dX1_code_120 : decode cX1_code 120 = .ok (.iconst 2, 1) := by decide +kernel
theorem dX1_code_121 : decode cX1_code 121 = .ok (.if_icmp .ne 11, 3) := by decide +kernel
theorem dX1_code_124 : decode cX1_code 124 = .ok (.sipush 192, 3) := by decide +kernel
theorem dX1_code_127 : decode cX1_code 127 = .ok (.iload_n 2, 1) := by decide +kernel
theorem dX1_code_128 : decode cX1_code 128 = .ok (.iadd, 1) := by decide +kernel
theorem dX1_code_129 : decode cX1_code 129 = .ok (.goto 24, 3) := by decide +kernel
theorem dX1_code_132 : decode cX1_code 132 = .ok (.aload_n 0, 1) := by decide +kernel
theorem dX1_code_133 : decode cX1_code 133 = .ok (.getfield 33, 3) := by decide +kernel
theorem dX1_code_136 : decode cX1_code 136 = .ok (.iconst 3, 1) := by decide +kernel
theorem dX1_code_137 : decode cX1_code 137 = .ok (.if_icmp .ne 11, 3) := by decide +kernel
theorem dX1_code_140 : decode cX1_code 140 = .ok (.sipush 224, 3) := by decide +kernel
theorem dX1_code_143 : decode cX1_code 143 = .ok (.iload_n 2, 1) := by decide +kernel
theorem dX1_code_144 : decode cX1_code 144 = .ok (.iadd, 1) := by decide +kernel
theorem dX1_code_145 : decode cX1_code 145 = .ok (.goto 8, 3) := by decide +kernel
theorem dX1_code_148 : decode cX1_code 148 = .ok (.sipush 240, 3) := by decide +kernel
theorem dX1_code_151 : decode cX1_code 151 = .ok (.iload_n 2, 1) := by decide +kernel
theorem dX1_code_152 : decode cX1_code 152 = .ok (.iadd, 1) := by decide +kernel
theorem dX1_code_153 : decode cX1_code 153 = .ok (.iastore, 1) := by decide +kernel
theorem dX1_code_154 : decode cX1_code 154 = .ok (.iload_n 1, 1) := by decide +kernel
theorem dX1_code_155 : decode cX1_code 155 = .ok (.bipush 92, 2) := by decide +kernel
theorem dX1_code_157 : decode cX1_code 157 = .ok (.if_icmp .ne 8, 3) := by decide +kernel
theorem dX1_code_160 : decode cX1_code 160 = .ok (.bipush 92, 2) := by decide +kernel
theorem dX1_code_162 : decode cX1_code 162 = .ok (.goto 37, 3) := by decide +kernel
theorem dX1_code_165 : decode cX1_code 165 = .ok (.iload_n 1, 1) := by decide +kernel
theorem dX1_code_166 : decode cX1_code 166 = .ok (.bipush 10, 2) := by decide +kernel
theorem dX1_code_168 : decode cX1_code 168 = .ok (.if_icmp .ne 8, 3) := by decide +kernel
theorem dX1_code_171 : decode cX1_code 171 = .ok (.bipush 110, 2) := by decide +kernel
theorem dX1_code_173 : decode cX1_code 173 = .ok (.goto 26, 3) := by decide +kernel
theorem dX1_code_176 : decode cX1_code 176 = .ok (.iload_n 1, 1) := by decide +kernel
theorem dX1_code_177 : decode cX1_code 177 = .ok (.bipush 9, 2) := by decide +kernel
theorem dX1_code_179 : decode cX1_code 179 = .ok (.if_icmp .ne 8, 3) := by decide +kernel
theorem dX1_code_182 : decode cX1_code 182 = .ok (.bipush 116, 2) := by decide +kernel
theorem dX1_code_184 : decode cX1_code 184 = .ok (.goto 15, 3) := by decide +kernel
theorem dX1_code_187 : decode cX1_code 187 = .ok (.iload_n 1, 1) := by decide +kernel
theorem dX1_code_188 : decode cX1_code 188 = .ok (.bipush 13, 2) := by decide +kernel
theorem dX1_code_190 : decode cX1_code 190 = .ok (.if_icmp .ne 8, 3) := by decide +kernel
theorem dX1_code_193 : decode cX1_code 193 = .ok (.bipush 114, 2) := by decide +kernel
theorem dX1_code_195 : decode cX1_code 195 = .ok (.goto 4, 3) := by decide +kernel
theorem dX1_code_198 : decode cX1_code 198 = .ok (.iconst 0, 1) := by decide +kernel
theorem dX1_code_199 : decode cX1_code 199 = .ok (.istore_n 3, 1) := by decide +kernel
theorem dX1_code_200 : decode cX1_code 200 = .ok (.iload_n 3, 1) := by decide +kernel
theorem dX1_code_201 : decode cX1_code 201 = .ok (.ifCond .le 23, 3) := by decide +kernel
theorem dX1_code_204 : decode cX1_code 204 = .ok (.aload_n 0, 1) := by decide +kernel
theorem dX1_code_205 : decode cX1_code 205 = .ok (.iconst 2, 1) := by decide +kernel
theorem dX1_code_206 : decode cX1_code 206 = .ok (.putfield 33, 3) := by decide +kernel
theorem dX1_code_209 : decode cX1_code 209 = .ok (.aload_n 0, 1) := by decide +kernel
theorem dX1_code_210 : decode cX1_code 210 = .ok (.getfield 20, 3) := by decide +kernel
theorem dX1_code_213 : decode cX1_code 213 = .ok (.iconst 0, 1) := by decide +kernel
theorem dX1_code_214 : decode cX1_code 214 = .ok (.bipush 92, 2) := by decide +kernel
theorem dX1_code_216 : decode cX1_code 216 = .ok (.iastore, 1) := by decide +kernel
theorem dX1_code_217 : decode cX1_code 217 = .ok (.aload_n 0, 1) := by decide +kernel
theorem dX1_code_218 : decode cX1_code 218 = .ok (.getfield 20, 3) := by decide +kernel
theorem dX1_code_221 : decode cX1_code 221 = .ok (.iconst 1, 1) := by decide +kernel
theorem dX1_code_222 : decode cX1_code 222 = .ok (.iload_n 3, 1) := by decide +kernel
theorem dX1_code_223 : decode cX1_code 223 = .ok (.iastore, 1) := by decide +kernel
theorem dX1_code_224 : decode cX1_code 224 = .ok (.iconst 1, 1) := by decide +kernel
theorem dX1_code_225 : decode cX1_code 225 = .ok (.ireturn, 1) := by decide +kernel
theorem dX1_close_0 : decode cX1_close 0 = .ok (.aload_n 0, 1) := by decide +kernel
theorem dX1_close_1 : decode cX1_close 1 = .ok (.getfield 7, 3) := by decide +kernel
theorem dX1_close_4 : decode cX1_close 4 = .ok (.aload_n 0, 1) := by decide +kernel
theorem dX1_close_5 : decode cX1_close 5 = .ok (.getfield 23, 3) := by decide +kernel
theorem dX1_close_8 : decode cX1_close 8 = .ok (.bipush 10, 2) := by decide +kernel
theorem dX1_close_10 : decode cX1_close 10 = .ok (.iastore, 1) := by decide +kernel
theorem dX1_close_11 : decode cX1_close 11 = .ok (.aload_n 0, 1) := by decide +kernel
theorem dX1_close_12 : decode cX1_close 12 = .ok (.aload_n 0, 1) := by decide +kernel
theorem dX1_close_13 : decode cX1_close 13 = .ok (.getfield 23, 3) := by decide +kernel
theorem dX1_close_16 : decode cX1_close 16 = .ok (.iconst 1, 1) := by decide +kernel
theorem dX1_close_17 : decode cX1_close 17 = .ok (.iadd, 1) := by decide +kernel
theorem dX1_close_18 : decode cX1_close 18 = .ok (.putfield 23, 3) := by decide +kernel
theorem dX1_close_21 : decode cX1_close 21 = .ok (.aload_n 0, 1) := by decide +kernel
theorem dX1_close_22 : decode cX1_close 22 = .ok (.iconst 0, 1) := by decide +kernel
theorem dX1_close_23 : decode cX1_close 23 = .ok (.putfield 26, 3) := by decide +kernel
theorem dX1_close_26 : decode cX1_close 26 = .ok (.aload_n 0, 1) := by decide +kernel
theorem dX1_close_27 : decode cX1_close 27 = .ok (.iconst (-1), 1) := by decide +kernel
theorem dX1_close_28 : decode cX1_close 28 = .ok (.putfield 13, 3) := by decide +kernel
theorem dX1_close_31 : decode cX1_close 31 = .ok (.return_, 1) := by decide +kernel
set_option maxRecDepth 20000 in
theorem ggX1_start_X1_close : GoodIn wsX1_start wsX1_close := goodIn_r _ [6, 7, 8, 9, 1, 14, 15, 16, 17, 18, 19, 20, 21, 22] (by decide +kernel) (by decide +kernel)
set_option maxRecDepth 20000 in
theorem gX1_start_X1_close : GoodIn wsX1_start (wsV RX1 36 RX1 yX1_close wsX1_close) := goodIn_app (goodIn_of _ (by decide +kernel)) ggX1_start_X1_close
set_option maxRecDepth 20000 in
theorem ggX1_start_X1_put : GoodIn wsX1_start wsX1_put := goodIn_r _ [13, 7, 8, 9, 14, 15, 16, 17, 18, 19, 20, 21, 22] (by decide +kernel) (by decide +kernel)
set_option maxRecDepth 20000 in
theorem gX1_start_X1_put : GoodIn wsX1_start (wsV RX1 39 RX1 yX1_put wsX1_put) := goodIn_app (goodIn_of _ (by decide +kernel)) ggX1_start_X1_put
theorem dX1_start_0 : decode cX1_start 0 = .ok (.aload_n 0, 1) := by decide +kernel
theorem dX1_start_1 : decode cX1_start 1 = .ok (.getfield 13, 3) := by decide +kernel
theorem dX1_start_4 : decode cX1_start 4 = .ok (.ifCond .lt 7, 3) := by decide +kernel
theorem dX1_start_7 : decode cX1_start 7 = .ok (.aload_n 0, 1) := by decide +kernel
theorem dX1_start_8 : decode cX1_start 8 = .ok (.invokevirtual 36, 3) := by decide +kernel
theorem dX1_start_11 : decode cX1_start 11 = .ok (.aload_n 0, 1) := by decide +kernel
theorem dX1_start_12 : decode cX1_start 12 = .ok (.iload_n 1, 1) := by decide +kernel
theorem dX1_start_13 : decode cX1_start 13 = .ok (.putfield 13, 3) := by decide +kernel
theorem dX1_start_16 : decode cX1_start 16 = .ok (.aload_n 0, 1) := by decide +kernel
theorem dX1_start_17 : decode cX1_start 17 = .ok (.iload_n 1, 1) := by decide +kernel
theorem dX1_start_18 : decode cX1_start 18 = .ok (.ifCond .ne 8, 3) := by decide +kernel
theorem dX1_start_21 : decode cX1_start 21 = .ok (.bipush 40, 2) := by decide +kernel
theorem dX1_start_23 : decode cX1_start 23 = .ok (.goto 35, 3) := by decide +kernel
theorem dX1_start_26 : decode cX1_start 26 = .ok (.iload_n 1, 1) := by decide +kernel
theorem dX1_start_27 : decode cX1_start 27 = .ok (.iconst 1, 1) := by decide +kernel
theorem dX1_start_28 : decode cX1_start 28 = .ok (.if_icmp .ne 8, 3) := by decide +kernel
theorem dX1_start_31 : decode cX1_start 31 = .ok (.bipush 41, 2) := by decide +kernel
theorem dX1_start_33 : decode cX1_start 33 = .ok (.goto 25, 3) := by decide +kernel
theorem dX1_start_36 : decode cX1_start 36 = .ok (.iload_n 1, 1) := by decide +kernel
theorem dX1_start_37 : decode cX1_start 37 = .ok (.iconst 2, 1) := by decide +kernel
theorem dX1_start_38 : decode cX1_start 38 = .ok (.if_icmp .ne 8, 3) := by decide +kernel
theorem dX1_start_41 : decode cX1_start 41 = .ok (.bipush 65, 2) := by decide +kernel
theorem dX1_start_43 : decode cX1_start 43 = .ok (.goto 15, 3) := by decide +kernel
theorem dX1_start_46 : decode cX1_start 46 = .ok (.iload_n 1, 1) := by decide +kernel
theorem dX1_start_47 : decode cX1_start 47 = .ok (.iconst 3, 1) := by decide +kernel
theorem dX1_start_48 : decode cX1_start 48 = .ok (.if_icmp .ne 8, 3) := by decide +kernel
theorem dX1_start_51 : decode cX1_start 51 = .ok (.bipush 63, 2) := by decide +kernel
theorem dX1_start_53 : decode cX1_start 53 = .ok (.goto 5, 3) := by decide +kernel
theorem dX1_start_56 : decode cX1_start 56 = .ok (.bipush 45, 2) := by decide +kernel
theorem dX1_start_58 : decode cX1_start 58 = .ok (.invokevirtual 39, 3) := by decide +kernel
theorem dX1_start_61 : decode cX1_start 61 = .ok (.return_, 1) := by decide +kernel
set_option maxRecDepth 20000 in
theorem ggX1_begin_X1_start : GoodIn wsX1_begin wsX1_start := goodIn_r _ [7, 2, 8, 9, 10, 6, 11, 12, 1, 13, 14, 15, 16, 17, 18, 19, 20, 21, 22, 23, 24, 25, 26] (by decide +kernel) (by decide +kernel)
set_option maxRecDepth 20000 in
theorem gX1_begin_X1_start : GoodIn wsX1_begin (wsV RX1 43 RX1 yX1_start wsX1_start) := goodIn_app (goodIn_of _ (by decide +kernel)) ggX1_begin_X1_start
theorem dX1_begin_0 : decode cX1_begin 0 = .ok (.iload_n 1, 1) := by decide +kernel
theorem dX1_begin_1 : decode cX1_begin 1 = .ok (.ifCond .lt 33, 3) := by decide +kernel
theorem dX1_begin_4 : decode cX1_begin 4 = .ok (.iload_n 1, 1) := by decide +kernel
theorem dX1_begin_5 : decode cX1_begin 5 = .ok (.iconst 3, 1) := by decide +kernel
theorem dX1_begin_6 : decode cX1_begin 6 = .ok (.if_icmp .gt 28, 3) := by decide +kernel
theorem dX1_begin_9 : decode cX1_begin 9 = .ok (.aload_n 0, 1) := by decide +kernel
theorem dX1_begin_10 : decode cX1_begin 10 = .ok (.getfield 23, 3) := by decide +kernel
theorem dX1_begin_13 : decode cX1_begin 13 = .ok (.aload_n 0, 1) := by decide +kernel
theorem dX1_begin_14 : decode cX1_begin 14 = .ok (.getfield 13, 3) := by decide +kernel
theorem dX1_begin_17 : decode cX1_begin 17 = .ok (.ifCond .lt 7, 3) := by decide +kernel
theorem dX1_begin_20 : decode cX1_begin 20 = .ok (.iconst 1, 1) := by decide +kernel
theorem dX1_begin_21 : decode cX1_begin 21 = .ok (.goto 4, 3) := by decide +kernel
theorem dX1_begin_24 : decode cX1_begin 24 = .ok (.iconst 0, 1) := by decide +kernel
theorem dX1_begin_25 : decode cX1_begin 25 = .ok (.iadd, 1) := by decide +kernel
theorem dX1_begin_26 : decode cX1_begin 26 = .ok (.iconst 2, 1) := by decide +kernel
theorem dX1_begin_27 : decode cX1_begin 27 = .ok (.iadd, 1) := by decide +kernel
theorem dX1_begin_28 : decode cX1_begin 28 = .ok (.sipush 3000, 3) := by decide +kernel
theorem dX1_begin_31 : decode cX1_begin 31 = .ok (.if_icmp .le 5, 3) := by decide +kernel
theorem dX1_begin_34 : decode cX1_begin 34 = .ok (.iconst 0, 1) := by decide +kernel
theorem dX1_begin_35 : decode cX1_begin 35 = .ok (.ireturn, 1) := by decide +kernel
theorem dX1_begin_36 : decode cX1_begin 36 = .ok (.aload_n 0, 1) := by decide +kernel
theorem dX1_begin_37 : decode cX1_begin 37 = .ok (.iload_n 1, 1) := by decide +kernel
theorem dX1_begin_38 : decode cX1_begin 38 = .ok (.invokevirtual 43, 3) := by decide +kernel
theorem dX1_begin_41 : decode cX1_begin 41 = .ok (.iconst 1, 1) := by decide +kernel
theorem dX1_begin_42 : decode cX1_begin 42 = .ok (.ireturn, 1) := by decide +kernel
set_option maxRecDepth 20000 in
theorem ggX1_add_X1_code : GoodIn wsX1_add wsX1_code := goodIn_r _ [9, 10, 11, 12, 13, 3, 4, 20, 21, 22, 23, 24, 25, 26, 27, 28] (by decide +kernel) (by decide +kernel)
set_option maxRecDepth 20000 in
theorem gX1_add_X1_code : GoodIn wsX1_add (wsV RX1 46 RX1 yX1_code wsX1_code) := goodIn_app (goodIn_of _ (by decide +kernel)) ggX1_add_X1_code
set_option maxRecDepth 20000 in
theorem ggX1_add_X1_put : GoodIn wsX1_add wsX1_put := goodIn_r _ [17, 18, 2, 19, 20, 21, 22, 23, 24, 25, 26, 27, 28] (by decide +kernel) (by decide +kernel)
set_option maxRecDepth 20000 in
theorem gX1_add_X1_put : GoodIn wsX1_add (wsV RX1 39 RX1 yX1_put wsX1_put) := goodIn_app (goodIn_of _ (by decide +kernel)) ggX1_add_X1_put
theorem dX1_add_0 : decode cX1_add 0 = .ok (.aload_n 0, 1) := by decide +kernel
theorem dX1_add_1 : decode cX1_add 1 = .ok (.getfield 13, 3) := by decide +kernel
theorem dX1_add_4 : decode cX1_add 4 = .ok (.ifCond .lt 36, 3) := by decide +kernel
theorem dX1_add_7 : decode cX1_add 7 = .ok (.aload_n 0, 1) := by decide +kernel
theorem dX1_add_8 : decode cX1_add 8 = .ok (.getfield 13, 3) := by decide +kernel
theorem dX1_add_11 : decode cX1_add 11 = .ok (.iconst 4, 1) := by decide +kernel
theorem dX1_add_12 : decode cX1_add 12 = .ok (.if_icmp .eq 28, 3) := by decide +kernel
theorem dX1_add_15 : decode cX1_add 15 = .ok (.aload_n 0, 1) := by decide +kernel
theorem dX1_add_16 : decode cX1_add 16 = .ok (.iload_n 1, 1) := by decide +kernel
theorem dX1_add_17 : decode cX1_add 17 = .ok (.invokevirtual 46, 3) := by decide +kernel
theorem dX1_add_20 : decode cX1_add 20 = .ok (.ifCond .eq 20, 3) := by decide +kernel
theorem dX1_add_23 : decode cX1_add 23 = .ok (.aload_n 0, 1) := by decide +kernel
theorem dX1_add_24 : decode cX1_add 24 = .ok (.getfield 23, 3) := by decide +kernel
theorem dX1_add_27 : decode cX1_add 27 = .ok (.aload_n 0, 1) := by decide +kernel
theorem dX1_add_28 : decode cX1_add 28 = .ok (.getfield 33, 3) := by decide +kernel
theorem dX1_add_31 : decode cX1_add 31 = .ok (.iadd, 1) := by decide +kernel
theorem dX1_add_32 : decode cX1_add 32 = .ok (.iconst 1, 1) := by decide +kernel
theorem dX1_add_33 : decode cX1_add 33 = .ok (.iadd, 1) := by decide +kernel
theorem dX1_add_34 : decode cX1_add 34 = .ok (.sipush 3000, 3) := by decide +kernel
theorem dX1_add_37 : decode cX1_add 37 = .ok (.if_icmp .le 5, 3) := by decide +kernel
theorem dX1_add_40 : decode cX1_add 40 = .ok (.iconst 0, 1) := by decide +kernel
theorem dX1_add_41 : decode cX1_add 41 = .ok (.ireturn, 1) := by decide +kernel
theorem dX1_add_42 : decode cX1_add 42 = .ok (.iconst 0, 1) := by decide +kernel
theorem dX1_add_43 : decode cX1_add 43 = .ok (.istore_n 2, 1) := by decide +kernel
theorem dX1_add_44 : decode cX1_add 44 = .ok (.iload_n 2, 1) := by decide +kernel
theorem dX1_add_45 : decode cX1_add 45 = .ok (.aload_n 0, 1) := by decide +kernel
theorem dX1_add_46 : decode cX1_add 46 = .ok (.getfield 33, 3) := by decide +kernel
theorem dX1_add_49 : decode cX1_add 49 = .ok (.if_icmp .ge 19, 3) := by decide +kernel
theorem dX1_add_52 : decode cX1_add 52 = .ok (.aload_n 0, 1) := by decide +kernel
theorem dX1_add_53 : decode cX1_add 53 = .ok (.aload_n 0, 1) := by decide +kernel
theorem dX1_add_54 : decode cX1_add 54 = .ok (.getfield 20, 3) := by decide +kernel
theorem dX1_add_57 : decode cX1_add 57 = .ok (.iload_n 2, 1) := by decide +kernel
theorem dX1_add_58 : decode cX1_add 58 = .ok (.iaload, 1) := by decide +kernel
theorem dX1_add_59 : decode cX1_add 59 = .ok (.invokevirtual 39, 3) := by decide +kernel
theorem dX1_add_62 : decode cX1_add 62 = .ok (.iinc 2 1, 3) := by decide +kernel
theorem dX1_add_65 : decode cX1_add 65 = .ok (.goto (-21), 3) := by decide +kernel
theorem dX1_add_68 : decode cX1_add 68 = .ok (.iconst 1, 1) := by decide +kernel
theorem dX1_add_69 : decode cX1_add 69 = .ok (.ireturn, 1) := by decide +kernel
set_option maxRecDepth 20000 in
theorem ggX1_text_X1_code : GoodIn wsX1_text wsX1_code := goodIn_r _ [9, 10, 11, 12, 13, 3, 4, 28, 29, 30, 31, 32, 33, 34, 35, 36] (by decide +kernel) (by decide +kernel)
set_option maxRecDepth 20000 in
theorem gX1_text_X1_code : GoodIn wsX1_text (wsV RX1 46 RX1 yX1_code wsX1_code) := goodIn_app (goodIn_of _ (by decide +kernel)) ggX1_text_X1_code
set_option maxRecDepth 20000 in
theorem ggX1_text_X1_start : GoodIn wsX1_text wsX1_start := goodIn_r _ [17, 1, 18, 19, 20, 8, 21, 22, 2, 23, 24, 25, 26, 27, 28, 29, 30, 31, 32, 33, 34, 35, 36] (by decide +kernel) (by decide +kernel)
set_option maxRecDepth 20000 in
theorem gX1_text_X1_start : GoodIn wsX1_text (wsV RX1 43 RX1 yX1_start wsX1_start) := goodIn_app (goodIn_of _ (by decide +kernel)) ggX1_text_X1_start
set_option maxRecDepth 20000 in
theorem ggX1_text_X1_put : GoodIn wsX1_text wsX1_put := goodIn_r _ [27, 22, 2, 23, 28, 29, 30, 31, 32, 33, 34, 35, 36] (by decide +kernel) (by decide +kernel)
set_option maxRecDepth 20000 in
theorem gX1_text_X1_put : GoodIn wsX1_text (wsV RX1 39 RX1 yX1_put wsX1_put) := goodIn_app (goodIn_of _ (by decide +kernel)) ggX1_text_X1_put
theorem dX1_text_0 : decode cX1_text 0 = .ok (.aload_n 0, 1) := by decide +kernel
theorem dX1_text_1 : decode cX1_text 1 = .ok (.iload_n 1, 1) := by decide +kernel
theorem dX1_text_2 : decode cX1_text 2 = .ok (.invokevirtual 46, 3) := by decide +kernel
theorem dX1_text_5 : decode cX1_text 5 = .ok (.ifCond .ne 5, 3) := by decide +kernel
theorem dX1_text_8 : decode cX1_text 8 = .ok (.iconst 0, 1) := by decide +kernel
theorem dX1_text_9 : decode cX1_text 9 = .ok (.ireturn, 1) := by decide +kernel
theorem dX1_text_10 : decode cX1_text 10 = .ok (.aload_n 0, 1) := by decide +kernel
theorem dX1_text_11 : decode cX1_text 11 = .ok (.getfield 13, 3) := by decide +kernel
theorem dX1_text_14 : decode cX1_text 14 = .ok (.iconst 4, 1) := by decide +kernel
theorem dX1_text_15 : decode cX1_text 15 = .ok (.if_icmp .ne 7, 3) := by decide +kernel
theorem dX1_text_18 : decode cX1_text 18 = .ok (.iconst 0, 1) := by decide +kernel
theorem dX1_text_19 : decode cX1_text 19 = .ok (.goto 15, 3) := by decide +kernel
theorem dX1_text_22 : decode cX1_text 22 = .ok (.aload_n 0, 1) := by decide +kernel
theorem dX1_text_23 : decode cX1_text 23 = .ok (.getfield 13, 3) := by decide +kernel
theorem dX1_text_26 : decode cX1_text 26 = .ok (.ifCond .lt 7, 3) := by decide +kernel
theorem dX1_text_29 : decode cX1_text 29 = .ok (.iconst 2, 1) := by decide +kernel
theorem dX1_text_30 : decode cX1_text 30 = .ok (.goto 4, 3) := by decide +kernel
theorem dX1_text_33 : decode cX1_text 33 = .ok (.iconst 1, 1) := by decide +kernel
theorem dX1_text_34 : decode cX1_text 34 = .ok (.istore_n 2, 1) := by decide +kernel
theorem dX1_text_35 : decode cX1_text 35 = .ok (.aload_n 0, 1) := by decide +kernel
theorem dX1_text_36 : decode cX1_text 36 = .ok (.getfield 23, 3) := by decide +kernel
theorem dX1_text_39 : decode cX1_text 39 = .ok (.iload_n 2, 1) := by decide +kernel
theorem dX1_text_40 : decode cX1_text 40 = .ok (.iadd, 1) := by decide +kernel
theorem dX1_text_41 : decode cX1_text 41 = .ok (.aload_n 0, 1) := by decide +kernel
theorem dX1_text_42 : decode cX1_text 42 = .ok (.getfield 33, 3) := by decide +kernel
theorem dX1_text_45 : decode cX1_text 45 = .ok (.iadd, 1) := by decide +kernel
theorem dX1_text_46 : decode cX1_text 46 = .ok (.iconst 1, 1) := by decide +kernel
theorem dX1_text_47 : decode cX1_text 47 = .ok (.iadd, 1) := by decide +kernel
theorem dX1_text_48 : decode cX1_text 48 = .ok (.sipush 3000, 3) := by decide +kernel
theorem dX1_text_51 : decode cX1_text 51 = .ok (.if_icmp .le 5, 3) := by decide +kernel
theorem dX1_text_54 : decode cX1_text 54 = .ok (.iconst 0, 1) := by decide +kernel
theorem dX1_text_55 : decode cX1_text 55 = .ok (.ireturn, 1) := by decide +kernel
theorem dX1_text_56 : decode cX1_text 56 = .ok (.aload_n 0, 1) := by decide +kernel
theorem dX1_text_57 : decode cX1_text 57 = .ok (.getfield 13, 3) := by decide +kernel
theorem dX1_text_60 : decode cX1_text 60 = .ok (.iconst 4, 1) := by decide +kernel
theorem dX1_text_61 : decode cX1_text 61 = .ok (.if_icmp .eq 8, 3) := by decide +kernel
theorem dX1_text_64 : decode cX1_text 64 = .ok (.aload_n 0, 1) := by decide +kernel
theorem dX1_text_65 : decode cX1_text 65 = .ok (.iconst 4, 1) := by decide +kernel
theorem dX1_text_66 : decode cX1_text 66 = .ok (.invokevirtual 43, 3) := by decide +kernel
theorem dX1_text_69 : decode cX1_text 69 = .ok (.iconst 0, 1) := by decide +kernel
theorem dX1_text_70 : decode cX1_text 70 = .ok (.istore_n 3, 1) := by decide +kernel
theorem dX1_text_71 : decode cX1_text 71 = .ok (.iload_n 3, 1) := by decide +kernel
theorem dX1_text_72 : decode cX1_text 72 = .ok (.aload_n 0, 1) := by decide +kernel
theorem dX1_text_73 : decode cX1_text 73 = .ok (.getfield 33, 3) := by decide +kernel
theorem dX1_text_76 : decode cX1_text 76 = .ok (.if_icmp .ge 19, 3) := by decide +kernel
theorem dX1_text_79 : decode cX1_text 79 = .ok (.aload_n 0, 1) := by decide +kernel
theorem dX1_text_80 : decode cX1_text 80 = .ok (.aload_n 0, 1) := by decide +kernel
theorem dX1_text_81 : decode cX1_text 81 = .ok (.getfield 20, 3) := by decide +kernel
theorem dX1_text_84 : decode cX1_text 84 = .ok (.iload_n 3, 1) := by decide +kernel
theorem dX1_text_85 : decode cX1_text 85 = .ok (.iaload, 1) := by decide +kernel
theorem dX1_text_86 : decode cX1_text 86 = .ok (.invokevirtual 39, 3) := by decide +kernel
theorem dX1_text_89 : decode cX1_text 89 = .ok (.iinc 3 1, 3) := by decide +kernel
theorem dX1_text_92 : decode cX1_text 92 = .ok (.goto (-21), 3) := by decide +kernel
theorem dX1_text_95 : decode cX1_text 95 = .ok (.iconst 1, 1) := by decide +kernel
theorem dX1_text_96 : decode cX1_text 96 = .ok (.ireturn, 1) := by decide +kernel
set_option maxRecDepth 20000 in
theorem ggX1_end_X1_close : GoodIn wsX1_end wsX1_close := goodIn_r _ [6, 7, 8, 9, 1, 10, 11, 12, 13, 14, 15, 16, 17, 18] (by decide +kernel) (by decide +kernel)
set_option maxRecDepth 20000 in
theorem gX1_end_X1_close : GoodIn wsX1_end (wsV RX1 36 RX1 yX1_close wsX1_close) := goodIn_app (goodIn_of _ (by decide +kernel)) ggX1_end_X1_close
theorem dX1_end_0 : decode cX1_end 0 = .ok (.aload_n 0, 1) := by decide +kernel
theorem dX1_end_1 : decode cX1_end 1 = .ok (.getfield 13, 3) := by decide +kernel
theorem dX1_end_4 : decode cX1_end 4 = .ok (.istore_n 1, 1) := by decide +kernel
theorem dX1_end_5 : decode cX1_end 5 = .ok (.aload_n 0, 1) := by decide +kernel
theorem dX1_end_6 : decode cX1_end 6 = .ok (.getfield 13, 3) := by decide +kernel
theorem dX1_end_9 : decode cX1_end 9 = .ok (.ifCond .lt 7, 3) := by decide +kernel
theorem dX1_end_12 : decode cX1_end 12 = .ok (.aload_n 0, 1) := by decide +kernel
theorem dX1_end_13 : decode cX1_end 13 = .ok (.invokevirtual 36, 3) := by decide +kernel
theorem dX1_end_16 : decode cX1_end 16 = .ok (.iload_n 1, 1) := by decide +kernel
theorem dX1_end_17 : decode cX1_end 17 = .ok (.ireturn, 1) := by decide +kernel
theorem dX1_back_0 : decode cX1_back 0 = .ok (.iload_n 1, 1) := by decide +kernel
theorem dX1_back_1 : decode cX1_back 1 = .ok (.aload_n 0, 1) := by decide +kernel
theorem dX1_back_2 : decode cX1_back 2 = .ok (.getfield 50, 3) := by decide +kernel
theorem dX1_back_5 : decode cX1_back 5 = .ok (.isub, 1) := by decide +kernel
theorem dX1_back_6 : decode cX1_back 6 = .ok (.istore_n 2, 1) := by decide +kernel
theorem dX1_back_7 : decode cX1_back 7 = .ok (.iload_n 2, 1) := by decide +kernel
theorem dX1_back_8 : decode cX1_back 8 = .ok (.ifCond .lt 11, 3) := by decide +kernel
theorem dX1_back_11 : decode cX1_back 11 = .ok (.iload_n 2, 1) := by decide +kernel
theorem dX1_back_12 : decode cX1_back 12 = .ok (.aload_n 0, 1) := by decide +kernel
theorem dX1_back_13 : decode cX1_back 13 = .ok (.getfield 23, 3) := by decide +kernel
theorem dX1_back_16 : decode cX1_back 16 = .ok (.if_icmp .le 5, 3) := by decide +kernel
theorem dX1_back_19 : decode cX1_back 19 = .ok (.iconst 0, 1) := by decide +kernel
theorem dX1_back_20 : decode cX1_back 20 = .ok (.ireturn, 1) := by decide +kernel
theorem dX1_back_21 : decode cX1_back 21 = .ok (.iload_n 2, 1) := by decide +kernel
theorem dX1_back_22 : decode cX1_back 22 = .ok (.ifCond .le 14, 3) := by decide +kernel
theorem dX1_back_25 : decode cX1_back 25 = .ok (.aload_n 0, 1) := by decide +kernel
theorem dX1_back_26 : decode cX1_back 26 = .ok (.getfield 7, 3) := by decide +kernel
theorem dX1_back_29 : decode cX1_back 29 = .ok (.iload_n 2, 1) := by decide +kernel
theorem dX1_back_30 : decode cX1_back 30 = .ok (.iconst 1, 1) := by decide +kernel
theorem dX1_back_31 : decode cX1_back 31 = .ok (.isub, 1) := by decide +kernel
theorem dX1_back_32 : decode cX1_back 32 = .ok (.iaload, 1) := by decide +kernel
theorem dX1_back_33 : decode cX1_back 33 = .ok (.goto 7, 3) := by decide +kernel
theorem dX1_back_36 : decode cX1_back 36 = .ok (.aload_n 0, 1) := by decide +kernel
theorem dX1_back_37 : decode cX1_back 37 = .ok (.getfield 17, 3) := by decide +kernel
theorem dX1_back_40 : decode cX1_back 40 = .ok (.istore_n 3, 1) := by decide +kernel
theorem dX1_back_41 : decode cX1_back 41 = .ok (.iload_n 3, 1) := by decide +kernel
theorem dX1_back_42 : decode cX1_back 42 = .ok (.bipush 10, 2) := by decide +kernel
theorem dX1_back_44 : decode cX1_back 44 = .ok (.if_icmp .eq 5, 3) := by decide +kernel
theorem dX1_back_47 : decode cX1_back 47 = .ok (.iconst 0, 1) := by decide +kernel
theorem dX1_back_48 : decode cX1_back 48 = .ok (.ireturn, 1) := by decide +kernel
theorem dX1_back_49 : decode cX1_back 49 = .ok (.aload_n 0, 1) := by decide +kernel
theorem dX1_back_50 : decode cX1_back 50 = .ok (.iload_n 2, 1) := by decide +kernel
theorem dX1_back_51 : decode cX1_back 51 = .ok (.putfield 23, 3) := by decide +kernel
theorem dX1_back_54 : decode cX1_back 54 = .ok (.aload_n 0, 1) := by decide +kernel
theorem dX1_back_55 : decode cX1_back 55 = .ok (.iconst 0, 1) := by decide +kernel
theorem dX1_back_56 : decode cX1_back 56 = .ok (.putfield 26, 3) := by decide +kernel
theorem dX1_back_59 : decode cX1_back 59 = .ok (.aload_n 0, 1) := by decide +kernel
theorem dX1_back_60 : decode cX1_back 60 = .ok (.iconst (-1), 1) := by decide +kernel
theorem dX1_back_61 : decode cX1_back 61 = .ok (.putfield 13, 3) := by decide +kernel
theorem dX1_back_64 : decode cX1_back 64 = .ok (.iconst 1, 1) := by decide +kernel
theorem dX1_back_65 : decode cX1_back 65 = .ok (.ireturn, 1) := by decide +kernel
theorem dX1_mark_0 : decode cX1_mark 0 = .ok (.aload_n 0, 1) := by decide +kernel
theorem dX1_mark_1 : decode cX1_mark 1 = .ok (.getfield 13, 3) := by decide +kernel
theorem dX1_mark_4 : decode cX1_mark 4 = .ok (.ifCond .lt 7, 3) := by decide +kernel
theorem dX1_mark_7 : decode cX1_mark 7 = .ok (.iconst (-1), 1) := by decide +kernel
theorem dX1_mark_8 : decode cX1_mark 8 = .ok (.goto 12, 3) := by decide +kernel
theorem dX1_mark_11 : decode cX1_mark 11 = .ok (.aload_n 0, 1) := by decide +kernel
theorem dX1_mark_12 : decode cX1_mark 12 = .ok (.getfield 50, 3) := by decide +kernel
theorem dX1_mark_15 : decode cX1_mark 15 = .ok (.aload_n 0, 1) := by decide +kernel
theorem dX1_mark_16 : decode cX1_mark 16 = .ok (.getfield 23, 3) := by decide +kernel
theorem dX1_mark_19 : decode cX1_mark 19 = .ok (.iadd, 1) := by decide +kernel
theorem dX1_mark_20 : decode cX1_mark 20 = .ok (.ireturn, 1) := by decide +kernel
theorem dX1_take_0 : decode cX1_take 0 = .ok (.aload_n 0, 1) := by decide +kernel
theorem dX1_take_1 : decode cX1_take 1 = .ok (.getfield 23, 3) := by decide +kernel
theorem dX1_take_4 : decode cX1_take 4 = .ok (.aload_n 0, 1) := by decide +kernel
theorem dX1_take_5 : decode cX1_take 5 = .ok (.getfield 26, 3) := by decide +kernel
theorem dX1_take_8 : decode cX1_take 8 = .ok (.isub, 1) := by decide +kernel
theorem dX1_take_9 : decode cX1_take 9 = .ok (.bipush 7, 2) := by decide +kernel
theorem dX1_take_11 : decode cX1_take 11 = .ok (.if_icmp .ge 15, 3) := by decide +kernel
theorem dX1_take_14 : decode cX1_take 14 = .ok (.aload_n 0, 1) := by decide +kernel
theorem dX1_take_15 : decode cX1_take 15 = .ok (.getfield 23, 3) := by decide +kernel
theorem dX1_take_18 : decode cX1_take 18 = .ok (.aload_n 0, 1) := by decide +kernel
theorem dX1_take_19 : decode cX1_take 19 = .ok (.getfield 26, 3) := by decide +kernel
theorem dX1_take_22 : decode cX1_take 22 = .ok (.isub, 1) := by decide +kernel
theorem dX1_take_23 : decode cX1_take 23 = .ok (.goto 5, 3) := by decide +kernel
theorem dX1_take_26 : decode cX1_take 26 = .ok (.bipush 7, 2) := by decide +kernel
theorem dX1_take_28 : decode cX1_take 28 = .ok (.istore_n 1, 1) := by decide +kernel
theorem dX1_take_29 : decode cX1_take 29 = .ok (.iload_n 1, 1) := by decide +kernel
theorem dX1_take_30 : decode cX1_take 30 = .ok (.ifCond .ne 5, 3) := by decide +kernel
theorem dX1_take_33 : decode cX1_take 33 = .ok (.lconst 0, 1) := by decide +kernel
theorem dX1_take_34 : decode cX1_take 34 = .ok (.lreturn, 1) := by decide +kernel
theorem dX1_take_35 : decode cX1_take 35 = .ok (.iload_n 1, 1) := by decide +kernel
theorem dX1_take_36 : decode cX1_take 36 = .ok (.i2l, 1) := by decide +kernel
theorem dX1_take_37 : decode cX1_take 37 = .ok (.bipush 56, 2) := by decide +kernel
theorem dX1_take_39 : decode cX1_take 39 = .ok (.lshl, 1) := by decide +kernel
theorem dX1_take_40 : decode cX1_take 40 = .ok (.lstore_n 2, 1) := by decide +kernel
theorem dX1_take_41 : decode cX1_take 41 = .ok (.iconst 0, 1) := by decide +kernel
theorem dX1_take_42 : decode cX1_take 42 = .ok (.istore 4, 2) := by decide +kernel
theorem dX1_take_44 : decode cX1_take 44 = .ok (.iload 4, 2) := by decide +kernel
theorem dX1_take_46 : decode cX1_take 46 = .ok (.iload_n 1, 1) := by decide +kernel
theorem dX1_take_47 : decode cX1_take 47 = .ok (.if_icmp .ge 55, 3) := by decide +kernel
theorem dX1_take_50 : decode cX1_take 50 = .ok (.lload_n 2, 1) := by decide +kernel
theorem dX1_take_51 : decode cX1_take 51 = .ok (.aload_n 0, 1) := by decide +kernel
theorem dX1_take_52 : decode cX1_take 52 = .ok (.getfield 7, 3) := by decide +kernel
theorem dX1_take_55 : decode cX1_take 55 = .ok (.iload 4, 2) := by decide +kernel
theorem dX1_take_57 : decode cX1_take 57 = .ok (.iaload, 1) := by decide +kernel
theorem dX1_take_58 : decode cX1_take 58 = .ok (.i2l, 1) := by decide +kernel
theorem dX1_take_59 : decode cX1_take 59 = .ok (.bipush 48, 2) := by decide +kernel
theorem dX1_take_61 : decode cX1_take 61 = .ok (.bipush 8, 2) := by decide +kernel
theorem dX1_take_63 : decode cX1_take 63 = .ok (.iload 4, 2) := by decide +kernel
theorem dX1_take_65 : decode cX1_take 65 = .ok (.imul, 1) := by decide +kernel
theorem dX1_take_66 : decode cX1_take 66 = .ok (.isub, 1) := by decide +kernel
theorem dX1_take_67 : decode cX1_take 67 = .ok (.lshl, 1) := by decide +kernel
theorem dX1_take_68 : decode cX1_take 68 = .ok (.lor, 1) := by decide +kernel
theorem dX1_take_69 : decode cX1_take 69 = .ok (.lstore_n 2, 1) := by decide +kernel
theorem dX1_take_70 : decode cX1_take 70 = .ok (.aload_n 0, 1) := by decide +kernel
theorem dX1_take_71 : decode cX1_take 71 = .ok (.aload_n 0, 1) := by decide +kernel
theorem dX1_take_72 : decode cX1_take 72 = .ok (.getfield 53, 3) := by decide +kernel
theorem dX1_take_75 : decode cX1_take 75 = .ok (.aload_n 0, 1) := by decide +kernel
theorem dX1_take_76 : decode cX1_take 76 = .ok (.getfield 7, 3) := by decide +kernel
theorem dX1_take_79 : decode cX1_take 79 = .ok (.iload 4, 2) := by decide +kernel
theorem dX1_take_81 : decode cX1_take 81 = .ok (.iaload, 1) := by decide +kernel
theorem dX1_take_82 : decode cX1_take 82 = .ok (.bipush 10, 2) := by decide +kernel
theorem dX1_take_84 : decode cX1_take 84 = .ok (.if_icmp .ne 7, 3) := by decide +kernel
theorem dX1_take_87 : decode cX1_take 87 = .ok (.iconst 1, 1) := by decide +kernel
theorem dX1_take_88 : decode cX1_take 88 = .ok (.goto 4, 3) := by decide +kernel
theorem dX1_take_91 : decode cX1_take 91 = .ok (.iconst 0, 1) := by decide +kernel
theorem dX1_take_92 : decode cX1_take 92 = .ok (.iadd, 1) := by decide +kernel
theorem dX1_take_93 : decode cX1_take 93 = .ok (.putfield 53, 3) := by decide +kernel
theorem dX1_take_96 : decode cX1_take 96 = .ok (.iinc 4 1, 3) := by decide +kernel
theorem dX1_take_99 : decode cX1_take 99 = .ok (.goto (-55), 3) := by decide +kernel
theorem dX1_take_102 : decode cX1_take 102 = .ok (.aload_n 0, 1) := by decide +kernel
theorem dX1_take_103 : decode cX1_take 103 = .ok (.aload_n 0, 1) := by decide +kernel
theorem dX1_take_104 : decode cX1_take 104 = .ok (.getfield 7, 3) := by decide +kernel
theorem dX1_take_107 : decode cX1_take 107 = .ok (.iload_n 1, 1) := by decide +kernel
theorem dX1_take_108 : decode cX1_take 108 = .ok (.iconst 1, 1) := by decide +kernel
theorem dX1_take_109 : decode cX1_take 109 = .ok (.isub, 1) := by decide +kernel
theorem dX1_take_110 : decode cX1_take 110 = .ok (.iaload, 1) := by decide +kernel
theorem dX1_take_111 : decode cX1_take 111 = .ok (.putfield 17, 3) := by decide +kernel
theorem dX1_take_114 : decode cX1_take 114 = .ok (.iload_n 1, 1) := by decide +kernel
theorem dX1_take_115 : decode cX1_take 115 = .ok (.istore 4, 2) := by decide +kernel
theorem dX1_take_117 : decode cX1_take 117 = .ok (.iload 4, 2) := by decide +kernel
theorem dX1_take_119 : decode cX1_take 119 = .ok (.aload_n 0, 1) := by decide +kernel
theorem dX1_take_120 : decode cX1_take 120 = .ok (.getfield 23, 3) := by decide +kernel
theorem dX1_take_123 : decode cX1_take 123 = .ok (.if_icmp .ge 25, 3) := by decide +kernel
theorem dX1_take_126 : decode cX1_take 126 = .ok (.aload_n 0, 1) := by decide +kernel
theorem dX1_take_127 : decode cX1_take 127 = .ok (.getfield 7, 3) := by decide +kernel
theorem dX1_take_130 : decode cX1_take 130 = .ok (.iload 4, 2) := by decide +kernel
theorem dX1_take_132 : decode cX1_take 132 = .ok (.iload_n 1, 1) := by decide +kernel
theorem dX1_take_133 : decode cX1_take 133 = .ok (.isub, 1) := by decide +kernel
theorem dX1_take_134 : decode cX1_take 134 = .ok (.aload_n 0, 1) := by decide +kernel
theorem dX1_take_135 : decode cX1_take 135 = .ok (.getfield 7, 3) := by decide +kernel
theorem dX1_take_138 : decode cX1_take 138 = .ok (.iload 4, 2) := by decide +kernel
theorem dX1_take_140 : decode cX1_take 140 = .ok (.iaload, 1) := by decide +kernel
theorem dX1_take_141 : decode cX1_take 141 = .ok (.iastore, 1) := by decide +kernel
theorem dX1_take_142 : decode cX1_take 142 = .ok (.iinc 4 1, 3) := by decide +kernel
theorem dX1_take_145 : decode cX1_take 145 = .ok (.goto (-28), 3) := by decide +kernel
theorem dX1_take_148 : decode cX1_take 148 = .ok (.aload_n 0, 1) := by decide +kernel
theorem dX1_take_149 : decode cX1_take 149 = .ok (.aload_n 0, 1) := by decide +kernel
theorem dX1_take_150 : decode cX1_take 150 = .ok (.getfield 23, 3) := by decide +kernel
theorem dX1_take_153 : decode cX1_take 153 = .ok (.iload_n 1, 1) := by decide +kernel
theorem dX1_take_154 : decode cX1_take 154 = .ok (.isub, 1) := by decide +kernel
theorem dX1_take_155 : decode cX1_take 155 = .ok (.putfield 23, 3) := by decide +kernel
theorem dX1_take_158 : decode cX1_take 158 = .ok (.aload_n 0, 1) := by decide +kernel
theorem dX1_take_159 : decode cX1_take 159 = .ok (.aload_n 0, 1) := by decide +kernel
theorem dX1_take_160 : decode cX1_take 160 = .ok (.getfield 50, 3) := by decide +kernel
theorem dX1_take_163 : decode cX1_take 163 = .ok (.iload_n 1, 1) := by decide +kernel
theorem dX1_take_164 : decode cX1_take 164 = .ok (.iadd, 1) := by decide +kernel
theorem dX1_take_165 : decode cX1_take 165 = .ok (.putfield 50, 3) := by decide +kernel
theorem dX1_take_168 : decode cX1_take 168 = .ok (.lload_n 2, 1) := by decide +kernel
theorem dX1_take_169 : decode cX1_take 169 = .ok (.lreturn, 1) := by decide +kernel
theorem dX1_count_0 : decode cX1_count 0 = .ok (.iload_n 1, 1) := by decide +kernel
theorem dX1_count_1 : decode cX1_count 1 = .ok (.tableswitch 49 0 3 #[31, 36, 39, 44], 31) := by decide +kernel
theorem dX1_count_32 : decode cX1_count 32 = .ok (.aload_n 0, 1) := by decide +kernel
theorem dX1_count_33 : decode cX1_count 33 = .ok (.getfield 23, 3) := by decide +kernel
theorem dX1_count_36 : decode cX1_count 36 = .ok (.ireturn, 1) := by decide +kernel
theorem dX1_count_37 : decode cX1_count 37 = .ok (.goto 15, 3) := by decide +kernel
theorem dX1_count_40 : decode cX1_count 40 = .ok (.aload_n 0, 1) := by decide +kernel
theorem dX1_count_41 : decode cX1_count 41 = .ok (.getfield 13, 3) := by decide +kernel
theorem dX1_count_44 : decode cX1_count 44 = .ok (.ireturn, 1) := by decide +kernel
theorem dX1_count_45 : decode cX1_count 45 = .ok (.aload_n 0, 1) := by decide +kernel
theorem dX1_count_46 : decode cX1_count 46 = .ok (.getfield 26, 3) := by decide +kernel
theorem dX1_count_49 : decode cX1_count 49 = .ok (.ireturn, 1) := by decide +kernel
theorem dX1_count_50 : decode cX1_count 50 = .ok (.iconst (-1), 1) := by decide +kernel
theorem dX1_count_51 : decode cX1_count 51 = .ok (.ireturn, 1) := by decide +kernel
theorem dX1_count_52 : decode cX1_count 52 = .ok (.aload_n 0, 1) := by decide +kernel
theorem dX1_count_53 : decode cX1_count 53 = .ok (.getfield 53, 3) := by decide +kernel
theorem dX1_count_56 : decode cX1_count 56 = .ok (.istore_n 2, 1) := by decide +kernel
theorem dX1_count_57 : decode cX1_count 57 = .ok (.iconst 0, 1) := by decide +kernel
theorem dX1_count_58 : decode cX1_count 58 = .ok (.istore_n 3, 1) := by decide +kernel
theorem dX1_count_59 : decode cX1_count 59 = .ok (.iload_n 3, 1) := by decide +kernel
theorem dX1_count_60 : decode cX1_count 60 = .ok (.aload_n 0, 1) := by decide +kernel
theorem dX1_count_61 : decode cX1_count 61 = .ok (.getfield 23, 3) := by decide +kernel
theorem dX1_count_64 : decode cX1_count 64 = .ok (.if_icmp .ge 28, 3) := by decide +kernel
theorem dX1_count_67 : decode cX1_count 67 = .ok (.iload_n 2, 1) := by decide +kernel
theorem dX1_count_68 : decode cX1_count 68 = .ok (.aload_n 0, 1) := by decide +kernel
theorem dX1_count_69 : decode cX1_count 69 = .ok (.getfield 7, 3) := by decide +kernel
theorem dX1_count_72 : decode cX1_count 72 = .ok (.iload_n 3, 1) := by decide +kernel
theorem dX1_count_73 : decode cX1_count 73 = .ok (.iaload, 1) := by decide +kernel
theorem dX1_count_74 : decode cX1_count 74 = .ok (.bipush 10, 2) := by decide +kernel
theorem dX1_count_76 : decode cX1_count 76 = .ok (.if_icmp .ne 7, 3) := by decide +kernel
theorem dX1_count_79 : decode cX1_count 79 = .ok (.iconst 1, 1) := by decide +kernel
theorem dX1_count_80 : decode cX1_count 80 = .ok (.goto 4, 3) := by decide +kernel
theorem dX1_count_83 : decode cX1_count 83 = .ok (.iconst 0, 1) := by decide +kernel
theorem dX1_count_84 : decode cX1_count 84 = .ok (.iadd, 1) := by decide +kernel
theorem dX1_count_85 : decode cX1_count 85 = .ok (.istore_n 2, 1) := by decide +kernel
theorem dX1_count_86 : decode cX1_count 86 = .ok (.iinc 3 1, 3) := by decide +kernel
theorem dX1_count_89 : decode cX1_count 89 = .ok (.goto (-30), 3) := by decide +kernel
theorem dX1_count_92 : decode cX1_count 92 = .ok (.iload_n 2, 1) := by decide +kernel
theorem dX1_count_93 : decode cX1_count 93 = .ok (.ireturn, 1) := by decide +kernel
theorem dJ9_min_7cf53_0 : decode cJ9_min_7cf53 0 = .ok (.iload_n 0, 1) := by decide +kernel
theorem dJ9_min_7cf53_1 : decode cJ9_min_7cf53 1 = .ok (.iload_n 1, 1) := by decide +kernel
theorem dJ9_min_7cf53_2 : decode cJ9_min_7cf53 2 = .ok (.if_icmp .gt 7, 3) := by decide +kernel
theorem dJ9_min_7cf53_5 : decode cJ9_min_7cf53 5 = .ok (.iload_n 0, 1) := by decide +kernel
theorem dJ9_min_7cf53_6 : decode cJ9_min_7cf53 6 = .ok (.goto 4, 3) := by decide +kernel
theorem dJ9_min_7cf53_9 : decode cJ9_min_7cf53 9 = .ok (.iload_n 1, 1) := by decide +kernel
theorem dJ9_min_7cf53_10 : decode cJ9_min_7cf53 10 = .ok (.ireturn, 1) := by decide +kernel
set_option maxRecDepth 20000 in
theorem ggL_law_X0_init : GoodIn wsL_law wsX0_init := goodIn_r _ [8, 9, 10, 11, 12, 13, 14, 15, 16, 17, 18, 185, 186, 187, 188, 189, 190] (by decide +kernel) (by decide +kernel)
set_option maxRecDepth 20000 in
theorem gL_law_X0_init : GoodIn wsL_law (wsX0_init) := ggL_law_X0_init
set_option maxRecDepth 20000 in
theorem ggL_law_X1_init : GoodIn wsL_law wsX1_init := goodIn_r _ [21, 22, 10, 11, 23, 24, 25, 26, 27, 191, 192, 193, 194, 195, 196, 197, 198, 199] (by decide +kernel) (by decide +kernel)
set_option maxRecDepth 20000 in
theorem gL_law_X1_init : GoodIn wsL_law (wsX1_init) := ggL_law_X1_init
set_option maxRecDepth 20000 in
theorem ggL_law_X0_begin : GoodIn wsL_law wsX0_begin := goodIn_r _ [31, 32, 33, 34, 2, 35, 17, 36, 37, 38, 39, 14, 15, 40, 41, 42, 43, 18, 44, 45, 46, 47, 16, 48, 49, 50, 51, 13, 52, 53, 54, 185, 186, 187, 188, 189, 190] (by decide +kernel) (by decide +kernel)
set_option maxRecDepth 20000 in
theorem gL_law_X0_begin : GoodIn wsL_law (wsV RL 13 RX0 yX0_begin wsX0_begin) := goodIn_app (goodIn_of _ (by decide +kernel)) ggL_law_X0_begin
set_option maxRecDepth 20000 in
theorem ggL_law_X1_begin : GoodIn wsL_law wsX1_begin := goodIn_r _ [58, 59, 25, 60, 61, 62, 5, 63, 64, 65, 66, 67, 24, 68, 69, 70, 71, 72, 191, 192, 193, 194, 195, 196, 197, 198, 199] (by decide +kernel) (by decide +kernel)
set_option maxRecDepth 20000 in
theorem gL_law_X1_begin : GoodIn wsL_law (wsV RL 17 RX1 yX1_begin wsX1_begin) := goodIn_app (goodIn_of _ (by decide +kernel)) ggL_law_X1_begin
set_option maxRecDepth 20000 in
theorem ggL_law_X0_add : GoodIn wsL_law wsX0_add := goodIn_r _ [76, 17, 77, 78, 2, 79, 80, 81, 82, 83, 84, 85, 86, 87, 88, 89, 36, 37, 38, 39, 14, 15, 90, 91, 92, 93, 48, 49, 50, 51, 13, 94, 95, 96, 97, 98, 99, 100, 101, 185, 186, 187, 188, 189, 190] (by decide +kernel) (by decide +kernel)
set_option maxRecDepth 20000 in
theorem gL_law_X0_add : GoodIn wsL_law (wsV RL 18 RX0 yX0_add wsX0_add) := goodIn_app (goodIn_of _ (by decide +kernel)) ggL_law_X0_add
set_option maxRecDepth 20000 in
theorem ggL_law_X1_add : GoodIn wsL_law wsX1_add := goodIn_r _ [105, 25, 59, 106, 27, 107, 108, 109, 5, 110, 111, 112, 113, 114, 69, 70, 71, 72, 24, 68, 191, 192, 193, 194, 195, 196, 197, 198, 199] (by decide +kernel) (by decide +kernel)
set_option maxRecDepth 20000 in
theorem gL_law_X1_add : GoodIn wsL_law (wsV RL 21 RX1 yX1_add wsX1_add) := goodIn_app (goodIn_of _ (by decide +kernel)) ggL_law_X1_add
set_option maxRecDepth 20000 in
theorem ggL_law_X0_text : GoodIn wsL_law wsX0_text := goodIn_r _ [118, 17, 77, 78, 2, 79, 80, 81, 82, 32, 33, 34, 35, 83, 84, 85, 86, 87, 88, 89, 36, 37, 38, 39, 14, 15, 40, 41, 42, 43, 18, 44, 45, 46, 47, 16, 48, 49, 50, 51, 13, 52, 53, 54, 90, 91, 92, 93, 94, 95, 96, 97, 98, 99, 100, 101, 185, 186, 187, 188, 189, 190] (by decide +kernel) (by decide +kernel)
set_option maxRecDepth 20000 in
theorem gL_law_X0_text : GoodIn wsL_law (wsV RL 22 RX0 yX0_text wsX0_text) := goodIn_app (goodIn_of _ (by decide +kernel)) ggL_law_X0_text
set_option maxRecDepth 20000 in
theorem ggL_law_X1_text : GoodIn wsL_law wsX1_text := goodIn_r _ [122, 25, 59, 106, 27, 107, 108, 109, 5, 110, 111, 112, 113, 114, 60, 61, 62, 63, 64, 65, 66, 67, 24, 68, 69, 70, 71, 72, 191, 192, 193, 194, 195, 196, 197, 198, 199] (by decide +kernel) (by decide +kernel)
set_option maxRecDepth 20000 in
theorem gL_law_X1_text : GoodIn wsL_law (wsV RL 25 RX1 yX1_text wsX1_text) := goodIn_app (goodIn_of _ (by decide +kernel)) ggL_law_X1_text
set_option maxRecDepth 20000 in
theorem ggL_law_X0_end : GoodIn wsL_law wsX0_end := goodIn_r _ [126, 17, 44, 45, 46, 2, 47, 16, 48, 49, 50, 51, 14, 13, 185, 186, 187, 188, 189, 190] (by decide +kernel) (by decide +kernel)
set_option maxRecDepth 20000 in
theorem gL_law_X0_end : GoodIn wsL_law (wsV RL 26 RX0 yX0_end wsX0_end) := goodIn_app (goodIn_of _ (by decide +kernel)) ggL_law_X0_end
set_option maxRecDepth 20000 in
theorem ggL_law_X1_end : GoodIn wsL_law wsX1_end := goodIn_r _ [130, 25, 64, 65, 66, 5, 67, 24, 59, 68, 191, 192, 193, 194, 195, 196, 197, 198, 199] (by decide +kernel) (by decide +kernel)
set_option maxRecDepth 20000 in
theorem gL_law_X1_end : GoodIn wsL_law (wsV RL 30 RX1 yX1_end wsX1_end) := goodIn_app (goodIn_of _ (by decide +kernel)) ggL_law_X1_end
set_option maxRecDepth 20000 in
theorem ggL_law_X0_back : GoodIn wsL_law wsX0_back := goodIn_r _ [134, 15, 14, 16, 17, 135, 136, 137, 2, 138, 139, 140, 141, 142, 13, 143, 144, 145, 146, 185, 186, 187, 188, 189, 190] (by decide +kernel) (by decide +kernel)
set_option maxRecDepth 20000 in
theorem gL_law_X0_back : GoodIn wsL_law (wsV RL 31 RX0 yX0_back wsX0_back) := goodIn_app (goodIn_of _ (by decide +kernel)) ggL_law_X0_back
set_option maxRecDepth 20000 in
theorem ggL_law_X1_back : GoodIn wsL_law wsX1_back := goodIn_r _ [150, 151, 59, 24, 26, 68, 25, 191, 192, 193, 194, 195, 196, 197, 198, 199] (by decide +kernel) (by decide +kernel)
set_option maxRecDepth 20000 in
theorem gL_law_X1_back : GoodIn wsL_law (wsV RL 34 RX1 yX1_back wsX1_back) := goodIn_app (goodIn_of _ (by decide +kernel)) ggL_law_X1_back
set_option maxRecDepth 20000 in
theorem ggL_law_X0_mark : GoodIn wsL_law wsX0_mark := goodIn_r _ [155, 17, 14, 185, 186, 187, 188, 189, 190] (by decide +kernel) (by decide +kernel)
set_option maxRecDepth 20000 in
theorem gL_law_X0_mark : GoodIn wsL_law (wsV RL 35 RX0 yX0_mark wsX0_mark) := goodIn_app (goodIn_of _ (by decide +kernel)) ggL_law_X0_mark
set_option maxRecDepth 20000 in
theorem ggL_law_X1_mark : GoodIn wsL_law wsX1_mark := goodIn_r _ [159, 25, 151, 59, 191, 192, 193, 194, 195, 196, 197, 198, 199] (by decide +kernel) (by decide +kernel)
set_option maxRecDepth 20000 in
theorem gL_law_X1_mark : GoodIn wsL_law (wsV RL 38 RX1 yX1_mark wsX1_mark) := goodIn_app (goodIn_of _ (by decide +kernel)) ggL_law_X1_mark
set_option maxRecDepth 20000 in
theorem ggL_law_X0_take : GoodIn wsL_law wsX0_take := goodIn_r _ [163, 15, 164, 165, 166, 167, 168, 169, 170, 2, 171, 17, 14, 18, 139, 140, 141, 142, 13, 185, 186, 187, 188, 189, 190] (by decide +kernel) (by decide +kernel)
set_option maxRecDepth 20000 in
theorem gL_law_X0_take : GoodIn wsL_law (wsV RL 39 RX0 yX0_take wsX0_take) := goodIn_app (goodIn_of _ (by decide +kernel)) ggL_law_X0_take
set_option maxRecDepth 20000 in
theorem ggL_law_X1_take : GoodIn wsL_law wsX1_take := goodIn_r _ [175, 59, 68, 24, 176, 26, 151, 191, 192, 193, 194, 195, 196, 197, 198, 199] (by decide +kernel) (by decide +kernel)
set_option maxRecDepth 20000 in
theorem gL_law_X1_take : GoodIn wsL_law (wsV RL 43 RX1 yX1_take wsX1_take) := goodIn_app (goodIn_of _ (by decide +kernel)) ggL_law_X1_take
set_option maxRecDepth 20000 in
theorem ggL_law_X0_count : GoodIn wsL_law wsX0_count := goodIn_r _ [180, 14, 15, 16, 17, 168, 169, 170, 2, 171, 18, 185, 186, 187, 188, 189, 190] (by decide +kernel) (by decide +kernel)
set_option maxRecDepth 20000 in
theorem gL_law_X0_count : GoodIn wsL_law (wsV RL 44 RX0 yX0_count wsX0_count) := goodIn_app (goodIn_of _ (by decide +kernel)) ggL_law_X0_count
set_option maxRecDepth 20000 in
theorem ggL_law_X1_count : GoodIn wsL_law wsX1_count := goodIn_r _ [184, 59, 25, 68, 176, 24, 191, 192, 193, 194, 195, 196, 197, 198, 199] (by decide +kernel) (by decide +kernel)
set_option maxRecDepth 20000 in
theorem gL_law_X1_count : GoodIn wsL_law (wsV RL 48 RX1 yX1_count wsX1_count) := goodIn_app (goodIn_of _ (by decide +kernel)) ggL_law_X1_count
theorem dL_law_0 : decode cL_law 0 = .ok (.new 7, 3) := by decide +kernel
theorem dL_law_3 : decode cL_law 3 = .ok (.dup, 1) := by decide +kernel
theorem dL_law_4 : decode cL_law 4 = .ok (.invokespecial 9, 3) := by decide +kernel
theorem dL_law_7 : decode cL_law 7 = .ok (.astore_n 1, 1) := by decide +kernel
theorem dL_law_8 : decode cL_law 8 = .ok (.new 10, 3) := by decide +kernel
theorem dL_law_11 : decode cL_law 11 = .ok (.dup, 1) := by decide +kernel
theorem dL_law_12 : decode cL_law 12 = .ok (.invokespecial 12, 3) := by decide +kernel
theorem dL_law_15 : decode cL_law 15 = .ok (.astore_n 2, 1) := by decide +kernel
theorem dL_law_16 : decode cL_law 16 = .ok (.iconst 0, 1) := by decide +kernel
theorem dL_law_17 : decode cL_law 17 = .ok (.istore_n 3, 1) := by decide +kernel
theorem dL_law_18 : decode cL_law 18 = .ok (.iload_n 3, 1) := by decide +kernel
theorem dL_law_19 : decode cL_law 19 = .ok (.aload_n 0, 1) := by decide +kernel
theorem dL_law_20 : decode cL_law 20 = .ok (.arraylength, 1) := by decide +kernel
theorem dL_law_21 : decode cL_law 21 = .ok (.iconst 2, 1) := by decide +kernel
theorem dL_law_22 : decode cL_law 22 = .ok (.isub, 1) := by decide +kernel
theorem dL_law_23 : decode cL_law 23 = .ok (.if_icmp .gt 218, 3) := by decide +kernel
theorem dL_law_26 : decode cL_law 26 = .ok (.aload_n 0, 1) := by decide +kernel
theorem dL_law_27 : decode cL_law 27 = .ok (.iload_n 3, 1) := by decide +kernel
theorem dL_law_28 : decode cL_law 28 = .ok (.iaload, 1) := by decide +kernel
theorem dL_law_29 : decode cL_law 29 = .ok (.bipush 7, 2) := by decide +kernel
theorem dL_law_31 : decode cL_law 31 = .ok (.iand, 1) := by decide +kernel
theorem dL_law_32 : decode cL_law 32 = .ok (.tableswitch 203 0 7 #[48, 71, 94, 117, 130, 153, 166, 180], 48) := by decide +kernel
theorem dL_law_80 : decode cL_law 80 = .ok (.aload_n 1, 1) := by decide +kernel
theorem dL_law_81 : decode cL_law 81 = .ok (.aload_n 0, 1) := by decide +kernel
theorem dL_law_82 : decode cL_law 82 = .ok (.iload_n 3, 1) := by decide +kernel
theorem dL_law_83 : decode cL_law 83 = .ok (.iconst 1, 1) := by decide +kernel
theorem dL_law_84 : decode cL_law 84 = .ok (.iadd, 1) := by decide +kernel
theorem dL_law_85 : decode cL_law 85 = .ok (.iaload, 1) := by decide +kernel
theorem dL_law_86 : decode cL_law 86 = .ok (.invokevirtual 13, 3) := by decide +kernel
theorem dL_law_89 : decode cL_law 89 = .ok (.aload_n 2, 1) := by decide +kernel
theorem dL_law_90 : decode cL_law 90 = .ok (.aload_n 0, 1) := by decide +kernel
theorem dL_law_91 : decode cL_law 91 = .ok (.iload_n 3, 1) := by decide +kernel
theorem dL_law_92 : decode cL_law 92 = .ok (.iconst 1, 1) := by decide +kernel
theorem dL_law_93 : decode cL_law 93 = .ok (.iadd, 1) := by decide +kernel
theorem dL_law_94 : decode cL_law 94 = .ok (.iaload, 1) := by decide +kernel
theorem dL_law_95 : decode cL_law 95 = .ok (.invokevirtual 17, 3) := by decide +kernel
theorem dL_law_98 : decode cL_law 98 = .ok (.if_icmp .eq 137, 3) := by decide +kernel
theorem dL_law_101 : decode cL_law 101 = .ok (.iconst 0, 1) := by decide +kernel
theorem dL_law_102 : decode cL_law 102 = .ok (.ireturn, 1) := by decide +kernel
theorem dL_law_103 : decode cL_law 103 = .ok (.aload_n 1, 1) := by decide +kernel
theorem dL_law_104 : decode cL_law 104 = .ok (.aload_n 0, 1) := by decide +kernel
theorem dL_law_105 : decode cL_law 105 = .ok (.iload_n 3, 1) := by decide +kernel
theorem dL_law_106 : decode cL_law 106 = .ok (.iconst 1, 1) := by decide +kernel
theorem dL_law_107 : decode cL_law 107 = .ok (.iadd, 1) := by decide +kernel
theorem dL_law_108 : decode cL_law 108 = .ok (.iaload, 1) := by decide +kernel
theorem dL_law_109 : decode cL_law 109 = .ok (.invokevirtual 18, 3) := by decide +kernel
theorem dL_law_112 : decode cL_law 112 = .ok (.aload_n 2, 1) := by decide +kernel
theorem dL_law_113 : decode cL_law 113 = .ok (.aload_n 0, 1) := by decide +kernel
theorem dL_law_114 : decode cL_law 114 = .ok (.iload_n 3, 1) := by decide +kernel
theorem dL_law_115 : decode cL_law 115 = .ok (.iconst 1, 1) := by decide +kernel
theorem dL_law_116 : decode cL_law 116 = .ok (.iadd, 1) := by decide +kernel
theorem dL_law_117 : decode cL_law 117 = .ok (.iaload, 1) := by decide +kernel
theorem dL_law_118 : decode cL_law 118 = .ok (.invokevirtual 21, 3) := by decide +kernel
theorem dL_law_121 : decode cL_law 121 = .ok (.if_icmp .eq 114, 3) := by decide +kernel
theorem dL_law_124 : decode cL_law 124 = .ok (.iconst 0, 1) := by decide +kernel
theorem dL_law_125 : decode cL_law 125 = .ok (.ireturn, 1) := by decide +kernel
theorem dL_law_126 : decode cL_law 126 = .ok (.aload_n 1, 1) := by decide +kernel
theorem dL_law_127 : decode cL_law 127 = .ok (.aload_n 0, 1) := by decide +kernel
theorem dL_law_128 : decode cL_law 128 = .ok (.iload_n 3, 1) := by decide +kernel
theorem dL_law_129 : decode cL_law 129 = .ok (.iconst 1, 1) := by decide +kernel
theorem dL_law_130 : decode cL_law 130 = .ok (.iadd, 1) := by decide +kernel
theorem dL_law_131 : decode cL_law 131 = .ok (.iaload, 1) := by decide +kernel
theorem dL_law_132 : decode cL_law 132 = .ok (.invokevirtual 22, 3) := by decide +kernel
theorem dL_law_135 : decode cL_law 135 = .ok (.aload_n 2, 1) := by decide +kernel
theorem dL_law_136 : decode cL_law 136 = .ok (.aload_n 0, 1) := by decide +kernel
theorem dL_law_137 : decode cL_law 137 = .ok (.iload_n 3, 1) := by decide +kernel
theorem dL_law_138 : decode cL_law 138 = .ok (.iconst 1, 1) := by decide +kernel
theorem dL_law_139 : decode cL_law 139 = .ok (.iadd, 1) := by decide +kernel
theorem dL_law_140 : decode cL_law 140 = .ok (.iaload, 1) := by decide +kernel
theorem dL_law_141 : decode cL_law 141 = .ok (.invokevirtual 25, 3) := by decide +kernel
theorem dL_law_144 : decode cL_law 144 = .ok (.if_icmp .eq 91, 3) := by decide +kernel
theorem dL_law_147 : decode cL_law 147 = .ok (.iconst 0, 1) := by decide +kernel
theorem dL_law_148 : decode cL_law 148 = .ok (.ireturn, 1) := by decide +kernel
theorem dL_law_149 : decode cL_law 149 = .ok (.aload_n 1, 1) := by decide +kernel
theorem dL_law_150 : decode cL_law 150 = .ok (.invokevirtual 26, 3) := by decide +kernel
theorem dL_law_153 : decode cL_law 153 = .ok (.aload_n 2, 1) := by decide +kernel
theorem dL_law_154 : decode cL_law 154 = .ok (.invokevirtual 30, 3) := by decide +kernel
theorem dL_law_157 : decode cL_law 157 = .ok (.if_icmp .eq 78, 3) := by decide +kernel
theorem dL_law_160 : decode cL_law 160 = .ok (.iconst 0, 1) := by decide +kernel
theorem dL_law_161 : decode cL_law 161 = .ok (.ireturn, 1) := by decide +kernel
theorem dL_law_162 : decode cL_law 162 = .ok (.aload_n 1, 1) := by decide +kernel
theorem dL_law_163 : decode cL_law 163 = .ok (.aload_n 0, 1) := by decide +kernel
theorem dL_law_164 : decode cL_law 164 = .ok (.iload_n 3, 1) := by decide +kernel
theorem dL_law_165 : decode cL_law 165 = .ok (.iconst 1, 1) := by decide +kernel
theorem dL_law_166 : decode cL_law 166 = .ok (.iadd, 1) := by decide +kernel
theorem dL_law_167 : decode cL_law 167 = .ok (.iaload, 1) := by decide +kernel
theorem dL_law_168 : decode cL_law 168 = .ok (.invokevirtual 31, 3) := by decide +kernel
theorem dL_law_171 : decode cL_law 171 = .ok (.aload_n 2, 1) := by decide +kernel
theorem dL_law_172 : decode cL_law 172 = .ok (.aload_n 0, 1) := by decide +kernel
theorem dL_law_173 : decode cL_law 173 = .ok (.iload_n 3, 1) := by decide +kernel
theorem dL_law_174 : decode cL_law 174 = .ok (.iconst 1, 1) := by decide +kernel
theorem dL_law_175 : decode cL_law 175 = .ok (.iadd, 1) := by decide +kernel
theorem dL_law_176 : decode cL_law 176 = .ok (.iaload, 1) := by decide +kernel
theorem dL_law_177 : decode cL_law 177 = .ok (.invokevirtual 34, 3) := by decide +kernel
theorem dL_law_180 : decode cL_law 180 = .ok (.if_icmp .eq 55, 3) := by decide +kernel
theorem dL_law_183 : decode cL_law 183 = .ok (.iconst 0, 1) := by decide +kernel
theorem dL_law_184 : decode cL_law 184 = .ok (.ireturn, 1) := by decide +kernel
theorem dL_law_185 : decode cL_law 185 = .ok (.aload_n 1, 1) := by decide +kernel
theorem dL_law_186 : decode cL_law 186 = .ok (.invokevirtual 35, 3) := by decide +kernel
theorem dL_law_189 : decode cL_law 189 = .ok (.aload_n 2, 1) := by decide +kernel
theorem dL_law_190 : decode cL_law 190 = .ok (.invokevirtual 38, 3) := by decide +kernel
theorem dL_law_193 : decode cL_law 193 = .ok (.if_icmp .eq 42, 3) := by decide +kernel
theorem dL_law_196 : decode cL_law 196 = .ok (.iconst 0, 1) := by decide +kernel
theorem dL_law_197 : decode cL_law 197 = .ok (.ireturn, 1) := by decide +kernel
theorem dL_law_198 : decode cL_law 198 = .ok (.aload_n 1, 1) := by decide +kernel
theorem dL_law_199 : decode cL_law 199 = .ok (.invokevirtual 39, 3) := by decide +kernel
theorem dL_law_202 : decode cL_law 202 = .ok (.aload_n 2, 1) := by decide +kernel
theorem dL_law_203 : decode cL_law 203 = .ok (.invokevirtual 43, 3) := by decide +kernel
theorem dL_law_206 : decode cL_law 206 = .ok (.lcmp, 1) := by decide +kernel
theorem dL_law_207 : decode cL_law 207 = .ok (.ifCond .eq 28, 3) := by decide +kernel
theorem dL_law_210 : decode cL_law 210 = .ok (.iconst 0, 1) := by decide +kernel
theorem dL_law_211 : decode cL_law 211 = .ok (.ireturn, 1) := by decide +kernel
theorem dL_law_212 : decode cL_law 212 = .ok (.aload_n 1, 1) := by decide +kernel
theorem dL_law_213 : decode cL_law 213 = .ok (.aload_n 0, 1) := by decide +kernel
theorem dL_law_214 : decode cL_law 214 = .ok (.iload_n 3, 1) := by decide +kernel
theorem dL_law_215 : decode cL_law 215 = .ok (.iconst 1, 1) := by decide +kernel
theorem dL_law_216 : decode cL_law 216 = .ok (.iadd, 1) := by decide +kernel
theorem dL_law_217 : decode cL_law 217 = .ok (.iaload, 1) := by decide +kernel
theorem dL_law_218 : decode cL_law 218 = .ok (.invokevirtual 44, 3) := by decide +kernel
theorem dL_law_221 : decode cL_law 221 = .ok (.aload_n 2, 1) := by decide +kernel
theorem dL_law_222 : decode cL_law 222 = .ok (.aload_n 0, 1) := by decide +kernel
theorem dL_law_223 : decode cL_law 223 = .ok (.iload_n 3, 1) := by decide +kernel
theorem dL_law_224 : decode cL_law 224 = .ok (.iconst 1, 1) := by decide +kernel
theorem dL_law_225 : decode cL_law 225 = .ok (.iadd, 1) := by decide +kernel
theorem dL_law_226 : decode cL_law 226 = .ok (.iaload, 1) := by decide +kernel
theorem dL_law_227 : decode cL_law 227 = .ok (.invokevirtual 48, 3) := by decide +kernel
theorem dL_law_230 : decode cL_law 230 = .ok (.if_icmp .eq 5, 3) := by decide +kernel
theorem dL_law_233 : decode cL_law 233 = .ok (.iconst 0, 1) := by decide +kernel
theorem dL_law_234 : decode cL_law 234 = .ok (.ireturn, 1) := by decide +kernel
theorem dL_law_235 : decode cL_law 235 = .ok (.iinc 3 2, 3) := by decide +kernel
theorem dL_law_238 : decode cL_law 238 = .ok (.goto (-220), 3) := by decide +kernel
theorem dL_law_241 : decode cL_law 241 = .ok (.iconst 1, 1) := by decide +kernel
theorem dL_law_242 : decode cL_law 242 = .ok (.ireturn, 1) := by decide +kernel
abbrev vwCl : List vw_C := [(RX0, TX0, 6), (RX1, TX1, 9)]
end
section
/-! own wrappers: a method over a fixed set of cells w, called where these cells lie in the world; its contract says what is answered and what the cells are behind it -/
def kk_Pre (D : va_G) (cl : List vw_C) (tys : List (ClassId × FieldType)) (w : va_W) (U : State) : Prop := va_P D cl w U.heap ∧ va_K D cl tys U ∧ va_D (fun _ => True) w
def kk_A (w : va_W) : Nat → Prop := fun q => ∃ (k : Nat) (e : va_E), w[k]? = some (q, e)
theorem kk_blind {D : va_G} {cl : List vw_C} {tys : List (ClassId × FieldType)} {w : va_W} {av : List Value} : FrameBlind (va_Pc av (kk_Pre D cl tys w)) := fun a U g mk q => ⟨q.1, q.2.1, va_K.moved (u := U) (U := U.calling g mk a) (Vm.Alike.refl U.vm) q.2.2.1, q.2.2.2⟩
theorem kk_pre {D : va_G} {cl : List vw_C} {tys : List (ClassId × FieldType)} {w : va_W} {av : List Value} {s : State} {H : Heap} {A : Nat → Prop} (hK : va_K D cl tys s) (hP : va_P D cl w H) (hD : va_D A w) : ∀ U : State, U.heap = H → s.WarmedH U.vm → va_Pc av (kk_Pre D cl tys w) av.toArray U := fun U hU hW => ⟨rfl, by rw [hU]; exact hP, va_K.moved hW.alike hK, hD.weaken (fun _ _ _ _ => trivial)⟩
theorem kk_D_self {w : va_W} {A : Nat → Prop} (h : va_D A w) : va_D (kk_A w) w := ⟨h.1, fun k q hk => ⟨k, q.2, hk⟩⟩
theorem kk_back {w w' : va_W} (e : w.map (fun q => q.1) = w'.map (fun q => q.1)) {k : Nat} {q : Nat × va_E} (h : w'[k]? = some q) : ∃ q0, w[k]? = some q0 ∧ q0.1 = q.1 := by
  have h1 : (w'.map (fun q => q.1))[k]? = some q.1 := by rw [List.getElem?_map, h]; rfl
  rw [← e, List.getElem?_map] at h1
  cases hw : w[k]? with
  | none => rw [hw] at h1; cases h1
  | some q0 => rw [hw] at h1; exact ⟨q0, rfl, Option.some.inj h1⟩
theorem kk_D_same {w w' : va_W} {A : Nat → Prop} (h : va_D A w) (e : w.map (fun q => q.1) = w'.map (fun q => q.1)) : va_D A w' := by
  refine ⟨fun i j p q hi hj hpq => ?_, fun k q hk => ?_⟩
  · obtain ⟨p0, a1, a2⟩ := kk_back e hi
    obtain ⟨q0, b1, b2⟩ := kk_back e hj
    exact h.1 i j p0 q0 a1 b1 (by rw [a2, b2, hpq])
  · obtain ⟨q0, a1, a2⟩ := kk_back e hk
    have h2 := h.2 k q0 a1
    rw [a2] at h2
    exact h2
theorem kk_of {l : Launch} {y : MethodName} {ws ws' : List Cond} {rm : Room} {D : va_G} {cl : List vw_C} {tys : List (ClassId × FieldType)} {w : va_W} {av : List Value} {Qc : Array Value → State → Outcome → State → Prop} {mc ms : Nat} {free : Addr → Prop} {cc : ByteArray} {maxL : Nat} {ret : Option FieldType} (hy : plainName y.cls = true) (hw : ws = Cond.code y cc maxL ret :: ws') (hsz : (lg_sl av).length ≤ maxL)
    (body : ∀ (p : Program) (e : Env) (s : State) (m : MethodId) (below : List Frame) (meth : Method) (c : Code) (ls : Array Slot), p.tables.exec = Jvm.exec → c.code = cc → meth.sig.returnType = ret → (∀ x ∈ ws, x.before av.toArray s = true) → s.vm.findClass y.cls = some m.cls → meth.locks = false → c.maxLocals = maxL → meth.name = y.name → va_P D cl w s.heap → va_K D cl tys s → va_D (kk_A w) w → lv_has ls maxL (lv_args 0 av) → W p l e rm s m av.toArray below meth c s.heap [] 0 0 (MQ below Qc av.toArray s mc ms free) (F0 m 0 ls [])) : Met l y ws rm (va_Pc av (kk_Pre D cl tys w)) Qc mc ms free := by
  refine Met.ofW hy hw ?_
  intro p e s m args below meth c s₁ B hml hv
  obtain ⟨rfl, hP, hK, hD0⟩ := hv
  have hl := lv_entry av (n := maxL) hsz
  rw [lg_entry_eq]
  exact body p e s m below meth c _ B.exec B.bytes B.returns (atoms_spec (ws := ws) B.pre) (findClass_of_methodNamed B.named) B.notSynchronized hml (name_of_methodNamed B.named B.method).1 hP hK (kk_D_self hD0) hl
theorem kk_ofS {l : Launch} {y : MethodName} {ws ws' : List Cond} {rm : Room} {av : List Value} {Qc : Array Value → State → Outcome → State → Prop} {mc ms : Nat} {free : Addr → Prop} {cc : ByteArray} {maxL : Nat} {ret : Option FieldType} (hy : plainName y.cls = true) (hw : ws = Cond.code y cc maxL ret :: ws') (hsz : (lg_sl av).length ≤ maxL)
    (body : ∀ (p : Program) (e : Env) (s : State) (m : MethodId) (below : List Frame) (meth : Method) (c : Code) (ls : Array Slot), p.tables.exec = Jvm.exec → c.code = cc → meth.sig.returnType = ret → (∀ x ∈ ws, x.before av.toArray s = true) → s.vm.findClass y.cls = some m.cls → meth.locks = false → c.maxLocals = maxL → lv_has ls maxL (lv_args 0 av) → W p l e rm s m av.toArray below meth c s.heap [] 0 0 (MQ below Qc av.toArray s mc ms free) (F0 m 0 ls [])) : Met l y ws rm (va_Pc av (fun _ => True)) Qc mc ms free := by
  refine Met.ofW hy hw ?_
  intro p e s m args below meth c s₁ B hml hv
  obtain ⟨rfl, -⟩ := hv
  have hl := lv_entry av (n := maxL) hsz
  rw [lg_entry_eq]
  exact body p e s m below meth c _ B.exec B.bytes B.returns (atoms_spec (ws := ws) B.pre) (findClass_of_methodNamed B.named) B.notSynchronized hml hl
section KC
variable {p : Program} {l : Launch} {e : Env} {R : Room} {s : State} {m : MethodId} {args : Array Value} {below : List Frame} {meth : Method} {c : Code} {H : Heap} {locs : List Loc} {cells slots : Nat} {Q : State → Prop}
variable {Ts ws : List Cond} {cc bytes : ByteArray} {nL maxL index n : Nat} {own C : String} {y : MethodName} {ret : Option FieldType} {rm : Room} {b : Nat} {As rest st0 : List Value} {pc : Nat} {ls : Array Slot} {D : va_G} {cl : List vw_C} {tys : List (ClassId × FieldType)} {w : va_W} {A : Nat → Prop} {H0 : Heap} {ci q0 : Nat} {T : u_T} {N : Nat} {fs : List Value}
theorem kk_readV {r : Int32} (S : CallFix p m c cc nL s args Ts own) (hM : Met l y ws rm (va_Pc (.ref b :: As) (kk_Pre D cl tys w)) (QcRead r) 0 0 (fun _ => False)) (cw : CallW R s args own C index y bytes maxL ret ws rm 0 0 n) (hK : va_K D cl tys s) (hP : va_P D cl w H) (hD : va_D A w) (hc : cl[ci]? = some (C, T, N)) (he : w[q0]? = some (b, .inr (ci, fs))) (hn : As.length = n) (hsize : ls.size = nL) (hst : st0 = As.reverse ++ .ref b :: rest) (hW : (rest.map fun v => v.category).sum ≤ 8) (hdg : decode cc pc = .ok (.invokevirtual index, 3)) (hf : cells ≤ R.cells ∧ slots ≤ R.slots)
    (kk : W p l e R s m args below meth c H locs cells slots Q (F0 m (pc + 3) ls (.int r :: rest))) : W p l e R s m args below meth c H locs cells slots Q (F0 m pc ls st0) := by
  subst hst
  exact W.callR (W.runV S hM cw ⟨kk_blind, va_recv hK hP hc he, kk_pre hK hP hD⟩ rfl hn hsize rfl (lv_room hW) hdg hf) kk
theorem kk_readS {r : Int32} (S : CallFix p m c cc nL s args Ts own) (hM : Met l y ws rm (va_Pc As (fun _ => True)) (QcRead r) 0 0 (fun _ => False)) (cw : CallB R s args own index y bytes maxL ret ws rm 0 0 n ∧ (Cond.static y).before args s = true) (hn : As.length = n) (hsize : ls.size = nL) (hst : st0 = As.reverse ++ rest) (hW : (rest.map fun v => v.category).sum ≤ 8) (hdg : decode cc pc = .ok (.invokestatic index, 3)) (hf : cells ≤ R.cells ∧ slots ≤ R.slots)
    (kk : W p l e R s m args below meth c H locs cells slots Q (F0 m (pc + 3) ls (.int r :: rest))) : W p l e R s m args below meth c H locs cells slots Q (F0 m pc ls st0) := by
  subst hst
  exact W.callR (W.runS S hM cw ⟨fun _ _ _ _ q => q, fun _ _ _ => ⟨rfl, trivial⟩⟩ rfl hn hsize rfl (lv_room hW) hdg hf) kk
theorem kk_mutV {σ : Type} {cs : σ → va_W} {post : σ → Prop} (S : CallFix p m c cc nL s args Ts own) (hM : Met l y ws rm (va_Pc (.ref b :: As) (kk_Pre D cl tys w)) (va_Qv post (fun u t => va_P D cl (cs u) t.heap) (kk_A w)) 0 0 (kk_A w)) (cw : CallW R s args own C index y bytes maxL ret ws rm 0 0 n) (hK : va_K D cl tys s) (hP : va_P D cl w H) (hD : va_D A w) (hS : va_S A H0 H locs) (hc : cl[ci]? = some (C, T, N)) (he : w[q0]? = some (b, .inr (ci, fs))) (hn : As.length = n) (hsize : ls.size = nL) (hst : st0 = As.reverse ++ .ref b :: rest) (hW : (rest.map fun v => v.category).sum ≤ 8) (hdg : decode cc pc = .ok (.invokevirtual index, 3)) (hf : cells ≤ R.cells ∧ slots ≤ R.slots)
    (kk : ∀ (u : σ) (H1 : Heap) (locs1 : List Loc), post u → va_P D cl (cs u) H1 → va_S A H0 H1 locs1 → H.size ≤ H1.size → (∀ q : Nat, q < H.size → ¬ kk_A w q → H1[q]? = H[q]?) → W p l e R s m args below meth c H1 locs1 cells slots Q (F0 m (pc + 3) ls rest)) : W p l e R s m args below meth c H locs cells slots Q (F0 m pc ls st0) := by
  subst hst
  have hA : ∀ q, kk_A w q → A q := fun q h => by obtain ⟨k, x, h⟩ := h; exact hD.2 k _ h
  refine va_callv (va_runV S hM cw ⟨kk_blind, va_recv hK hP hc he, kk_pre hK hP hD⟩ rfl hn hsize rfl (lv_room hW) hdg hf) hS (fun q _ h => hA q h) hA (fun u t H1 locs1 ht hvm hw hB hz hk hS1 => ?_)
  rw [ht] at hB
  exact kk u H1 locs1 hw hB hS1 hz hk
theorem kk_mutI {σ : Type} {cs : σ → va_W} {post : Int32 → σ → Prop} (S : CallFix p m c cc nL s args Ts own) (hM : Met l y ws rm (va_Pc (.ref b :: As) (kk_Pre D cl tys w)) (va_Qi post (fun u t => va_P D cl (cs u) t.heap) (kk_A w)) 0 0 (kk_A w)) (cw : CallW R s args own C index y bytes maxL ret ws rm 0 0 n) (hK : va_K D cl tys s) (hP : va_P D cl w H) (hD : va_D A w) (hS : va_S A H0 H locs) (hc : cl[ci]? = some (C, T, N)) (he : w[q0]? = some (b, .inr (ci, fs))) (hn : As.length = n) (hsize : ls.size = nL) (hst : st0 = As.reverse ++ .ref b :: rest) (hW : (rest.map fun v => v.category).sum ≤ 8) (hdg : decode cc pc = .ok (.invokevirtual index, 3)) (hf : cells ≤ R.cells ∧ slots ≤ R.slots)
    (kk : ∀ (r : Int32) (u : σ) (H1 : Heap) (locs1 : List Loc), post r u → va_P D cl (cs u) H1 → va_S A H0 H1 locs1 → H.size ≤ H1.size → (∀ q : Nat, q < H.size → ¬ kk_A w q → H1[q]? = H[q]?) → W p l e R s m args below meth c H1 locs1 cells slots Q (F0 m (pc + 3) ls (.int r :: rest))) : W p l e R s m args below meth c H locs cells slots Q (F0 m pc ls st0) := by
  subst hst
  have hA : ∀ q, kk_A w q → A q := fun q h => by obtain ⟨k, x, h⟩ := h; exact hD.2 k _ h
  refine va_calli (va_runV S hM cw ⟨kk_blind, va_recv hK hP hc he, kk_pre hK hP hD⟩ rfl hn hsize rfl (lv_room hW) hdg hf) hS (fun q _ h => hA q h) hA (fun r u t H1 locs1 ht hvm hw hB hz hk hS1 => ?_)
  rw [ht] at hB
  exact kk r u H1 locs1 hw hB hS1 hz hk
theorem kk_mutL {σ : Type} {cs : σ → va_W} {post : Int64 → σ → Prop} (S : CallFix p m c cc nL s args Ts own) (hM : Met l y ws rm (va_Pc (.ref b :: As) (kk_Pre D cl tys w)) (va_Ql post (fun u t => va_P D cl (cs u) t.heap) (kk_A w)) 0 0 (kk_A w)) (cw : CallW R s args own C index y bytes maxL ret ws rm 0 0 n) (hK : va_K D cl tys s) (hP : va_P D cl w H) (hD : va_D A w) (hS : va_S A H0 H locs) (hc : cl[ci]? = some (C, T, N)) (he : w[q0]? = some (b, .inr (ci, fs))) (hn : As.length = n) (hsize : ls.size = nL) (hst : st0 = As.reverse ++ .ref b :: rest) (hW : (rest.map fun v => v.category).sum ≤ 8) (hdg : decode cc pc = .ok (.invokevirtual index, 3)) (hf : cells ≤ R.cells ∧ slots ≤ R.slots)
    (kk : ∀ (r : Int64) (u : σ) (H1 : Heap) (locs1 : List Loc), post r u → va_P D cl (cs u) H1 → va_S A H0 H1 locs1 → H.size ≤ H1.size → (∀ q : Nat, q < H.size → ¬ kk_A w q → H1[q]? = H[q]?) → W p l e R s m args below meth c H1 locs1 cells slots Q (F0 m (pc + 3) ls (.long r :: rest))) : W p l e R s m args below meth c H locs cells slots Q (F0 m pc ls st0) := by
  subst hst
  have hA : ∀ q, kk_A w q → A q := fun q h => by obtain ⟨k, x, h⟩ := h; exact hD.2 k _ h
  refine va_calll (va_runV S hM cw ⟨kk_blind, va_recv hK hP hc he, kk_pre hK hP hD⟩ rfl hn hsize rfl (lv_room hW) hdg hf) hS (fun q _ h => hA q h) hA (fun r u t H1 locs1 ht hvm hw hB hz hk hS1 => ?_)
  rw [ht] at hB
  exact kk r u H1 locs1 hw hB hS1 hz hk
end KC
end
section
/-! the desk's state and what each of its methods does to it, in words of Int32 -/
abbrev DSt : Type := (Nat → Int32) × Int32 × Int32 × Int32 × Int32 × Int32
def dk_room (u : DSt) (k : Int32) : Int32 := if 3000 < u.2.1 - u.2.2.1 + k + 1 then 0 else 1
def dk_bto (u : DSt) : Int32 := if ¬ u.2.2.2.2.1 = -1 then 2 else 1
def dk_eoe (u : DSt) : Int32 := if ¬ u.2.2.2.2.1 = -1 then u.2.2.2.2.2 else u.2.1
def dk_fb (k : Int32) : Int32 := if k = 0 then 40 else if k = 1 then 41 else if k = 2 then 65 else if k = 3 then 63 else 45
def dk_isC (n : Int32) : Int32 := if n < 0 then (if n < 57344 then 0 else if 1114111 < n then 0 else 1) else if n ≤ 55295 then 1 else (if n < 57344 then 0 else if 1114111 < n then 0 else 1)
def dk_esc (k : Int32) : Int32 := if k = 9 then 116 else if k = 10 then 110 else if k = 13 then 114 else if k = 92 then 92 else 0
def dk_size (k : Int32) : Int32 := if dk_esc k = 0 then (if 128 ≤ k then (if 2048 ≤ k then (if 65536 ≤ k then 4 else 3) else 2) else 1) else 2
def dk_put (u : DSt) (v : Int32) : DSt := (upd u.1 (u.2.1 &&& 4095).toNatClampNeg v.toInt8.toInt32, u.2.1 + 1, u.2.2)
def dk_tail (u : DSt) (b : Int32) : DSt := dk_put u (128 ||| (b &&& 63))
def dk_utf (u : DSt) (k : Int32) : DSt := if 128 ≤ k then (if 2048 ≤ k then (if 65536 ≤ k then dk_tail (dk_tail (dk_tail (dk_put u (240 ||| (k >>> ((18 : Int32) &&& 31)))) (k >>> ((12 : Int32) &&& 31))) (k >>> ((6 : Int32) &&& 31))) k else dk_tail (dk_tail (dk_put u (224 ||| (k >>> ((12 : Int32) &&& 31)))) (k >>> ((6 : Int32) &&& 31))) k) else dk_tail (dk_put u (192 ||| (k >>> ((6 : Int32) &&& 31)))) k) else dk_put u k
def dk_putC (u : DSt) (k : Int32) : DSt := if dk_esc k = 0 then dk_utf u k else dk_put (dk_put u 92) (dk_esc k)
def dk_e2 (v : DSt) : DSt := (v.1, v.2.1, v.2.2.1, v.2.2.2.1 + 1, -1, v.2.2.2.2.2)
def dk_endL (u : DSt) : DSt := dk_e2 (dk_put u 10)
def dk_o2 (v : DSt) (k : Int32) : DSt := (v.1, v.2.1, v.2.2.1, v.2.2.2.1, k, v.2.1)
def dk_open (u : DSt) (k : Int32) : DSt := if u.2.2.2.2.1 = -1 then dk_put (dk_o2 u k) (dk_fb k) else dk_put (dk_o2 (dk_endL u) k) (dk_fb k)
def dk_begin (u : DSt) (k : Int32) : Int32 × DSt := if k < 0 then (0, u) else if 3 < k then (0, u) else if ¬ dk_room u (dk_bto u) = 0 then (1, dk_open u k) else (0, u)
def dk_add (u : DSt) (k : Int32) : Int32 × DSt := if u.2.2.2.2.1 = -1 then (0, u) else if u.2.2.2.2.1 = 4 then (0, u) else if ¬ dk_isC k = 0 then (if ¬ dk_room u (dk_size k) = 0 then (1, dk_putC u k) else (0, u)) else (0, u)
def dk_text (u : DSt) (k : Int32) : Int32 × DSt := if ¬ dk_isC k = 0 then (if ¬ u.2.2.2.2.1 = 4 then (if ¬ dk_room u (dk_bto u + dk_size k) = 0 then (1, dk_putC (dk_open u 4) k) else (0, u)) else (if ¬ dk_room u (0 + dk_size k) = 0 then (1, dk_putC u k) else (0, u))) else (0, u)
def dk_end (u : DSt) : Int32 × DSt := if u.2.2.2.2.1 = -1 then (u.2.2.2.2.1, u) else (u.2.2.2.2.1, dk_endL u)
def dk_at (u : DSt) (k : Int32) : Int32 := u.1 (k &&& 4095).toNatClampNeg &&& 255
def dk_btw (u : DSt) (k : Int32) : Int32 := if k = 0 then 1 else if ¬ dk_at u (k - 1) = 10 then 0 else 1
def dk_les (u : DSt) (acc pos : Int32) : Nat → Int32
  | 0 => acc
  | n + 1 => dk_les u (if ¬ dk_at u pos = 10 then acc else acc + 1) (pos + 1) n
def dk_b2 (u : DSt) (k n : Int32) : DSt := (u.1, k, u.2.2.1, u.2.2.2.1 - n, -1, u.2.2.2.2.2)
def dk_lef (u : DSt) (k : Int32) : Int32 := dk_les u 0 k (u.2.1 - k).toNatClampNeg
def dk_back (u : DSt) (k : Int32) : Int32 × DSt := if k < u.2.2.1 then (0, u) else if u.2.1 < k then (0, u) else if ¬ dk_btw u k = 0 then (1, dk_b2 u k (dk_lef u k)) else (0, u)
def dk_mark (u : DSt) : Int32 := if ¬ u.2.2.2.2.1 = -1 then -1 else u.2.1
def dk_sz (u : DSt) : Int32 := if 7 < dk_eoe u - u.2.2.1 then 7 else dk_eoe u - u.2.2.1
def dk_pc (u : DSt) (sz : Int32) (acc : Int64) (i : Int32) : Nat → Int64
  | 0 => acc
  | n + 1 => dk_pc u sz ((acc <<< ((8 : Int32).toInt64 &&& 63)) ||| (if sz ≤ i then 0 else dk_at u (u.2.2.1 + i)).toInt64) (i + 1) n
def dk_take (u : DSt) : Int64 × DSt := if 0 < dk_sz u then (dk_pc u (dk_sz u) (dk_sz u).toInt64 0 7, (u.1, u.2.1, u.2.2.1 + dk_sz u, u.2.2.2)) else (0, u)
def dk_count (u : DSt) (k : Int32) : Int32 := if k = 0 then u.2.1 - u.2.2.1 else if k = 1 then u.2.2.2.1 else if k = 2 then u.2.2.2.2.1 else if k = 3 then u.2.1 - dk_eoe u else -1
theorem dk_mask (x : Int32) : vp_in (x &&& 4095) 4096 := pk_andIn x 12 (by decide) (by decide)
theorem dk_mlt (x : Int32) : ¬ (4096 : Int32) ≤ x &&& 4095 := by
  obtain ⟨j, h1, h2⟩ := pk_andE x (m := 4095) 12 (by decide)
  rw [h2]
  exact nI_ge (b := 4096) h1 (by decide)
theorem dk_sw4 (x : Int32) : (x.toInt < 0 ∨ 3 < x.toInt) ∨ x = 0 ∨ x = 1 ∨ x = 2 ∨ x = 3 := by
  by_cases h0 : x = 0
  · exact Or.inr (Or.inl h0)
  by_cases h1 : x = 1
  · exact Or.inr (Or.inr (Or.inl h1))
  by_cases h2 : x = 2
  · exact Or.inr (Or.inr (Or.inr (Or.inl h2)))
  by_cases h3 : x = 3
  · exact Or.inr (Or.inr (Or.inr (Or.inr h3)))
  have a0 := lv_neT (a := 0) h0 (by decide)
  have a1 := lv_neT (a := 1) h1 (by decide)
  have a2 := lv_neT (a := 2) h2 (by decide)
  have a3 := lv_neT (a := 3) h3 (by decide)
  left
  omega
theorem dk_ne4 {x : Int32} (h : x.toInt < 0 ∨ 3 < x.toInt) : ¬ x = 0 ∧ ¬ x = 1 ∧ ¬ x = 2 ∧ ¬ x = 3 := by
  refine ⟨fun q => ?_, fun q => ?_, fun q => ?_, fun q => ?_⟩ <;> subst q <;> revert h <;> decide
def dk_rng (tk tt : Int32) : Prop := ∃ a b : Nat, tk = nI a ∧ tt = nI (a + b) ∧ a + b < 2 ^ 31
theorem dk_mid {tk tt x : Int32} (h : dk_rng tk tt) (h1 : ¬ x < tk) (h2 : ¬ tt < x) : dk_rng x tt := by
  obtain ⟨a, b, rfl, rfl, hl⟩ := h
  have h0 : ¬ x < 0 := by
    intro q
    apply h1
    have := nI_toInt (n := a) (by omega)
    rw [Int32.lt_iff_toInt_lt] at q ⊢
    rw [this]
    have z : (0 : Int32).toInt = 0 := by decide
    omega
  obtain ⟨j, hj, rfl⟩ := nI_of h0
  rw [nI_ltI (by omega) (by omega)] at h2
  exact ⟨j, a + b - j, rfl, by congr 1; omega, by omega⟩
theorem dk_lefN {u : DSt} {i n : Nat} (ht : u.2.1 = nI (i + n)) (hl : i + n < 2 ^ 31) : dk_lef u (nI i) = dk_les u 0 (nI i) n := by
  unfold dk_lef
  rw [ht, pk_sub (by omega), nI_clamp (by omega), show i + n - i = n by omega]
end
section
abbrev dkW (cA : ClassId) (q0 q1 : Nat) (u : DSt) : va_W := [(q0, .inr (0, [.ref q1, .int u.2.1, .int u.2.2.1, .int u.2.2.2.1, .int u.2.2.2.2.1, .int u.2.2.2.2.2])), (q1, .inl (cA, 4096, .inl u.1))]
abbrev dkR (l : Launch) (y : MethodName) (ws : List Cond) (rm : Room) (D : va_G) (cA : ClassId) (q0 q1 : Nat) (u : DSt) (As : List Value) (r : Int32) : Prop := Met l y ws rm (va_Pc (.ref q0 :: As) (kk_Pre D vwCl [(cA, .byte)] (dkW cA q0 q1 u))) (QcRead r) 0 0 (fun _ => False)
abbrev dkV (l : Launch) (y : MethodName) (ws : List Cond) (rm : Room) (D : va_G) (cA : ClassId) (q0 q1 : Nat) (u : DSt) (As : List Value) (v : DSt) : Prop := Met l y ws rm (va_Pc (.ref q0 :: As) (kk_Pre D vwCl [(cA, .byte)] (dkW cA q0 q1 u))) (va_Qv (fun x : DSt => x = v) (fun x t => va_P D vwCl (dkW cA q0 q1 x) t.heap) (kk_A (dkW cA q0 q1 u))) 0 0 (kk_A (dkW cA q0 q1 u))
abbrev dkI (l : Launch) (y : MethodName) (ws : List Cond) (rm : Room) (D : va_G) (cA : ClassId) (q0 q1 : Nat) (u : DSt) (As : List Value) (r : Int32) (v : DSt) : Prop := Met l y ws rm (va_Pc (.ref q0 :: As) (kk_Pre D vwCl [(cA, .byte)] (dkW cA q0 q1 u))) (va_Qi (fun (z : Int32) (x : DSt) => z = r ∧ x = v) (fun x t => va_P D vwCl (dkW cA q0 q1 x) t.heap) (kk_A (dkW cA q0 q1 u))) 0 0 (kk_A (dkW cA q0 q1 u))
abbrev dkL (l : Launch) (y : MethodName) (ws : List Cond) (rm : Room) (D : va_G) (cA : ClassId) (q0 q1 : Nat) (u : DSt) (As : List Value) (r : Int64) (v : DSt) : Prop := Met l y ws rm (va_Pc (.ref q0 :: As) (kk_Pre D vwCl [(cA, .byte)] (dkW cA q0 q1 u))) (va_Ql (fun (z : Int64) (x : DSt) => z = r ∧ x = v) (fun x t => va_P D vwCl (dkW cA q0 q1 x) t.heap) (kk_A (dkW cA q0 q1 u))) 0 0 (kk_A (dkW cA q0 q1 u))
set_option maxHeartbeats 4000000 in
set_option maxRecDepth 100000 in
theorem cD_firstByteOf (l : Launch) (x0 : Int32) : Met l yX0_firstByteOf wsX0_firstByteOf ({ frames := 0, cells := 0, slots := 0, locals := 0 }) (va_Pc [.int x0] (fun _ => True)) (QcRead (dk_fb x0)) 0 0 (fun _ => False) := by
  refine kk_ofS (cc := cX0_firstByteOf) (maxL := 1) (ret := (some .int)) (by decide) rfl (Nat.le_of_ble_eq_true rfl) ?_
  intro p e s m below meth c ls hx hb hr hts hown hlocks hml hl
  have hown : s.vm.findClass RX0 = some m.cls := hown
  have hl : lv_has ls 1 [(0, .int x0)] := hl
  refine lv_iload_n hx hb dX0_firstByteOf_0 rfl (lv_at hl 0 rfl) ?_
  rcases dk_sw4 x0 with c1 | c1 | c1 | c1 | c1
  · refine lv_tableOut (tgt := 44) hx hb dX0_firstByteOf_1 c1 (by decide) ?_
    obtain ⟨c1_0, c1_1, c1_2, c1_3⟩ := dk_ne4 c1
    refine lv_bipush (v := 45) hx hb dX0_firstByteOf_44 (by decide) ?_
    have hres : 45 = dk_fb x0 := by
      first | rfl | (simp only [dk_fb, if_neg c1_0, if_neg c1_1, if_neg c1_2, if_neg c1_3]; done) | (simp [dk_fb, if_neg c1_0, if_neg c1_1, if_neg c1_2, if_neg c1_3]; done)
    exact W.iret (v := 45) hx hb hr (fun t ht hW => ⟨congrArg (fun z => Outcome.returned (some (Value.int z))) hres, ht⟩) (fun q h => absurd h List.not_mem_nil) dX0_firstByteOf_46
  · refine lv_tableIn (tgt := 32) hx hb dX0_firstByteOf_1 (by rw [c1]; decide) (by rw [c1]; decide) (off := 31) (by rw [c1]; rfl) (by decide) ?_
    refine lv_bipush (v := 40) hx hb dX0_firstByteOf_32 (by decide) ?_
    have hres : 40 = dk_fb x0 := by
      first | (rw [c1]; rfl) | (simp only [c1, dk_fb]; done) | (simp [c1, dk_fb]; done)
    exact W.iret (v := 40) hx hb hr (fun t ht hW => ⟨congrArg (fun z => Outcome.returned (some (Value.int z))) hres, ht⟩) (fun q h => absurd h List.not_mem_nil) dX0_firstByteOf_34
  · refine lv_tableIn (tgt := 35) hx hb dX0_firstByteOf_1 (by rw [c1]; decide) (by rw [c1]; decide) (off := 34) (by rw [c1]; rfl) (by decide) ?_
    refine lv_bipush (v := 41) hx hb dX0_firstByteOf_35 (by decide) ?_
    have hres : 41 = dk_fb x0 := by
      first | (rw [c1]; rfl) | (simp only [c1, dk_fb]; done) | (simp [c1, dk_fb]; done)
    exact W.iret (v := 41) hx hb hr (fun t ht hW => ⟨congrArg (fun z => Outcome.returned (some (Value.int z))) hres, ht⟩) (fun q h => absurd h List.not_mem_nil) dX0_firstByteOf_37
  · refine lv_tableIn (tgt := 38) hx hb dX0_firstByteOf_1 (by rw [c1]; decide) (by rw [c1]; decide) (off := 37) (by rw [c1]; rfl) (by decide) ?_
    refine lv_bipush (v := 65) hx hb dX0_firstByteOf_38 (by decide) ?_
    have hres : 65 = dk_fb x0 := by
      first | (rw [c1]; rfl) | (simp only [c1, dk_fb]; done) | (simp [c1, dk_fb]; done)
    exact W.iret (v := 65) hx hb hr (fun t ht hW => ⟨congrArg (fun z => Outcome.returned (some (Value.int z))) hres, ht⟩) (fun q h => absurd h List.not_mem_nil) dX0_firstByteOf_40
  · refine lv_tableIn (tgt := 41) hx hb dX0_firstByteOf_1 (by rw [c1]; decide) (by rw [c1]; decide) (off := 40) (by rw [c1]; rfl) (by decide) ?_
    refine lv_bipush (v := 63) hx hb dX0_firstByteOf_41 (by decide) ?_
    have hres : 63 = dk_fb x0 := by
      first | (rw [c1]; rfl) | (simp only [c1, dk_fb]; done) | (simp [c1, dk_fb]; done)
    exact W.iret (v := 63) hx hb hr (fun t ht hW => ⟨congrArg (fun z => Outcome.returned (some (Value.int z))) hres, ht⟩) (fun q h => absurd h List.not_mem_nil) dX0_firstByteOf_43
set_option maxHeartbeats 4000000 in
set_option maxRecDepth 100000 in
theorem cD_isCharacter (l : Launch) (x0 : Int32) : Met l yX0_isCharacter wsX0_isCharacter ({ frames := 0, cells := 0, slots := 0, locals := 0 }) (va_Pc [.int x0] (fun _ => True)) (QcRead (dk_isC x0)) 0 0 (fun _ => False) := by
  refine kk_ofS (cc := cX0_isCharacter) (maxL := 1) (ret := (some .boolean)) (by decide) rfl (Nat.le_of_ble_eq_true rfl) ?_
  intro p e s m below meth c ls hx hb hr hts hown hlocks hml hl
  have hown : s.vm.findClass RX0 = some m.cls := hown
  have hl : lv_has ls 1 [(0, .int x0)] := hl
  refine lv_iload_n hx hb dX0_isCharacter_0 rfl (lv_at hl 0 rfl) ?_
  refine lv_if_lt (tgt := 10) hx hb dX0_isCharacter_1 (by decide) (fun c1 => ?_) (fun c1 => ?_)
  · refine lv_iload_n hx hb dX0_isCharacter_10 rfl (lv_at hl 0 rfl) ?_
    refine lv_ldc (v := 57344) hx hb hown (hts (.constant RX0 79 (57344)) (by decide +kernel)) dX0_isCharacter_11 ?_
    refine lv_icmp_lt (tgt := 26) hx hb dX0_isCharacter_13 (by decide) (fun c2 => ?_) (fun c2 => ?_)
    · refine lv_iconst (v := 0) hx hb dX0_isCharacter_26 (by decide) ?_
      have hres : 0 = dk_isC x0 := by
        first | rfl | (simp only [dk_isC, if_pos c1, if_pos c2]; done) | (simp [dk_isC, if_pos c1, if_pos c2]; done)
      exact W.zret (v := 0) (ty := .boolean) hx hb hr rfl (fun t ht hW => ⟨congrArg (fun z => Outcome.returned (some (Value.int z))) hres, ht⟩) (fun q h => absurd h List.not_mem_nil) dX0_isCharacter_27
    · refine lv_iload_n hx hb dX0_isCharacter_16 rfl (lv_at hl 0 rfl) ?_
      refine lv_ldc (v := 1114111) hx hb hown (hts (.constant RX0 80 (1114111)) (by decide +kernel)) dX0_isCharacter_17 ?_
      refine lv_icmp_gt (tgt := 26) hx hb dX0_isCharacter_19 (by decide) (fun c3 => ?_) (fun c3 => ?_)
      · refine lv_iconst (v := 0) hx hb dX0_isCharacter_26 (by decide) ?_
        have hres : 0 = dk_isC x0 := by
          first | rfl | (simp only [dk_isC, if_pos c1, if_neg c2, if_pos c3]; done) | (simp [dk_isC, if_pos c1, if_neg c2, if_pos c3]; done)
        exact W.zret (v := 0) (ty := .boolean) hx hb hr rfl (fun t ht hW => ⟨congrArg (fun z => Outcome.returned (some (Value.int z))) hres, ht⟩) (fun q h => absurd h List.not_mem_nil) dX0_isCharacter_27
      · refine lv_iconst (v := 1) hx hb dX0_isCharacter_22 (by decide) ?_
        refine lv_goto (tgt := 27) hx hb dX0_isCharacter_23 (by decide) ?_
        have hres : 1 = dk_isC x0 := by
          first | rfl | (simp only [dk_isC, if_pos c1, if_neg c2, if_neg c3]; done) | (simp [dk_isC, if_pos c1, if_neg c2, if_neg c3]; done)
        exact W.zret (v := 1) (ty := .boolean) hx hb hr rfl (fun t ht hW => ⟨congrArg (fun z => Outcome.returned (some (Value.int z))) hres, ht⟩) (fun q h => absurd h List.not_mem_nil) dX0_isCharacter_27
  · refine lv_iload_n hx hb dX0_isCharacter_4 rfl (lv_at hl 0 rfl) ?_
    refine lv_ldc (v := 55295) hx hb hown (hts (.constant RX0 78 (55295)) (by decide +kernel)) dX0_isCharacter_5 ?_
    refine lv_icmp_le (tgt := 22) hx hb dX0_isCharacter_7 (by decide) (fun c4 => ?_) (fun c4 => ?_)
    · refine lv_iconst (v := 1) hx hb dX0_isCharacter_22 (by decide) ?_
      refine lv_goto (tgt := 27) hx hb dX0_isCharacter_23 (by decide) ?_
      have hres : 1 = dk_isC x0 := by
        first | rfl | (simp only [dk_isC, if_neg c1, if_pos c4]; done) | (simp [dk_isC, if_neg c1, if_pos c4]; done)
      exact W.zret (v := 1) (ty := .boolean) hx hb hr rfl (fun t ht hW => ⟨congrArg (fun z => Outcome.returned (some (Value.int z))) hres, ht⟩) (fun q h => absurd h List.not_mem_nil) dX0_isCharacter_27
    · refine lv_iload_n hx hb dX0_isCharacter_10 rfl (lv_at hl 0 rfl) ?_
      refine lv_ldc (v := 57344) hx hb hown (hts (.constant RX0 79 (57344)) (by decide +kernel)) dX0_isCharacter_11 ?_
      refine lv_icmp_lt (tgt := 26) hx hb dX0_isCharacter_13 (by decide) (fun c5 => ?_) (fun c5 => ?_)
      · refine lv_iconst (v := 0) hx hb dX0_isCharacter_26 (by decide) ?_
        have hres : 0 = dk_isC x0 := by
          first | rfl | (simp only [dk_isC, if_neg c1, if_neg c4, if_pos c5]; done) | (simp [dk_isC, if_neg c1, if_neg c4, if_pos c5]; done)
        exact W.zret (v := 0) (ty := .boolean) hx hb hr rfl (fun t ht hW => ⟨congrArg (fun z => Outcome.returned (some (Value.int z))) hres, ht⟩) (fun q h => absurd h List.not_mem_nil) dX0_isCharacter_27
      · refine lv_iload_n hx hb dX0_isCharacter_16 rfl (lv_at hl 0 rfl) ?_
        refine lv_ldc (v := 1114111) hx hb hown (hts (.constant RX0 80 (1114111)) (by decide +kernel)) dX0_isCharacter_17 ?_
        refine lv_icmp_gt (tgt := 26) hx hb dX0_isCharacter_19 (by decide) (fun c6 => ?_) (fun c6 => ?_)
        · refine lv_iconst (v := 0) hx hb dX0_isCharacter_26 (by decide) ?_
          have hres : 0 = dk_isC x0 := by
            first | rfl | (simp only [dk_isC, if_neg c1, if_neg c4, if_neg c5, if_pos c6]; done) | (simp [dk_isC, if_neg c1, if_neg c4, if_neg c5, if_pos c6]; done)
          exact W.zret (v := 0) (ty := .boolean) hx hb hr rfl (fun t ht hW => ⟨congrArg (fun z => Outcome.returned (some (Value.int z))) hres, ht⟩) (fun q h => absurd h List.not_mem_nil) dX0_isCharacter_27
        · refine lv_iconst (v := 1) hx hb dX0_isCharacter_22 (by decide) ?_
          refine lv_goto (tgt := 27) hx hb dX0_isCharacter_23 (by decide) ?_
          have hres : 1 = dk_isC x0 := by
            first | rfl | (simp only [dk_isC, if_neg c1, if_neg c4, if_neg c5, if_neg c6]; done) | (simp [dk_isC, if_neg c1, if_neg c4, if_neg c5, if_neg c6]; done)
          exact W.zret (v := 1) (ty := .boolean) hx hb hr rfl (fun t ht hW => ⟨congrArg (fun z => Outcome.returned (some (Value.int z))) hres, ht⟩) (fun q h => absurd h List.not_mem_nil) dX0_isCharacter_27
set_option maxHeartbeats 4000000 in
set_option maxRecDepth 100000 in
theorem cD_escapedFormOf (l : Launch) (x0 : Int32) : Met l yX0_escapedFormOf wsX0_escapedFormOf ({ frames := 0, cells := 0, slots := 0, locals := 0 }) (va_Pc [.int x0] (fun _ => True)) (QcRead (dk_esc x0)) 0 0 (fun _ => False) := by
  refine kk_ofS (cc := cX0_escapedFormOf) (maxL := 1) (ret := (some .int)) (by decide) rfl (Nat.le_of_ble_eq_true rfl) ?_
  intro p e s m below meth c ls hx hb hr hts hown hlocks hml hl
  have hown : s.vm.findClass RX0 = some m.cls := hown
  have hl : lv_has ls 1 [(0, .int x0)] := hl
  refine lv_iload_n hx hb dX0_escapedFormOf_0 rfl (lv_at hl 0 rfl) ?_
  by_cases c1 : x0 = 9
  · refine lv_lookup (tgt := 50) hx hb dX0_escapedFormOf_1 (by decide) (off := 49) (by rw [c1]; rfl) (by decide) ?_
    refine lv_bipush (v := 116) hx hb dX0_escapedFormOf_50 (by decide) ?_
    have hres : 116 = dk_esc x0 := by
      first | rfl | (simp only [dk_esc, if_pos c1]; done) | (simp [dk_esc, if_pos c1]; done)
    exact W.iret (v := 116) hx hb hr (fun t ht hW => ⟨congrArg (fun z => Outcome.returned (some (Value.int z))) hres, ht⟩) (fun q h => absurd h List.not_mem_nil) dX0_escapedFormOf_52
  · by_cases c2 : x0 = 10
    · refine lv_lookup (tgt := 47) hx hb dX0_escapedFormOf_1 (by decide) (off := 46) (by rw [c2]; rfl) (by decide) ?_
      refine lv_bipush (v := 110) hx hb dX0_escapedFormOf_47 (by decide) ?_
      have hres : 110 = dk_esc x0 := by
        first | rfl | (simp only [dk_esc, if_neg c1, if_pos c2]; done) | (simp [dk_esc, if_neg c1, if_pos c2]; done)
      exact W.iret (v := 110) hx hb hr (fun t ht hW => ⟨congrArg (fun z => Outcome.returned (some (Value.int z))) hres, ht⟩) (fun q h => absurd h List.not_mem_nil) dX0_escapedFormOf_49
    · by_cases c3 : x0 = 13
      · refine lv_lookup (tgt := 53) hx hb dX0_escapedFormOf_1 (by decide) (off := 52) (by rw [c3]; rfl) (by decide) ?_
        refine lv_bipush (v := 114) hx hb dX0_escapedFormOf_53 (by decide) ?_
        have hres : 114 = dk_esc x0 := by
          first | rfl | (simp only [dk_esc, if_neg c1, if_neg c2, if_pos c3]; done) | (simp [dk_esc, if_neg c1, if_neg c2, if_pos c3]; done)
        exact W.iret (v := 114) hx hb hr (fun t ht hW => ⟨congrArg (fun z => Outcome.returned (some (Value.int z))) hres, ht⟩) (fun q h => absurd h List.not_mem_nil) dX0_escapedFormOf_55
      · by_cases c4 : x0 = 92
        · refine lv_lookup (tgt := 44) hx hb dX0_escapedFormOf_1 (by decide) (off := 43) (by rw [c4]; rfl) (by decide) ?_
          refine lv_bipush (v := 92) hx hb dX0_escapedFormOf_44 (by decide) ?_
          have hres : 92 = dk_esc x0 := by
            first | rfl | (simp only [dk_esc, if_neg c1, if_neg c2, if_neg c3, if_pos c4]; done) | (simp [dk_esc, if_neg c1, if_neg c2, if_neg c3, if_pos c4]; done)
          exact W.iret (v := 92) hx hb hr (fun t ht hW => ⟨congrArg (fun z => Outcome.returned (some (Value.int z))) hres, ht⟩) (fun q h => absurd h List.not_mem_nil) dX0_escapedFormOf_46
        · refine lv_lookup (tgt := 56) hx hb dX0_escapedFormOf_1 (by decide) (off := 55) (by rw [lv_osw c1 (by decide), lv_osw c2 (by decide), lv_osw c3 (by decide), lv_osw c4 (by decide)]; rfl) (by decide) ?_
          refine lv_iconst (v := 0) hx hb dX0_escapedFormOf_56 (by decide) ?_
          have hres : 0 = dk_esc x0 := by
            first | rfl | (simp only [dk_esc, if_neg c1, if_neg c2, if_neg c3, if_neg c4]; done) | (simp [dk_esc, if_neg c1, if_neg c2, if_neg c3, if_neg c4]; done)
          exact W.iret (v := 0) hx hb hr (fun t ht hW => ⟨congrArg (fun z => Outcome.returned (some (Value.int z))) hres, ht⟩) (fun q h => absurd h List.not_mem_nil) dX0_escapedFormOf_57
set_option maxHeartbeats 4000000 in
set_option maxRecDepth 100000 in
theorem cD_sizeOf (l : Launch) (x0 : Int32) : Met l yX0_sizeOf wsX0_sizeOf ({ frames := 1, cells := 0, slots := 0, locals := 20 }) (va_Pc [.int x0] (fun _ => True)) (QcRead (dk_size x0)) 0 0 (fun _ => False) := by
  refine kk_ofS (cc := cX0_sizeOf) (maxL := 1) (ret := (some .int)) (by decide) rfl (Nat.le_of_ble_eq_true rfl) ?_
  intro p e s m below meth c ls hx hb hr hts hown hlocks hml hl
  have hown : s.vm.findClass RX0 = some m.cls := hown
  have hl : lv_has ls 1 [(0, .int x0)] := hl
  refine lv_iload_n hx hb dX0_sizeOf_0 rfl (lv_at hl 0 rfl) ?_
  refine kk_readS (rest := []) ⟨hx, hb, hml, hown, hts⟩ (cD_escapedFormOf l x0) (cwS 1 hts gX0_sizeOf_X0_escapedFormOf rfl rfl rfl (by decide +kernel) ⟨Nat.le_of_ble_eq_true rfl, Nat.le_of_ble_eq_true rfl⟩) rfl hl.1 rfl (Nat.le_of_ble_eq_true rfl) dX0_sizeOf_1 ⟨Nat.zero_le _, Nat.zero_le _⟩ ?_
  refine lv_topi (fun t1 et1 => ?_)
  refine lv_if_eq (tgt := 9) hx hb dX0_sizeOf_4 (by decide) (fun c2 => ?_) (fun c2 => ?_)
  · refine lv_iload_n hx hb dX0_sizeOf_9 rfl (lv_at hl 0 rfl) ?_
    refine lv_sipush (v := 128) hx hb dX0_sizeOf_10 (by decide) ?_
    refine lv_icmp_ge (tgt := 18) hx hb dX0_sizeOf_13 (by decide) (fun c3 => ?_) (fun c3 => ?_)
    · refine lv_iload_n hx hb dX0_sizeOf_18 rfl (lv_at hl 0 rfl) ?_
      refine lv_sipush (v := 2048) hx hb dX0_sizeOf_19 (by decide) ?_
      refine lv_icmp_ge (tgt := 27) hx hb dX0_sizeOf_22 (by decide) (fun c4 => ?_) (fun c4 => ?_)
      · refine lv_iload_n hx hb dX0_sizeOf_27 rfl (lv_at hl 0 rfl) ?_
        refine lv_ldc (v := 65536) hx hb hown (hts (.constant RX0 84 (65536)) (by decide +kernel)) dX0_sizeOf_28 ?_
        refine lv_icmp_ge (tgt := 37) hx hb dX0_sizeOf_30 (by decide) (fun c5 => ?_) (fun c5 => ?_)
        · refine lv_iconst (v := 4) hx hb dX0_sizeOf_37 (by decide) ?_
          have hres : 4 = dk_size x0 := by
            subst et1
            first | rfl | (simp only [dk_size, if_pos c2, if_pos c3, if_pos c4, if_pos c5]; done) | (simp [dk_size, if_pos c2, if_pos c3, if_pos c4, if_pos c5]; done)
          exact W.iret (v := 4) hx hb hr (fun t ht hW => ⟨congrArg (fun z => Outcome.returned (some (Value.int z))) hres, ht⟩) (fun q h => absurd h List.not_mem_nil) dX0_sizeOf_38
        · refine lv_iconst (v := 3) hx hb dX0_sizeOf_33 (by decide) ?_
          refine lv_goto (tgt := 38) hx hb dX0_sizeOf_34 (by decide) ?_
          have hres : 3 = dk_size x0 := by
            subst et1
            first | rfl | (simp only [dk_size, if_pos c2, if_pos c3, if_pos c4, if_neg c5]; done) | (simp [dk_size, if_pos c2, if_pos c3, if_pos c4, if_neg c5]; done)
          exact W.iret (v := 3) hx hb hr (fun t ht hW => ⟨congrArg (fun z => Outcome.returned (some (Value.int z))) hres, ht⟩) (fun q h => absurd h List.not_mem_nil) dX0_sizeOf_38
      · refine lv_iconst (v := 2) hx hb dX0_sizeOf_25 (by decide) ?_
        have hres : 2 = dk_size x0 := by
          subst et1
          first | rfl | (simp only [dk_size, if_pos c2, if_pos c3, if_neg c4]; done) | (simp [dk_size, if_pos c2, if_pos c3, if_neg c4]; done)
        exact W.iret (v := 2) hx hb hr (fun t ht hW => ⟨congrArg (fun z => Outcome.returned (some (Value.int z))) hres, ht⟩) (fun q h => absurd h List.not_mem_nil) dX0_sizeOf_26
    · refine lv_iconst (v := 1) hx hb dX0_sizeOf_16 (by decide) ?_
      have hres : 1 = dk_size x0 := by
        subst et1
        first | rfl | (simp only [dk_size, if_pos c2, if_neg c3]; done) | (simp [dk_size, if_pos c2, if_neg c3]; done)
      exact W.iret (v := 1) hx hb hr (fun t ht hW => ⟨congrArg (fun z => Outcome.returned (some (Value.int z))) hres, ht⟩) (fun q h => absurd h List.not_mem_nil) dX0_sizeOf_17
  · refine lv_iconst (v := 2) hx hb dX0_sizeOf_7 (by decide) ?_
    have hres : 2 = dk_size x0 := by
      subst et1
      first | rfl | (simp only [dk_size, if_neg c2]; done) | (simp [dk_size, if_neg c2]; done)
    exact W.iret (v := 2) hx hb hr (fun t ht hW => ⟨congrArg (fun z => Outcome.returned (some (Value.int z))) hres, ht⟩) (fun q h => absurd h List.not_mem_nil) dX0_sizeOf_8
set_option maxHeartbeats 4000000 in
set_option maxRecDepth 100000 in
theorem cD_byteAt (l : Launch) (D : va_G) (cA : ClassId) (q0 q1 : Nat) (rg : Nat → Int32) (tt tk en ki os : Int32) (x1 : Int32) : dkR l yX0_byteAt wsX0_byteAt ({ frames := 0, cells := 0, slots := 0, locals := 0 }) D cA q0 q1 (rg, tt, tk, en, ki, os) [.int x1] (dk_at (rg, tt, tk, en, ki, os) x1) := by
  refine kk_of (cc := cX0_byteAt) (maxL := 3) (ret := (some .int)) (by decide) rfl (Nat.le_of_ble_eq_true rfl) ?_
  intro p e s m below meth c ls hx hb hr hts hown hlocks hml hnm hP hK hD hl
  have hown : s.vm.findClass RX0 = some m.cls := hown
  have hl : lv_has ls 3 [(0, .ref q0), (1, .int x1)] := hl
  have hin : ∀ w ∈ wsX00, w ∈ wsX0_byteAt := by decide +kernel
  have lk9 := hts (.fieldLink RX0 9 "EventLineDesk" "ring" "[B") (by decide +kernel)
  refine lv_iload_n hx hb dX0_byteAt_0 rfl (lv_at hl 1 rfl) ?_
  refine lv_sipush (v := 4095) hx hb dX0_byteAt_1 (by decide) ?_
  refine lv_iand hx hb dX0_byteAt_4 ?_
  refine lv_topi (fun t1 et1 => ?_)
  refine lv_istore_n (lv' := [(2, .int t1), (0, .ref q0), (1, .int x1)]) hx hb dX0_byteAt_5 rfl hl (by decide) rfl (fun ls hl => ?_)
  refine lv_iload_n hx hb dX0_byteAt_6 rfl (lv_at hl 0 rfl) ?_
  refine lv_aload_n hx hb dX0_byteAt_7 rfl (lv_at hl 1 rfl) ?_
  refine va_get (D := D) (ci := 0) (v := .ref q1) (C := RX0) (T := TX0) (N := 6) hx hb hts hin hown hK hP 0 rfl rfl 0 (by decide) lk9 (fun _ h9 => h9) rfl dX0_byteAt_8 ?_
  refine va_alen (v := 4096) hx hb hK hP 1 0 rfl rfl (show Int32.ofNat 4096 = 4096 from by decide) dX0_byteAt_11 ?_
  refine lv_icmp_ge (tgt := 28) hx hb dX0_byteAt_12 (by decide) (fun c2 => ?_) (fun c2 => ?_)
  · exact absurd c2 (by rw [et1]; exact dk_mlt _)
  · refine lv_aload_n hx hb dX0_byteAt_15 rfl (lv_at hl 1 rfl) ?_
    refine va_get (D := D) (ci := 0) (v := .ref q1) (C := RX0) (T := TX0) (N := 6) hx hb hts hin hown hK hP 0 rfl rfl 0 (by decide) lk9 (fun _ h9 => h9) rfl dX0_byteAt_16 ?_
    refine lv_iload_n hx hb dX0_byteAt_19 rfl (lv_at hl 0 rfl) ?_
    refine va_bald hx hb hK hP 1 0 rfl rfl (by rw [et1]; exact dk_mask _) dX0_byteAt_20 ?_
    refine lv_topi (fun t3 et3 => ?_)
    refine lv_sipush (v := 255) hx hb dX0_byteAt_21 (by decide) ?_
    refine lv_iand hx hb dX0_byteAt_24 ?_
    refine lv_topi (fun t4 et4 => ?_)
    refine lv_goto (tgt := 29) hx hb dX0_byteAt_25 (by decide) ?_
    have hres : t4 = dk_at (rg, tt, tk, en, ki, os) x1 := by
      subst et4 et3 et1
      first | rfl | (simp only [dk_at, if_neg c2]; done) | (simp [dk_at, if_neg c2]; done)
    exact W.iret (v := t4) hx hb hr (fun t ht hW => ⟨congrArg (fun z => Outcome.returned (some (Value.int z))) hres, ht⟩) (fun q h => absurd h List.not_mem_nil) dX0_byteAt_29
set_option maxHeartbeats 4000000 in
set_option maxRecDepth 100000 in
theorem cD_hasRoomFor (l : Launch) (D : va_G) (cA : ClassId) (q0 q1 : Nat) (rg : Nat → Int32) (tt tk en ki os : Int32) (x1 : Int32) : dkR l yX0_hasRoomFor wsX0_hasRoomFor ({ frames := 0, cells := 0, slots := 0, locals := 0 }) D cA q0 q1 (rg, tt, tk, en, ki, os) [.int x1] (dk_room (rg, tt, tk, en, ki, os) x1) := by
  refine kk_of (cc := cX0_hasRoomFor) (maxL := 2) (ret := (some .boolean)) (by decide) rfl (Nat.le_of_ble_eq_true rfl) ?_
  intro p e s m below meth c ls hx hb hr hts hown hlocks hml hnm hP hK hD hl
  have hown : s.vm.findClass RX0 = some m.cls := hown
  have hl : lv_has ls 2 [(0, .ref q0), (1, .int x1)] := hl
  have hin : ∀ w ∈ wsX00, w ∈ wsX0_hasRoomFor := by decide +kernel
  have lk13 := hts (.fieldLink RX0 13 "EventLineDesk" "total" "I") (by decide +kernel)
  have lk17 := hts (.fieldLink RX0 17 "EventLineDesk" "taken" "I") (by decide +kernel)
  refine lv_aload_n hx hb dX0_hasRoomFor_0 rfl (lv_at hl 0 rfl) ?_
  refine va_get (D := D) (ci := 0) (v := .int tt) (C := RX0) (T := TX0) (N := 6) hx hb hts hin hown hK hP 0 rfl rfl 1 (by decide) lk13 (fun _ h9 => h9) rfl dX0_hasRoomFor_1 ?_
  refine lv_aload_n hx hb dX0_hasRoomFor_4 rfl (lv_at hl 0 rfl) ?_
  refine va_get (D := D) (ci := 0) (v := .int tk) (C := RX0) (T := TX0) (N := 6) hx hb hts hin hown hK hP 0 rfl rfl 2 (by decide) lk17 (fun _ h9 => h9) rfl dX0_hasRoomFor_5 ?_
  refine lv_isub hx hb dX0_hasRoomFor_8 ?_
  refine lv_topi (fun t1 et1 => ?_)
  refine lv_iload_n hx hb dX0_hasRoomFor_9 rfl (lv_at hl 1 rfl) ?_
  refine lv_iadd hx hb dX0_hasRoomFor_10 ?_
  refine lv_topi (fun t2 et2 => ?_)
  refine lv_iconst (v := 1) hx hb dX0_hasRoomFor_11 (by decide) ?_
  refine lv_iadd hx hb dX0_hasRoomFor_12 ?_
  refine lv_topi (fun t3 et3 => ?_)
  refine lv_sipush (v := 3000) hx hb dX0_hasRoomFor_13 (by decide) ?_
  refine lv_icmp_gt (tgt := 23) hx hb dX0_hasRoomFor_16 (by decide) (fun c4 => ?_) (fun c4 => ?_)
  · refine lv_iconst (v := 0) hx hb dX0_hasRoomFor_23 (by decide) ?_
    have hres : 0 = dk_room (rg, tt, tk, en, ki, os) x1 := by
      subst et3 et2 et1
      first | rfl | (simp only [dk_room, if_pos c4]; done) | (simp [dk_room, if_pos c4]; done)
    exact W.zret (v := 0) (ty := .boolean) hx hb hr rfl (fun t ht hW => ⟨congrArg (fun z => Outcome.returned (some (Value.int z))) hres, ht⟩) (fun q h => absurd h List.not_mem_nil) dX0_hasRoomFor_24
  · refine lv_iconst (v := 1) hx hb dX0_hasRoomFor_19 (by decide) ?_
    refine lv_goto (tgt := 24) hx hb dX0_hasRoomFor_20 (by decide) ?_
    have hres : 1 = dk_room (rg, tt, tk, en, ki, os) x1 := by
      subst et3 et2 et1
      first | rfl | (simp only [dk_room, if_neg c4]; done) | (simp [dk_room, if_neg c4]; done)
    exact W.zret (v := 1) (ty := .boolean) hx hb hr rfl (fun t ht hW => ⟨congrArg (fun z => Outcome.returned (some (Value.int z))) hres, ht⟩) (fun q h => absurd h List.not_mem_nil) dX0_hasRoomFor_24
set_option maxHeartbeats 4000000 in
set_option maxRecDepth 100000 in
theorem cD_bytesToOpen (l : Launch) (D : va_G) (cA : ClassId) (q0 q1 : Nat) (rg : Nat → Int32) (tt tk en ki os : Int32)  : dkR l yX0_bytesToOpen wsX0_bytesToOpen ({ frames := 0, cells := 0, slots := 0, locals := 0 }) D cA q0 q1 (rg, tt, tk, en, ki, os) [] (dk_bto (rg, tt, tk, en, ki, os)) := by
  refine kk_of (cc := cX0_bytesToOpen) (maxL := 1) (ret := (some .int)) (by decide) rfl (Nat.le_of_ble_eq_true rfl) ?_
  intro p e s m below meth c ls hx hb hr hts hown hlocks hml hnm hP hK hD hl
  have hown : s.vm.findClass RX0 = some m.cls := hown
  have hl : lv_has ls 1 [(0, .ref q0)] := hl
  have hin : ∀ w ∈ wsX00, w ∈ wsX0_bytesToOpen := by decide +kernel
  have lk23 := hts (.fieldLink RX0 23 "EventLineDesk" "openKind" "I") (by decide +kernel)
  refine lv_aload_n hx hb dX0_bytesToOpen_0 rfl (lv_at hl 0 rfl) ?_
  refine va_get (D := D) (ci := 0) (v := .int ki) (C := RX0) (T := TX0) (N := 6) hx hb hts hin hown hK hP 0 rfl rfl 4 (by decide) lk23 (fun _ h9 => h9) rfl dX0_bytesToOpen_1 ?_
  refine lv_iconst (v := (-1)) hx hb dX0_bytesToOpen_4 (by decide) ?_
  refine lv_icmp_ne (tgt := 12) hx hb dX0_bytesToOpen_5 (by decide) (fun c1 => ?_) (fun c1 => ?_)
  · refine lv_iconst (v := 2) hx hb dX0_bytesToOpen_12 (by decide) ?_
    have hres : 2 = dk_bto (rg, tt, tk, en, ki, os) := by
      first | rfl | (simp only [dk_bto, if_pos c1]; done) | (simp [dk_bto, if_pos c1]; done)
    exact W.iret (v := 2) hx hb hr (fun t ht hW => ⟨congrArg (fun z => Outcome.returned (some (Value.int z))) hres, ht⟩) (fun q h => absurd h List.not_mem_nil) dX0_bytesToOpen_13
  · refine lv_iconst (v := 1) hx hb dX0_bytesToOpen_8 (by decide) ?_
    refine lv_goto (tgt := 13) hx hb dX0_bytesToOpen_9 (by decide) ?_
    have hres : 1 = dk_bto (rg, tt, tk, en, ki, os) := by
      first | rfl | (simp only [dk_bto, if_neg (not_not_intro c1)]; done) | (simp [dk_bto, if_neg (not_not_intro c1)]; done)
    exact W.iret (v := 1) hx hb hr (fun t ht hW => ⟨congrArg (fun z => Outcome.returned (some (Value.int z))) hres, ht⟩) (fun q h => absurd h List.not_mem_nil) dX0_bytesToOpen_13
set_option maxHeartbeats 4000000 in
set_option maxRecDepth 100000 in
theorem cD_endOfEndedLines (l : Launch) (D : va_G) (cA : ClassId) (q0 q1 : Nat) (rg : Nat → Int32) (tt tk en ki os : Int32)  : dkR l yX0_endOfEndedLines wsX0_endOfEndedLines ({ frames := 0, cells := 0, slots := 0, locals := 0 }) D cA q0 q1 (rg, tt, tk, en, ki, os) [] (dk_eoe (rg, tt, tk, en, ki, os)) := by
  refine kk_of (cc := cX0_endOfEndedLines) (maxL := 1) (ret := (some .int)) (by decide) rfl (Nat.le_of_ble_eq_true rfl) ?_
  intro p e s m below meth c ls hx hb hr hts hown hlocks hml hnm hP hK hD hl
  have hown : s.vm.findClass RX0 = some m.cls := hown
  have hl : lv_has ls 1 [(0, .ref q0)] := hl
  have hin : ∀ w ∈ wsX00, w ∈ wsX0_endOfEndedLines := by decide +kernel
  have lk23 := hts (.fieldLink RX0 23 "EventLineDesk" "openKind" "I") (by decide +kernel)
  have lk13 := hts (.fieldLink RX0 13 "EventLineDesk" "total" "I") (by decide +kernel)
  have lk26 := hts (.fieldLink RX0 26 "EventLineDesk" "openStart" "I") (by decide +kernel)
  refine lv_aload_n hx hb dX0_endOfEndedLines_0 rfl (lv_at hl 0 rfl) ?_
  refine va_get (D := D) (ci := 0) (v := .int ki) (C := RX0) (T := TX0) (N := 6) hx hb hts hin hown hK hP 0 rfl rfl 4 (by decide) lk23 (fun _ h9 => h9) rfl dX0_endOfEndedLines_1 ?_
  refine lv_iconst (v := (-1)) hx hb dX0_endOfEndedLines_4 (by decide) ?_
  refine lv_icmp_ne (tgt := 15) hx hb dX0_endOfEndedLines_5 (by decide) (fun c1 => ?_) (fun c1 => ?_)
  · refine lv_aload_n hx hb dX0_endOfEndedLines_15 rfl (lv_at hl 0 rfl) ?_
    refine va_get (D := D) (ci := 0) (v := .int os) (C := RX0) (T := TX0) (N := 6) hx hb hts hin hown hK hP 0 rfl rfl 5 (by decide) lk26 (fun _ h9 => h9) rfl dX0_endOfEndedLines_16 ?_
    have hres : os = dk_eoe (rg, tt, tk, en, ki, os) := by
      first | rfl | (simp only [dk_eoe, if_pos c1]; done) | (simp [dk_eoe, if_pos c1]; done)
    exact W.iret (v := os) hx hb hr (fun t ht hW => ⟨congrArg (fun z => Outcome.returned (some (Value.int z))) hres, ht⟩) (fun q h => absurd h List.not_mem_nil) dX0_endOfEndedLines_19
  · refine lv_aload_n hx hb dX0_endOfEndedLines_8 rfl (lv_at hl 0 rfl) ?_
    refine va_get (D := D) (ci := 0) (v := .int tt) (C := RX0) (T := TX0) (N := 6) hx hb hts hin hown hK hP 0 rfl rfl 1 (by decide) lk13 (fun _ h9 => h9) rfl dX0_endOfEndedLines_9 ?_
    refine lv_goto (tgt := 19) hx hb dX0_endOfEndedLines_12 (by decide) ?_
    have hres : tt = dk_eoe (rg, tt, tk, en, ki, os) := by
      first | rfl | (simp only [dk_eoe, if_neg (not_not_intro c1)]; done) | (simp [dk_eoe, if_neg (not_not_intro c1)]; done)
    exact W.iret (v := tt) hx hb hr (fun t ht hW => ⟨congrArg (fun z => Outcome.returned (some (Value.int z))) hres, ht⟩) (fun q h => absurd h List.not_mem_nil) dX0_endOfEndedLines_19
set_option maxHeartbeats 4000000 in
set_option maxRecDepth 100000 in
theorem cD_isBetweenLines (l : Launch) (D : va_G) (cA : ClassId) (q0 q1 : Nat) (rg : Nat → Int32) (tt tk en ki os : Int32) (x1 : Int32) : dkR l yX0_isBetweenLines wsX0_isBetweenLines ({ frames := 1, cells := 0, slots := 0, locals := 22 }) D cA q0 q1 (rg, tt, tk, en, ki, os) [.int x1] (dk_btw (rg, tt, tk, en, ki, os) x1) := by
  refine kk_of (cc := cX0_isBetweenLines) (maxL := 2) (ret := (some .boolean)) (by decide) rfl (Nat.le_of_ble_eq_true rfl) ?_
  intro p e s m below meth c ls hx hb hr hts hown hlocks hml hnm hP hK hD hl
  have hown : s.vm.findClass RX0 = some m.cls := hown
  have hl : lv_has ls 2 [(0, .ref q0), (1, .int x1)] := hl
  have hin : ∀ w ∈ wsX00, w ∈ wsX0_isBetweenLines := by decide +kernel
  refine lv_iload_n hx hb dX0_isBetweenLines_0 rfl (lv_at hl 1 rfl) ?_
  refine lv_if_eq (tgt := 16) hx hb dX0_isBetweenLines_1 (by decide) (fun c1 => ?_) (fun c1 => ?_)
  · refine lv_iconst (v := 1) hx hb dX0_isBetweenLines_16 (by decide) ?_
    refine lv_goto (tgt := 21) hx hb dX0_isBetweenLines_17 (by decide) ?_
    have hres : 1 = dk_btw (rg, tt, tk, en, ki, os) x1 := by
      first | rfl | (simp only [dk_btw, if_pos c1]; done) | (simp [dk_btw, if_pos c1]; done)
    exact W.zret (v := 1) (ty := .boolean) hx hb hr rfl (fun t ht hW => ⟨congrArg (fun z => Outcome.returned (some (Value.int z))) hres, ht⟩) (fun q h => absurd h List.not_mem_nil) dX0_isBetweenLines_21
  · refine lv_aload_n hx hb dX0_isBetweenLines_4 rfl (lv_at hl 0 rfl) ?_
    refine lv_iload_n hx hb dX0_isBetweenLines_5 rfl (lv_at hl 1 rfl) ?_
    refine lv_iconst (v := 1) hx hb dX0_isBetweenLines_6 (by decide) ?_
    refine lv_isub hx hb dX0_isBetweenLines_7 ?_
    refine lv_topi (fun t2 et2 => ?_)
    refine kk_readV (ci := 0) (q0 := 0) (rest := []) ⟨hx, hb, hml, hown, hts⟩ (cD_byteAt l D cA q0 q1 rg tt tk en ki os t2) (cwV 1 hts gX0_isBetweenLines_X0_byteAt rfl rfl rfl (by decide +kernel) ⟨Nat.le_of_ble_eq_true rfl, Nat.le_of_ble_eq_true rfl⟩) hK hP hD rfl rfl rfl hl.1 rfl (Nat.le_of_ble_eq_true rfl) dX0_isBetweenLines_8 ⟨Nat.zero_le _, Nat.zero_le _⟩ ?_
    refine lv_topi (fun t3 et3 => ?_)
    refine lv_bipush (v := 10) hx hb dX0_isBetweenLines_11 (by decide) ?_
    refine lv_icmp_ne (tgt := 20) hx hb dX0_isBetweenLines_13 (by decide) (fun c4 => ?_) (fun c4 => ?_)
    · refine lv_iconst (v := 0) hx hb dX0_isBetweenLines_20 (by decide) ?_
      have hres : 0 = dk_btw (rg, tt, tk, en, ki, os) x1 := by
        subst et3 et2
        first | rfl | (simp only [dk_btw, if_neg c1, if_pos c4]; done) | (simp [dk_btw, if_neg c1, if_pos c4]; done)
      exact W.zret (v := 0) (ty := .boolean) hx hb hr rfl (fun t ht hW => ⟨congrArg (fun z => Outcome.returned (some (Value.int z))) hres, ht⟩) (fun q h => absurd h List.not_mem_nil) dX0_isBetweenLines_21
    · refine lv_iconst (v := 1) hx hb dX0_isBetweenLines_16 (by decide) ?_
      refine lv_goto (tgt := 21) hx hb dX0_isBetweenLines_17 (by decide) ?_
      have hres : 1 = dk_btw (rg, tt, tk, en, ki, os) x1 := by
        subst et3 et2
        first | rfl | (simp only [dk_btw, if_neg c1, if_neg (not_not_intro c4)]; done) | (simp [dk_btw, if_neg c1, if_neg (not_not_intro c4)]; done)
      exact W.zret (v := 1) (ty := .boolean) hx hb hr rfl (fun t ht hW => ⟨congrArg (fun z => Outcome.returned (some (Value.int z))) hres, ht⟩) (fun q h => absurd h List.not_mem_nil) dX0_isBetweenLines_21
set_option maxHeartbeats 4000000 in
set_option maxRecDepth 100000 in
theorem cD_mark (l : Launch) (D : va_G) (cA : ClassId) (q0 q1 : Nat) (rg : Nat → Int32) (tt tk en ki os : Int32)  : dkR l yX0_mark wsX0_mark ({ frames := 0, cells := 0, slots := 0, locals := 0 }) D cA q0 q1 (rg, tt, tk, en, ki, os) [] (dk_mark (rg, tt, tk, en, ki, os)) := by
  refine kk_of (cc := cX0_mark) (maxL := 1) (ret := (some .int)) (by decide) rfl (Nat.le_of_ble_eq_true rfl) ?_
  intro p e s m below meth c ls hx hb hr hts hown hlocks hml hnm hP hK hD hl
  have hown : s.vm.findClass RX0 = some m.cls := hown
  have hl : lv_has ls 1 [(0, .ref q0)] := hl
  have hin : ∀ w ∈ wsX00, w ∈ wsX0_mark := by decide +kernel
  have lk23 := hts (.fieldLink RX0 23 "EventLineDesk" "openKind" "I") (by decide +kernel)
  have lk13 := hts (.fieldLink RX0 13 "EventLineDesk" "total" "I") (by decide +kernel)
  refine lv_aload_n hx hb dX0_mark_0 rfl (lv_at hl 0 rfl) ?_
  refine va_get (D := D) (ci := 0) (v := .int ki) (C := RX0) (T := TX0) (N := 6) hx hb hts hin hown hK hP 0 rfl rfl 4 (by decide) lk23 (fun _ h9 => h9) rfl dX0_mark_1 ?_
  refine lv_iconst (v := (-1)) hx hb dX0_mark_4 (by decide) ?_
  refine lv_icmp_ne (tgt := 15) hx hb dX0_mark_5 (by decide) (fun c1 => ?_) (fun c1 => ?_)
  · refine lv_iconst (v := (-1)) hx hb dX0_mark_15 (by decide) ?_
    have hres : (-1) = dk_mark (rg, tt, tk, en, ki, os) := by
      first | rfl | (simp only [dk_mark, if_pos c1]; done) | (simp [dk_mark, if_pos c1]; done)
    exact W.iret (v := (-1)) hx hb hr (fun t ht hW => ⟨congrArg (fun z => Outcome.returned (some (Value.int z))) hres, ht⟩) (fun q h => absurd h List.not_mem_nil) dX0_mark_16
  · refine lv_aload_n hx hb dX0_mark_8 rfl (lv_at hl 0 rfl) ?_
    refine va_get (D := D) (ci := 0) (v := .int tt) (C := RX0) (T := TX0) (N := 6) hx hb hts hin hown hK hP 0 rfl rfl 1 (by decide) lk13 (fun _ h9 => h9) rfl dX0_mark_9 ?_
    refine lv_goto (tgt := 16) hx hb dX0_mark_12 (by decide) ?_
    have hres : tt = dk_mark (rg, tt, tk, en, ki, os) := by
      first | rfl | (simp only [dk_mark, if_neg (not_not_intro c1)]; done) | (simp [dk_mark, if_neg (not_not_intro c1)]; done)
    exact W.iret (v := tt) hx hb hr (fun t ht hW => ⟨congrArg (fun z => Outcome.returned (some (Value.int z))) hres, ht⟩) (fun q h => absurd h List.not_mem_nil) dX0_mark_16
set_option maxHeartbeats 4000000 in
set_option maxRecDepth 100000 in
theorem cD_count (l : Launch) (D : va_G) (cA : ClassId) (q0 q1 : Nat) (rg : Nat → Int32) (tt tk en ki os : Int32) (x1 : Int32) : dkR l yX0_count wsX0_count ({ frames := 1, cells := 0, slots := 0, locals := 20 }) D cA q0 q1 (rg, tt, tk, en, ki, os) [.int x1] (dk_count (rg, tt, tk, en, ki, os) x1) := by
  refine kk_of (cc := cX0_count) (maxL := 2) (ret := (some .int)) (by decide) rfl (Nat.le_of_ble_eq_true rfl) ?_
  intro p e s m below meth c ls hx hb hr hts hown hlocks hml hnm hP hK hD hl
  have hown : s.vm.findClass RX0 = some m.cls := hown
  have hl : lv_has ls 2 [(0, .ref q0), (1, .int x1)] := hl
  have hin : ∀ w ∈ wsX00, w ∈ wsX0_count := by decide +kernel
  have lk13 := hts (.fieldLink RX0 13 "EventLineDesk" "total" "I") (by decide +kernel)
  have lk17 := hts (.fieldLink RX0 17 "EventLineDesk" "taken" "I") (by decide +kernel)
  have lk20 := hts (.fieldLink RX0 20 "EventLineDesk" "endedLines" "I") (by decide +kernel)
  have lk23 := hts (.fieldLink RX0 23 "EventLineDesk" "openKind" "I") (by decide +kernel)
  refine lv_iload_n hx hb dX0_count_0 rfl (lv_at hl 1 rfl) ?_
  rcases dk_sw4 x1 with c1 | c1 | c1 | c1 | c1
  · refine lv_tableOut (tgt := 62) hx hb dX0_count_1 c1 (by decide) ?_
    obtain ⟨c1_0, c1_1, c1_2, c1_3⟩ := dk_ne4 c1
    refine lv_iconst (v := (-1)) hx hb dX0_count_62 (by decide) ?_
    have hres : (-1) = dk_count (rg, tt, tk, en, ki, os) x1 := by
      first | rfl | (simp only [dk_count, if_neg c1_0, if_neg c1_1, if_neg c1_2, if_neg c1_3]; done) | (simp [dk_count, if_neg c1_0, if_neg c1_1, if_neg c1_2, if_neg c1_3]; done)
    exact W.iret (v := (-1)) hx hb hr (fun t ht hW => ⟨congrArg (fun z => Outcome.returned (some (Value.int z))) hres, ht⟩) (fun q h => absurd h List.not_mem_nil) dX0_count_63
  · refine lv_tableIn (tgt := 32) hx hb dX0_count_1 (by rw [c1]; decide) (by rw [c1]; decide) (off := 31) (by rw [c1]; rfl) (by decide) ?_
    refine lv_aload_n hx hb dX0_count_32 rfl (lv_at hl 0 rfl) ?_
    refine va_get (D := D) (ci := 0) (v := .int tt) (C := RX0) (T := TX0) (N := 6) hx hb hts hin hown hK hP 0 rfl rfl 1 (by decide) lk13 (fun _ h9 => h9) rfl dX0_count_33 ?_
    refine lv_aload_n hx hb dX0_count_36 rfl (lv_at hl 0 rfl) ?_
    refine va_get (D := D) (ci := 0) (v := .int tk) (C := RX0) (T := TX0) (N := 6) hx hb hts hin hown hK hP 0 rfl rfl 2 (by decide) lk17 (fun _ h9 => h9) rfl dX0_count_37 ?_
    refine lv_isub hx hb dX0_count_40 ?_
    refine lv_topi (fun t2 et2 => ?_)
    have hres : t2 = dk_count (rg, tt, tk, en, ki, os) x1 := by
      subst et2
      first | (rw [c1]; rfl) | (simp only [c1, dk_count]; done) | (simp [c1, dk_count]; done)
    exact W.iret (v := t2) hx hb hr (fun t ht hW => ⟨congrArg (fun z => Outcome.returned (some (Value.int z))) hres, ht⟩) (fun q h => absurd h List.not_mem_nil) dX0_count_41
  · refine lv_tableIn (tgt := 42) hx hb dX0_count_1 (by rw [c1]; decide) (by rw [c1]; decide) (off := 41) (by rw [c1]; rfl) (by decide) ?_
    refine lv_aload_n hx hb dX0_count_42 rfl (lv_at hl 0 rfl) ?_
    refine va_get (D := D) (ci := 0) (v := .int en) (C := RX0) (T := TX0) (N := 6) hx hb hts hin hown hK hP 0 rfl rfl 3 (by decide) lk20 (fun _ h9 => h9) rfl dX0_count_43 ?_
    have hres : en = dk_count (rg, tt, tk, en, ki, os) x1 := by
      first | (rw [c1]; rfl) | (simp only [c1, dk_count]; done) | (simp [c1, dk_count]; done)
    exact W.iret (v := en) hx hb hr (fun t ht hW => ⟨congrArg (fun z => Outcome.returned (some (Value.int z))) hres, ht⟩) (fun q h => absurd h List.not_mem_nil) dX0_count_46
  · refine lv_tableIn (tgt := 47) hx hb dX0_count_1 (by rw [c1]; decide) (by rw [c1]; decide) (off := 46) (by rw [c1]; rfl) (by decide) ?_
    refine lv_aload_n hx hb dX0_count_47 rfl (lv_at hl 0 rfl) ?_
    refine va_get (D := D) (ci := 0) (v := .int ki) (C := RX0) (T := TX0) (N := 6) hx hb hts hin hown hK hP 0 rfl rfl 4 (by decide) lk23 (fun _ h9 => h9) rfl dX0_count_48 ?_
    have hres : ki = dk_count (rg, tt, tk, en, ki, os) x1 := by
      first | (rw [c1]; rfl) | (simp only [c1, dk_count]; done) | (simp [c1, dk_count]; done)
    exact W.iret (v := ki) hx hb hr (fun t ht hW => ⟨congrArg (fun z => Outcome.returned (some (Value.int z))) hres, ht⟩) (fun q h => absurd h List.not_mem_nil) dX0_count_51
  · refine lv_tableIn (tgt := 52) hx hb dX0_count_1 (by rw [c1]; decide) (by rw [c1]; decide) (off := 51) (by rw [c1]; rfl) (by decide) ?_
    refine lv_aload_n hx hb dX0_count_52 rfl (lv_at hl 0 rfl) ?_
    refine va_get (D := D) (ci := 0) (v := .int tt) (C := RX0) (T := TX0) (N := 6) hx hb hts hin hown hK hP 0 rfl rfl 1 (by decide) lk13 (fun _ h9 => h9) rfl dX0_count_53 ?_
    refine lv_aload_n hx hb dX0_count_56 rfl (lv_at hl 0 rfl) ?_
    refine kk_readV (ci := 0) (q0 := 0) (rest := [.int tt]) ⟨hx, hb, hml, hown, hts⟩ (cD_endOfEndedLines l D cA q0 q1 rg tt tk en ki os) (cwV 0 hts gX0_count_X0_endOfEndedLines rfl rfl rfl (by decide +kernel) ⟨Nat.le_of_ble_eq_true rfl, Nat.le_of_ble_eq_true rfl⟩) hK hP hD rfl rfl rfl hl.1 rfl (Nat.le_of_ble_eq_true rfl) dX0_count_57 ⟨Nat.zero_le _, Nat.zero_le _⟩ ?_
    refine lv_topi (fun t3 et3 => ?_)
    refine lv_isub hx hb dX0_count_60 ?_
    refine lv_topi (fun t4 et4 => ?_)
    have hres : t4 = dk_count (rg, tt, tk, en, ki, os) x1 := by
      subst et4 et3
      first | (rw [c1]; rfl) | (simp only [c1, dk_count]; done) | (simp [c1, dk_count]; done)
    exact W.iret (v := t4) hx hb hr (fun t ht hW => ⟨congrArg (fun z => Outcome.returned (some (Value.int z))) hres, ht⟩) (fun q h => absurd h List.not_mem_nil) dX0_count_61
end
section
set_option maxHeartbeats 4000000 in
set_option maxRecDepth 100000 in
theorem cD_put (l : Launch) (D : va_G) (cA : ClassId) (q0 q1 : Nat) (rg : Nat → Int32) (tt tk en ki os : Int32) (x1 : Int32) : dkV l yX0_put wsX0_put ({ frames := 0, cells := 0, slots := 0, locals := 0 }) D cA q0 q1 (rg, tt, tk, en, ki, os) [.int x1] (dk_put (rg, tt, tk, en, ki, os) x1) := by
  refine kk_of (cc := cX0_put) (maxL := 3) (ret := none) (by decide) rfl (Nat.le_of_ble_eq_true rfl) ?_
  intro p e s m below meth c ls hx hb hr hts hown hlocks hml hnm hP hK hD hl
  have hown : s.vm.findClass RX0 = some m.cls := hown
  have hl : lv_has ls 3 [(0, .ref q0), (1, .int x1)] := hl
  have hin : ∀ w ∈ wsX00, w ∈ wsX0_put := by decide +kernel
  have lk13 := hts (.fieldLink RX0 13 "EventLineDesk" "total" "I") (by decide +kernel)
  have lk9 := hts (.fieldLink RX0 9 "EventLineDesk" "ring" "[B") (by decide +kernel)
  generalize hAe : kk_A (dkW cA q0 q1 (rg, tt, tk, en, ki, os)) = A at hD ⊢
  have hS : va_S A s.heap s.heap [] := va_S.rf
  refine lv_aload_n hx hb dX0_put_0 rfl (lv_at hl 0 rfl) ?_
  refine va_get (D := D) (ci := 0) (v := .int tt) (C := RX0) (T := TX0) (N := 6) hx hb hts hin hown hK hP 0 rfl rfl 1 (by decide) lk13 (fun _ h9 => h9) rfl dX0_put_1 ?_
  refine lv_sipush (v := 4095) hx hb dX0_put_4 (by decide) ?_
  refine lv_iand hx hb dX0_put_7 ?_
  refine lv_topi (fun t1 et1 => ?_)
  refine lv_istore_n (lv' := [(2, .int t1), (0, .ref q0), (1, .int x1)]) hx hb dX0_put_8 rfl hl (by decide) rfl (fun ls hl => ?_)
  refine lv_iload_n hx hb dX0_put_9 rfl (lv_at hl 0 rfl) ?_
  refine lv_aload_n hx hb dX0_put_10 rfl (lv_at hl 1 rfl) ?_
  refine va_get (D := D) (ci := 0) (v := .ref q1) (C := RX0) (T := TX0) (N := 6) hx hb hts hin hown hK hP 0 rfl rfl 0 (by decide) lk9 (fun _ h9 => h9) rfl dX0_put_11 ?_
  refine va_alen (v := 4096) hx hb hK hP 1 0 rfl rfl (show Int32.ofNat 4096 = 4096 from by decide) dX0_put_14 ?_
  refine lv_icmp_ge (tgt := 26) hx hb dX0_put_15 (by decide) (fun c2 => ?_) (fun c2 => ?_)
  · exact absurd c2 (by rw [et1]; exact dk_mlt _)
  · refine lv_aload_n hx hb dX0_put_18 rfl (lv_at hl 1 rfl) ?_
    refine va_get (D := D) (ci := 0) (v := .ref q1) (C := RX0) (T := TX0) (N := 6) hx hb hts hin hown hK hP 0 rfl rfl 0 (by decide) lk9 (fun _ h9 => h9) rfl dX0_put_19 ?_
    refine lv_iload_n hx hb dX0_put_22 rfl (lv_at hl 0 rfl) ?_
    refine lv_iload_n hx hb dX0_put_23 rfl (lv_at hl 2 rfl) ?_
    refine lv_i2b hx hb dX0_put_24 rfl ?_
    refine lv_topi (fun t3 et3 => ?_)
    refine va_bast hx hb hK hP hD hS 1 0 rfl rfl (by rw [et1]; exact dk_mask _) dX0_put_25 (fun H locs hP hD hS => ?_)
    obtain ⟨g4, eg4⟩ : ∃ y : Nat → Int32, y = upd rg t1.toNatClampNeg (vp_nar .byte t3) := ⟨_, rfl⟩
    have hP : va_P D vwCl (dkW cA q0 q1 (g4, tt, tk, en, ki, os)) H := by rw [eg4]; exact hP
    have hD : va_D A (dkW cA q0 q1 (g4, tt, tk, en, ki, os)) := kk_D_same hD rfl
    refine lv_aload_n hx hb dX0_put_26 rfl (lv_at hl 1 rfl) ?_
    refine lv_dup hx hb dX0_put_27 rfl ?_
    refine va_get (D := D) (ci := 0) (v := .int tt) (C := RX0) (T := TX0) (N := 6) hx hb hts hin hown hK hP 0 rfl rfl 1 (by decide) lk13 (fun _ h9 => h9) rfl dX0_put_28 ?_
    refine lv_iconst (v := 1) hx hb dX0_put_31 (by decide) ?_
    refine lv_iadd hx hb dX0_put_32 ?_
    refine lv_topi (fun t5 et5 => ?_)
    refine va_put (D := D) (ci := 0) (v := .int t5) (ty := .int) (C := RX0) (T := TX0) (N := 6) hx hb hts hin tyX0 tyX0_ok nmX0 hown hK hP hD hS 0 rfl rfl 1 (by decide) lk13 (fun _ h9 => h9) rfl (by decide +kernel) rfl rfl (Nat.le_of_ble_eq_true rfl) dX0_put_33 (fun H locs hP hD hS => ?_)
    have hP : va_P D vwCl (dkW cA q0 q1 (g4, t5, tk, en, ki, os)) H := hP
    have hD : va_D A (dkW cA q0 q1 (g4, t5, tk, en, ki, os)) := hD
    have hres : (g4, t5, tk, en, ki, os) = dk_put (rg, tt, tk, en, ki, os) x1 := by
      subst et5 eg4 et3 et1
      first | rfl | (simp only [dk_put, pk_vb, if_neg c2]; done) | (simp [dk_put, pk_vb, if_neg c2]; done)
    exact W.vret hx hb hr (fun t ht hW => ⟨⟨(g4, t5, tk, en, ki, os), rfl, hres, by show va_P D vwCl _ t.heap; rw [ht]; exact hP⟩, hS.F ht⟩) hS.2.2 dX0_put_36
set_option maxHeartbeats 4000000 in
set_option maxRecDepth 100000 in
theorem cD_putTail (l : Launch) (D : va_G) (cA : ClassId) (q0 q1 : Nat) (rg : Nat → Int32) (tt tk en ki os : Int32) (x1 : Int32) : dkV l yX0_putTail wsX0_putTail ({ frames := 1, cells := 0, slots := 0, locals := 22 }) D cA q0 q1 (rg, tt, tk, en, ki, os) [.int x1] (dk_tail (rg, tt, tk, en, ki, os) x1) := by
  refine kk_of (cc := cX0_putTail) (maxL := 2) (ret := none) (by decide) rfl (Nat.le_of_ble_eq_true rfl) ?_
  intro p e s m below meth c ls hx hb hr hts hown hlocks hml hnm hP hK hD hl
  have hown : s.vm.findClass RX0 = some m.cls := hown
  have hl : lv_has ls 2 [(0, .ref q0), (1, .int x1)] := hl
  have hin : ∀ w ∈ wsX00, w ∈ wsX0_putTail := by decide +kernel
  generalize hAe : kk_A (dkW cA q0 q1 (rg, tt, tk, en, ki, os)) = A at hD ⊢
  have hS : va_S A s.heap s.heap [] := va_S.rf
  refine lv_aload_n hx hb dX0_putTail_0 rfl (lv_at hl 0 rfl) ?_
  refine lv_sipush (v := 128) hx hb dX0_putTail_1 (by decide) ?_
  refine lv_iload_n hx hb dX0_putTail_4 rfl (lv_at hl 1 rfl) ?_
  refine lv_bipush (v := 63) hx hb dX0_putTail_5 (by decide) ?_
  refine lv_iand hx hb dX0_putTail_7 ?_
  refine lv_topi (fun t1 et1 => ?_)
  refine lv_ior hx hb dX0_putTail_8 ?_
  refine lv_topi (fun t2 et2 => ?_)
  refine kk_mutV (cs := dkW cA q0 q1) (ci := 0) (q0 := 0) (rest := []) ⟨hx, hb, hml, hown, hts⟩ (cD_put l D cA q0 q1 rg tt tk en ki os t2) (cwV 1 hts gX0_putTail_X0_put rfl rfl rfl (by decide +kernel) ⟨Nat.le_of_ble_eq_true rfl, Nat.le_of_ble_eq_true rfl⟩) hK hP hD hS rfl rfl rfl hl.1 rfl (Nat.le_of_ble_eq_true rfl) dX0_putTail_9 ⟨Nat.zero_le _, Nat.zero_le _⟩ (fun u3 H locs hu3 hP hS hzu3 hku3 => ?_)
  obtain ⟨rg3, tt3, tk3, en3, ki3, os3⟩ := u3
  have eu3 : (rg3, tt3, tk3, en3, ki3, os3) = dk_put (rg, tt, tk, en, ki, os) t2 := hu3
  have hD : va_D A (dkW cA q0 q1 (rg3, tt3, tk3, en3, ki3, os3)) := kk_D_same hD rfl
  have hres : (rg3, tt3, tk3, en3, ki3, os3) = dk_tail (rg, tt, tk, en, ki, os) x1 := by
    subst et2 et1
    first | rfl | (simp only [dk_tail, ← eu3]; done) | (simp [dk_tail, ← eu3]; done)
  exact W.vret hx hb hr (fun t ht hW => ⟨⟨(rg3, tt3, tk3, en3, ki3, os3), rfl, hres, by show va_P D vwCl _ t.heap; rw [ht]; exact hP⟩, hS.F ht⟩) hS.2.2 dX0_putTail_12
set_option maxHeartbeats 4000000 in
set_option maxRecDepth 100000 in
theorem cD_putUtf8 (l : Launch) (D : va_G) (cA : ClassId) (q0 q1 : Nat) (rg : Nat → Int32) (tt tk en ki os : Int32) (x1 : Int32) : dkV l yX0_putUtf8 wsX0_putUtf8 ({ frames := 2, cells := 0, slots := 0, locals := 43 }) D cA q0 q1 (rg, tt, tk, en, ki, os) [.int x1] (dk_utf (rg, tt, tk, en, ki, os) x1) := by
  refine kk_of (cc := cX0_putUtf8) (maxL := 2) (ret := none) (by decide) rfl (Nat.le_of_ble_eq_true rfl) ?_
  intro p e s m below meth c ls hx hb hr hts hown hlocks hml hnm hP hK hD hl
  have hown : s.vm.findClass RX0 = some m.cls := hown
  have hl : lv_has ls 2 [(0, .ref q0), (1, .int x1)] := hl
  have hin : ∀ w ∈ wsX00, w ∈ wsX0_putUtf8 := by decide +kernel
  generalize hAe : kk_A (dkW cA q0 q1 (rg, tt, tk, en, ki, os)) = A at hD ⊢
  have hS : va_S A s.heap s.heap [] := va_S.rf
  refine lv_iload_n hx hb dX0_putUtf8_0 rfl (lv_at hl 1 rfl) ?_
  refine lv_sipush (v := 128) hx hb dX0_putUtf8_1 (by decide) ?_
  refine lv_icmp_ge (tgt := 15) hx hb dX0_putUtf8_4 (by decide) (fun c1 => ?_) (fun c1 => ?_)
  · refine lv_iload_n hx hb dX0_putUtf8_15 rfl (lv_at hl 1 rfl) ?_
    refine lv_sipush (v := 2048) hx hb dX0_putUtf8_16 (by decide) ?_
    refine lv_icmp_ge (tgt := 42) hx hb dX0_putUtf8_19 (by decide) (fun c2 => ?_) (fun c2 => ?_)
    · refine lv_iload_n hx hb dX0_putUtf8_42 rfl (lv_at hl 1 rfl) ?_
      refine lv_ldc (v := 65536) hx hb hown (hts (.constant RX0 84 (65536)) (by decide +kernel)) dX0_putUtf8_43 ?_
      refine lv_icmp_ge (tgt := 76) hx hb dX0_putUtf8_45 (by decide) (fun c3 => ?_) (fun c3 => ?_)
      · refine lv_aload_n hx hb dX0_putUtf8_76 rfl (lv_at hl 0 rfl) ?_
        refine lv_sipush (v := 240) hx hb dX0_putUtf8_77 (by decide) ?_
        refine lv_iload_n hx hb dX0_putUtf8_80 rfl (lv_at hl 1 rfl) ?_
        refine lv_bipush (v := 18) hx hb dX0_putUtf8_81 (by decide) ?_
        refine lv_ishr hx hb dX0_putUtf8_83 ?_
        refine lv_topi (fun t4 et4 => ?_)
        refine lv_ior hx hb dX0_putUtf8_84 ?_
        refine lv_topi (fun t5 et5 => ?_)
        refine kk_mutV (cs := dkW cA q0 q1) (ci := 0) (q0 := 0) (rest := []) ⟨hx, hb, hml, hown, hts⟩ (cD_put l D cA q0 q1 rg tt tk en ki os t5) (cwV 1 hts gX0_putUtf8_X0_put rfl rfl rfl (by decide +kernel) ⟨Nat.le_of_ble_eq_true rfl, Nat.le_of_ble_eq_true rfl⟩) hK hP hD hS rfl rfl rfl hl.1 rfl (Nat.le_of_ble_eq_true rfl) dX0_putUtf8_85 ⟨Nat.zero_le _, Nat.zero_le _⟩ (fun u6 H locs hu6 hP hS hzu6 hku6 => ?_)
        obtain ⟨rg6, tt6, tk6, en6, ki6, os6⟩ := u6
        have eu6 : (rg6, tt6, tk6, en6, ki6, os6) = dk_put (rg, tt, tk, en, ki, os) t5 := hu6
        have hD : va_D A (dkW cA q0 q1 (rg6, tt6, tk6, en6, ki6, os6)) := kk_D_same hD rfl
        refine lv_aload_n hx hb dX0_putUtf8_88 rfl (lv_at hl 0 rfl) ?_
        refine lv_iload_n hx hb dX0_putUtf8_89 rfl (lv_at hl 1 rfl) ?_
        refine lv_bipush (v := 12) hx hb dX0_putUtf8_90 (by decide) ?_
        refine lv_ishr hx hb dX0_putUtf8_92 ?_
        refine lv_topi (fun t7 et7 => ?_)
        refine kk_mutV (cs := dkW cA q0 q1) (ci := 0) (q0 := 0) (rest := []) ⟨hx, hb, hml, hown, hts⟩ (cD_putTail l D cA q0 q1 rg6 tt6 tk6 en6 ki6 os6 t7) (cwV 1 hts gX0_putUtf8_X0_putTail rfl rfl rfl (by decide +kernel) ⟨Nat.le_of_ble_eq_true rfl, Nat.le_of_ble_eq_true rfl⟩) hK hP hD hS rfl rfl rfl hl.1 rfl (Nat.le_of_ble_eq_true rfl) dX0_putUtf8_93 ⟨Nat.zero_le _, Nat.zero_le _⟩ (fun u8 H locs hu8 hP hS hzu8 hku8 => ?_)
        obtain ⟨rg8, tt8, tk8, en8, ki8, os8⟩ := u8
        have eu8 : (rg8, tt8, tk8, en8, ki8, os8) = dk_tail (rg6, tt6, tk6, en6, ki6, os6) t7 := hu8
        have hD : va_D A (dkW cA q0 q1 (rg8, tt8, tk8, en8, ki8, os8)) := kk_D_same hD rfl
        refine lv_aload_n hx hb dX0_putUtf8_96 rfl (lv_at hl 0 rfl) ?_
        refine lv_iload_n hx hb dX0_putUtf8_97 rfl (lv_at hl 1 rfl) ?_
        refine lv_bipush (v := 6) hx hb dX0_putUtf8_98 (by decide) ?_
        refine lv_ishr hx hb dX0_putUtf8_100 ?_
        refine lv_topi (fun t9 et9 => ?_)
        refine kk_mutV (cs := dkW cA q0 q1) (ci := 0) (q0 := 0) (rest := []) ⟨hx, hb, hml, hown, hts⟩ (cD_putTail l D cA q0 q1 rg8 tt8 tk8 en8 ki8 os8 t9) (cwV 1 hts gX0_putUtf8_X0_putTail rfl rfl rfl (by decide +kernel) ⟨Nat.le_of_ble_eq_true rfl, Nat.le_of_ble_eq_true rfl⟩) hK hP hD hS rfl rfl rfl hl.1 rfl (Nat.le_of_ble_eq_true rfl) dX0_putUtf8_101 ⟨Nat.zero_le _, Nat.zero_le _⟩ (fun u10 H locs hu10 hP hS hzu10 hku10 => ?_)
        obtain ⟨rg10, tt10, tk10, en10, ki10, os10⟩ := u10
        have eu10 : (rg10, tt10, tk10, en10, ki10, os10) = dk_tail (rg8, tt8, tk8, en8, ki8, os8) t9 := hu10
        have hD : va_D A (dkW cA q0 q1 (rg10, tt10, tk10, en10, ki10, os10)) := kk_D_same hD rfl
        refine lv_aload_n hx hb dX0_putUtf8_104 rfl (lv_at hl 0 rfl) ?_
        refine lv_iload_n hx hb dX0_putUtf8_105 rfl (lv_at hl 1 rfl) ?_
        refine kk_mutV (cs := dkW cA q0 q1) (ci := 0) (q0 := 0) (rest := []) ⟨hx, hb, hml, hown, hts⟩ (cD_putTail l D cA q0 q1 rg10 tt10 tk10 en10 ki10 os10 x1) (cwV 1 hts gX0_putUtf8_X0_putTail rfl rfl rfl (by decide +kernel) ⟨Nat.le_of_ble_eq_true rfl, Nat.le_of_ble_eq_true rfl⟩) hK hP hD hS rfl rfl rfl hl.1 rfl (Nat.le_of_ble_eq_true rfl) dX0_putUtf8_106 ⟨Nat.zero_le _, Nat.zero_le _⟩ (fun u11 H locs hu11 hP hS hzu11 hku11 => ?_)
        obtain ⟨rg11, tt11, tk11, en11, ki11, os11⟩ := u11
        have eu11 : (rg11, tt11, tk11, en11, ki11, os11) = dk_tail (rg10, tt10, tk10, en10, ki10, os10) x1 := hu11
        have hD : va_D A (dkW cA q0 q1 (rg11, tt11, tk11, en11, ki11, os11)) := kk_D_same hD rfl
        have hres : (rg11, tt11, tk11, en11, ki11, os11) = dk_utf (rg, tt, tk, en, ki, os) x1 := by
          subst et9 et7 et5 et4
          first | rfl | (simp only [dk_utf, ← eu6, ← eu8, ← eu10, ← eu11, if_pos c1, if_pos c2, if_pos c3]; done) | (simp [dk_utf, ← eu6, ← eu8, ← eu10, ← eu11, if_pos c1, if_pos c2, if_pos c3]; done)
        exact W.vret hx hb hr (fun t ht hW => ⟨⟨(rg11, tt11, tk11, en11, ki11, os11), rfl, hres, by show va_P D vwCl _ t.heap; rw [ht]; exact hP⟩, hS.F ht⟩) hS.2.2 dX0_putUtf8_109
      · refine lv_aload_n hx hb dX0_putUtf8_48 rfl (lv_at hl 0 rfl) ?_
        refine lv_sipush (v := 224) hx hb dX0_putUtf8_49 (by decide) ?_
        refine lv_iload_n hx hb dX0_putUtf8_52 rfl (lv_at hl 1 rfl) ?_
        refine lv_bipush (v := 12) hx hb dX0_putUtf8_53 (by decide) ?_
        refine lv_ishr hx hb dX0_putUtf8_55 ?_
        refine lv_topi (fun t12 et12 => ?_)
        refine lv_ior hx hb dX0_putUtf8_56 ?_
        refine lv_topi (fun t13 et13 => ?_)
        refine kk_mutV (cs := dkW cA q0 q1) (ci := 0) (q0 := 0) (rest := []) ⟨hx, hb, hml, hown, hts⟩ (cD_put l D cA q0 q1 rg tt tk en ki os t13) (cwV 1 hts gX0_putUtf8_X0_put rfl rfl rfl (by decide +kernel) ⟨Nat.le_of_ble_eq_true rfl, Nat.le_of_ble_eq_true rfl⟩) hK hP hD hS rfl rfl rfl hl.1 rfl (Nat.le_of_ble_eq_true rfl) dX0_putUtf8_57 ⟨Nat.zero_le _, Nat.zero_le _⟩ (fun u14 H locs hu14 hP hS hzu14 hku14 => ?_)
        obtain ⟨rg14, tt14, tk14, en14, ki14, os14⟩ := u14
        have eu14 : (rg14, tt14, tk14, en14, ki14, os14) = dk_put (rg, tt, tk, en, ki, os) t13 := hu14
        have hD : va_D A (dkW cA q0 q1 (rg14, tt14, tk14, en14, ki14, os14)) := kk_D_same hD rfl
        refine lv_aload_n hx hb dX0_putUtf8_60 rfl (lv_at hl 0 rfl) ?_
        refine lv_iload_n hx hb dX0_putUtf8_61 rfl (lv_at hl 1 rfl) ?_
        refine lv_bipush (v := 6) hx hb dX0_putUtf8_62 (by decide) ?_
        refine lv_ishr hx hb dX0_putUtf8_64 ?_
        refine lv_topi (fun t15 et15 => ?_)
        refine kk_mutV (cs := dkW cA q0 q1) (ci := 0) (q0 := 0) (rest := []) ⟨hx, hb, hml, hown, hts⟩ (cD_putTail l D cA q0 q1 rg14 tt14 tk14 en14 ki14 os14 t15) (cwV 1 hts gX0_putUtf8_X0_putTail rfl rfl rfl (by decide +kernel) ⟨Nat.le_of_ble_eq_true rfl, Nat.le_of_ble_eq_true rfl⟩) hK hP hD hS rfl rfl rfl hl.1 rfl (Nat.le_of_ble_eq_true rfl) dX0_putUtf8_65 ⟨Nat.zero_le _, Nat.zero_le _⟩ (fun u16 H locs hu16 hP hS hzu16 hku16 => ?_)
        obtain ⟨rg16, tt16, tk16, en16, ki16, os16⟩ := u16
        have eu16 : (rg16, tt16, tk16, en16, ki16, os16) = dk_tail (rg14, tt14, tk14, en14, ki14, os14) t15 := hu16
        have hD : va_D A (dkW cA q0 q1 (rg16, tt16, tk16, en16, ki16, os16)) := kk_D_same hD rfl
        refine lv_aload_n hx hb dX0_putUtf8_68 rfl (lv_at hl 0 rfl) ?_
        refine lv_iload_n hx hb dX0_putUtf8_69 rfl (lv_at hl 1 rfl) ?_
        refine kk_mutV (cs := dkW cA q0 q1) (ci := 0) (q0 := 0) (rest := []) ⟨hx, hb, hml, hown, hts⟩ (cD_putTail l D cA q0 q1 rg16 tt16 tk16 en16 ki16 os16 x1) (cwV 1 hts gX0_putUtf8_X0_putTail rfl rfl rfl (by decide +kernel) ⟨Nat.le_of_ble_eq_true rfl, Nat.le_of_ble_eq_true rfl⟩) hK hP hD hS rfl rfl rfl hl.1 rfl (Nat.le_of_ble_eq_true rfl) dX0_putUtf8_70 ⟨Nat.zero_le _, Nat.zero_le _⟩ (fun u17 H locs hu17 hP hS hzu17 hku17 => ?_)
        obtain ⟨rg17, tt17, tk17, en17, ki17, os17⟩ := u17
        have eu17 : (rg17, tt17, tk17, en17, ki17, os17) = dk_tail (rg16, tt16, tk16, en16, ki16, os16) x1 := hu17
        have hD : va_D A (dkW cA q0 q1 (rg17, tt17, tk17, en17, ki17, os17)) := kk_D_same hD rfl
        refine lv_goto (tgt := 109) hx hb dX0_putUtf8_73 (by decide) ?_
        have hres : (rg17, tt17, tk17, en17, ki17, os17) = dk_utf (rg, tt, tk, en, ki, os) x1 := by
          subst et15 et13 et12
          first | rfl | (simp only [dk_utf, ← eu14, ← eu16, ← eu17, if_pos c1, if_pos c2, if_neg c3]; done) | (simp [dk_utf, ← eu14, ← eu16, ← eu17, if_pos c1, if_pos c2, if_neg c3]; done)
        exact W.vret hx hb hr (fun t ht hW => ⟨⟨(rg17, tt17, tk17, en17, ki17, os17), rfl, hres, by show va_P D vwCl _ t.heap; rw [ht]; exact hP⟩, hS.F ht⟩) hS.2.2 dX0_putUtf8_109
    · refine lv_aload_n hx hb dX0_putUtf8_22 rfl (lv_at hl 0 rfl) ?_
      refine lv_sipush (v := 192) hx hb dX0_putUtf8_23 (by decide) ?_
      refine lv_iload_n hx hb dX0_putUtf8_26 rfl (lv_at hl 1 rfl) ?_
      refine lv_bipush (v := 6) hx hb dX0_putUtf8_27 (by decide) ?_
      refine lv_ishr hx hb dX0_putUtf8_29 ?_
      refine lv_topi (fun t18 et18 => ?_)
      refine lv_ior hx hb dX0_putUtf8_30 ?_
      refine lv_topi (fun t19 et19 => ?_)
      refine kk_mutV (cs := dkW cA q0 q1) (ci := 0) (q0 := 0) (rest := []) ⟨hx, hb, hml, hown, hts⟩ (cD_put l D cA q0 q1 rg tt tk en ki os t19) (cwV 1 hts gX0_putUtf8_X0_put rfl rfl rfl (by decide +kernel) ⟨Nat.le_of_ble_eq_true rfl, Nat.le_of_ble_eq_true rfl⟩) hK hP hD hS rfl rfl rfl hl.1 rfl (Nat.le_of_ble_eq_true rfl) dX0_putUtf8_31 ⟨Nat.zero_le _, Nat.zero_le _⟩ (fun u20 H locs hu20 hP hS hzu20 hku20 => ?_)
      obtain ⟨rg20, tt20, tk20, en20, ki20, os20⟩ := u20
      have eu20 : (rg20, tt20, tk20, en20, ki20, os20) = dk_put (rg, tt, tk, en, ki, os) t19 := hu20
      have hD : va_D A (dkW cA q0 q1 (rg20, tt20, tk20, en20, ki20, os20)) := kk_D_same hD rfl
      refine lv_aload_n hx hb dX0_putUtf8_34 rfl (lv_at hl 0 rfl) ?_
      refine lv_iload_n hx hb dX0_putUtf8_35 rfl (lv_at hl 1 rfl) ?_
      refine kk_mutV (cs := dkW cA q0 q1) (ci := 0) (q0 := 0) (rest := []) ⟨hx, hb, hml, hown, hts⟩ (cD_putTail l D cA q0 q1 rg20 tt20 tk20 en20 ki20 os20 x1) (cwV 1 hts gX0_putUtf8_X0_putTail rfl rfl rfl (by decide +kernel) ⟨Nat.le_of_ble_eq_true rfl, Nat.le_of_ble_eq_true rfl⟩) hK hP hD hS rfl rfl rfl hl.1 rfl (Nat.le_of_ble_eq_true rfl) dX0_putUtf8_36 ⟨Nat.zero_le _, Nat.zero_le _⟩ (fun u21 H locs hu21 hP hS hzu21 hku21 => ?_)
      obtain ⟨rg21, tt21, tk21, en21, ki21, os21⟩ := u21
      have eu21 : (rg21, tt21, tk21, en21, ki21, os21) = dk_tail (rg20, tt20, tk20, en20, ki20, os20) x1 := hu21
      have hD : va_D A (dkW cA q0 q1 (rg21, tt21, tk21, en21, ki21, os21)) := kk_D_same hD rfl
      refine lv_goto (tgt := 109) hx hb dX0_putUtf8_39 (by decide) ?_
      have hres : (rg21, tt21, tk21, en21, ki21, os21) = dk_utf (rg, tt, tk, en, ki, os) x1 := by
        subst et19 et18
        first | rfl | (simp only [dk_utf, ← eu20, ← eu21, if_pos c1, if_neg c2]; done) | (simp [dk_utf, ← eu20, ← eu21, if_pos c1, if_neg c2]; done)
      exact W.vret hx hb hr (fun t ht hW => ⟨⟨(rg21, tt21, tk21, en21, ki21, os21), rfl, hres, by show va_P D vwCl _ t.heap; rw [ht]; exact hP⟩, hS.F ht⟩) hS.2.2 dX0_putUtf8_109
  · refine lv_aload_n hx hb dX0_putUtf8_7 rfl (lv_at hl 0 rfl) ?_
    refine lv_iload_n hx hb dX0_putUtf8_8 rfl (lv_at hl 1 rfl) ?_
    refine kk_mutV (cs := dkW cA q0 q1) (ci := 0) (q0 := 0) (rest := []) ⟨hx, hb, hml, hown, hts⟩ (cD_put l D cA q0 q1 rg tt tk en ki os x1) (cwV 1 hts gX0_putUtf8_X0_put rfl rfl rfl (by decide +kernel) ⟨Nat.le_of_ble_eq_true rfl, Nat.le_of_ble_eq_true rfl⟩) hK hP hD hS rfl rfl rfl hl.1 rfl (Nat.le_of_ble_eq_true rfl) dX0_putUtf8_9 ⟨Nat.zero_le _, Nat.zero_le _⟩ (fun u22 H locs hu22 hP hS hzu22 hku22 => ?_)
    obtain ⟨rg22, tt22, tk22, en22, ki22, os22⟩ := u22
    have eu22 : (rg22, tt22, tk22, en22, ki22, os22) = dk_put (rg, tt, tk, en, ki, os) x1 := hu22
    have hD : va_D A (dkW cA q0 q1 (rg22, tt22, tk22, en22, ki22, os22)) := kk_D_same hD rfl
    refine lv_goto (tgt := 109) hx hb dX0_putUtf8_12 (by decide) ?_
    have hres : (rg22, tt22, tk22, en22, ki22, os22) = dk_utf (rg, tt, tk, en, ki, os) x1 := by
      first | rfl | (simp only [dk_utf, ← eu22, if_neg c1]; done) | (simp [dk_utf, ← eu22, if_neg c1]; done)
    exact W.vret hx hb hr (fun t ht hW => ⟨⟨(rg22, tt22, tk22, en22, ki22, os22), rfl, hres, by show va_P D vwCl _ t.heap; rw [ht]; exact hP⟩, hS.F ht⟩) hS.2.2 dX0_putUtf8_109
set_option maxHeartbeats 4000000 in
set_option maxRecDepth 100000 in
theorem cD_putCharacter (l : Launch) (D : va_G) (cA : ClassId) (q0 q1 : Nat) (rg : Nat → Int32) (tt tk en ki os : Int32) (x1 : Int32) : dkV l yX0_putCharacter wsX0_putCharacter ({ frames := 3, cells := 0, slots := 0, locals := 64 }) D cA q0 q1 (rg, tt, tk, en, ki, os) [.int x1] (dk_putC (rg, tt, tk, en, ki, os) x1) := by
  refine kk_of (cc := cX0_putCharacter) (maxL := 3) (ret := none) (by decide) rfl (Nat.le_of_ble_eq_true rfl) ?_
  intro p e s m below meth c ls hx hb hr hts hown hlocks hml hnm hP hK hD hl
  have hown : s.vm.findClass RX0 = some m.cls := hown
  have hl : lv_has ls 3 [(0, .ref q0), (1, .int x1)] := hl
  have hin : ∀ w ∈ wsX00, w ∈ wsX0_putCharacter := by decide +kernel
  generalize hAe : kk_A (dkW cA q0 q1 (rg, tt, tk, en, ki, os)) = A at hD ⊢
  have hS : va_S A s.heap s.heap [] := va_S.rf
  refine lv_iload_n hx hb dX0_putCharacter_0 rfl (lv_at hl 1 rfl) ?_
  refine kk_readS (rest := []) ⟨hx, hb, hml, hown, hts⟩ (cD_escapedFormOf l x1) (cwS 1 hts gX0_putCharacter_X0_escapedFormOf rfl rfl rfl (by decide +kernel) ⟨Nat.le_of_ble_eq_true rfl, Nat.le_of_ble_eq_true rfl⟩) rfl hl.1 rfl (Nat.le_of_ble_eq_true rfl) dX0_putCharacter_1 ⟨Nat.zero_le _, Nat.zero_le _⟩ ?_
  refine lv_topi (fun t1 et1 => ?_)
  refine lv_istore_n (lv' := [(2, .int t1), (0, .ref q0), (1, .int x1)]) hx hb dX0_putCharacter_4 rfl hl (by decide) rfl (fun ls hl => ?_)
  refine lv_iload_n hx hb dX0_putCharacter_5 rfl (lv_at hl 0 rfl) ?_
  refine lv_if_eq (tgt := 23) hx hb dX0_putCharacter_6 (by decide) (fun c2 => ?_) (fun c2 => ?_)
  · refine lv_aload_n hx hb dX0_putCharacter_23 rfl (lv_at hl 1 rfl) ?_
    refine lv_iload_n hx hb dX0_putCharacter_24 rfl (lv_at hl 2 rfl) ?_
    refine kk_mutV (cs := dkW cA q0 q1) (ci := 0) (q0 := 0) (rest := []) ⟨hx, hb, hml, hown, hts⟩ (cD_putUtf8 l D cA q0 q1 rg tt tk en ki os x1) (cwV 1 hts gX0_putCharacter_X0_putUtf8 rfl rfl rfl (by decide +kernel) ⟨Nat.le_of_ble_eq_true rfl, Nat.le_of_ble_eq_true rfl⟩) hK hP hD hS rfl rfl rfl hl.1 rfl (Nat.le_of_ble_eq_true rfl) dX0_putCharacter_25 ⟨Nat.zero_le _, Nat.zero_le _⟩ (fun u3 H locs hu3 hP hS hzu3 hku3 => ?_)
    obtain ⟨rg3, tt3, tk3, en3, ki3, os3⟩ := u3
    have eu3 : (rg3, tt3, tk3, en3, ki3, os3) = dk_utf (rg, tt, tk, en, ki, os) x1 := hu3
    have hD : va_D A (dkW cA q0 q1 (rg3, tt3, tk3, en3, ki3, os3)) := kk_D_same hD rfl
    have hres : (rg3, tt3, tk3, en3, ki3, os3) = dk_putC (rg, tt, tk, en, ki, os) x1 := by
      subst et1
      first | rfl | (simp only [dk_putC, ← eu3, if_pos c2]; done) | (simp [dk_putC, ← eu3, if_pos c2]; done)
    exact W.vret hx hb hr (fun t ht hW => ⟨⟨(rg3, tt3, tk3, en3, ki3, os3), rfl, hres, by show va_P D vwCl _ t.heap; rw [ht]; exact hP⟩, hS.F ht⟩) hS.2.2 dX0_putCharacter_28
  · refine lv_aload_n hx hb dX0_putCharacter_9 rfl (lv_at hl 1 rfl) ?_
    refine lv_bipush (v := 92) hx hb dX0_putCharacter_10 (by decide) ?_
    refine kk_mutV (cs := dkW cA q0 q1) (ci := 0) (q0 := 0) (rest := []) ⟨hx, hb, hml, hown, hts⟩ (cD_put l D cA q0 q1 rg tt tk en ki os 92) (cwV 1 hts gX0_putCharacter_X0_put rfl rfl rfl (by decide +kernel) ⟨Nat.le_of_ble_eq_true rfl, Nat.le_of_ble_eq_true rfl⟩) hK hP hD hS rfl rfl rfl hl.1 rfl (Nat.le_of_ble_eq_true rfl) dX0_putCharacter_12 ⟨Nat.zero_le _, Nat.zero_le _⟩ (fun u4 H locs hu4 hP hS hzu4 hku4 => ?_)
    obtain ⟨rg4, tt4, tk4, en4, ki4, os4⟩ := u4
    have eu4 : (rg4, tt4, tk4, en4, ki4, os4) = dk_put (rg, tt, tk, en, ki, os) 92 := hu4
    have hD : va_D A (dkW cA q0 q1 (rg4, tt4, tk4, en4, ki4, os4)) := kk_D_same hD rfl
    refine lv_aload_n hx hb dX0_putCharacter_15 rfl (lv_at hl 1 rfl) ?_
    refine lv_iload_n hx hb dX0_putCharacter_16 rfl (lv_at hl 0 rfl) ?_
    refine kk_mutV (cs := dkW cA q0 q1) (ci := 0) (q0 := 0) (rest := []) ⟨hx, hb, hml, hown, hts⟩ (cD_put l D cA q0 q1 rg4 tt4 tk4 en4 ki4 os4 t1) (cwV 1 hts gX0_putCharacter_X0_put rfl rfl rfl (by decide +kernel) ⟨Nat.le_of_ble_eq_true rfl, Nat.le_of_ble_eq_true rfl⟩) hK hP hD hS rfl rfl rfl hl.1 rfl (Nat.le_of_ble_eq_true rfl) dX0_putCharacter_17 ⟨Nat.zero_le _, Nat.zero_le _⟩ (fun u5 H locs hu5 hP hS hzu5 hku5 => ?_)
    obtain ⟨rg5, tt5, tk5, en5, ki5, os5⟩ := u5
    have eu5 : (rg5, tt5, tk5, en5, ki5, os5) = dk_put (rg4, tt4, tk4, en4, ki4, os4) t1 := hu5
    have hD : va_D A (dkW cA q0 q1 (rg5, tt5, tk5, en5, ki5, os5)) := kk_D_same hD rfl
    refine lv_goto (tgt := 28) hx hb dX0_putCharacter_20 (by decide) ?_
    have hres : (rg5, tt5, tk5, en5, ki5, os5) = dk_putC (rg, tt, tk, en, ki, os) x1 := by
      subst et1
      first | rfl | (simp only [dk_putC, ← eu4, ← eu5, if_neg c2]; done) | (simp [dk_putC, ← eu4, ← eu5, if_neg c2]; done)
    exact W.vret hx hb hr (fun t ht hW => ⟨⟨(rg5, tt5, tk5, en5, ki5, os5), rfl, hres, by show va_P D vwCl _ t.heap; rw [ht]; exact hP⟩, hS.F ht⟩) hS.2.2 dX0_putCharacter_28
set_option maxHeartbeats 4000000 in
set_option maxRecDepth 100000 in
theorem cD_endLine (l : Launch) (D : va_G) (cA : ClassId) (q0 q1 : Nat) (rg : Nat → Int32) (tt tk en ki os : Int32)  : dkV l yX0_endLine wsX0_endLine ({ frames := 1, cells := 0, slots := 0, locals := 22 }) D cA q0 q1 (rg, tt, tk, en, ki, os) [] (dk_endL (rg, tt, tk, en, ki, os)) := by
  refine kk_of (cc := cX0_endLine) (maxL := 1) (ret := none) (by decide) rfl (Nat.le_of_ble_eq_true rfl) ?_
  intro p e s m below meth c ls hx hb hr hts hown hlocks hml hnm hP hK hD hl
  have hown : s.vm.findClass RX0 = some m.cls := hown
  have hl : lv_has ls 1 [(0, .ref q0)] := hl
  have hin : ∀ w ∈ wsX00, w ∈ wsX0_endLine := by decide +kernel
  have lk20 := hts (.fieldLink RX0 20 "EventLineDesk" "endedLines" "I") (by decide +kernel)
  have lk23 := hts (.fieldLink RX0 23 "EventLineDesk" "openKind" "I") (by decide +kernel)
  generalize hAe : kk_A (dkW cA q0 q1 (rg, tt, tk, en, ki, os)) = A at hD ⊢
  have hS : va_S A s.heap s.heap [] := va_S.rf
  refine lv_aload_n hx hb dX0_endLine_0 rfl (lv_at hl 0 rfl) ?_
  refine lv_bipush (v := 10) hx hb dX0_endLine_1 (by decide) ?_
  refine kk_mutV (cs := dkW cA q0 q1) (ci := 0) (q0 := 0) (rest := []) ⟨hx, hb, hml, hown, hts⟩ (cD_put l D cA q0 q1 rg tt tk en ki os 10) (cwV 1 hts gX0_endLine_X0_put rfl rfl rfl (by decide +kernel) ⟨Nat.le_of_ble_eq_true rfl, Nat.le_of_ble_eq_true rfl⟩) hK hP hD hS rfl rfl rfl hl.1 rfl (Nat.le_of_ble_eq_true rfl) dX0_endLine_3 ⟨Nat.zero_le _, Nat.zero_le _⟩ (fun u1 H locs hu1 hP hS hzu1 hku1 => ?_)
  obtain ⟨rg1, tt1, tk1, en1, ki1, os1⟩ := u1
  have eu1 : (rg1, tt1, tk1, en1, ki1, os1) = dk_put (rg, tt, tk, en, ki, os) 10 := hu1
  have hD : va_D A (dkW cA q0 q1 (rg1, tt1, tk1, en1, ki1, os1)) := kk_D_same hD rfl
  refine lv_aload_n hx hb dX0_endLine_6 rfl (lv_at hl 0 rfl) ?_
  refine lv_dup hx hb dX0_endLine_7 rfl ?_
  refine va_get (D := D) (ci := 0) (v := .int en1) (C := RX0) (T := TX0) (N := 6) hx hb hts hin hown hK hP 0 rfl rfl 3 (by decide) lk20 (fun _ h9 => h9) rfl dX0_endLine_8 ?_
  refine lv_iconst (v := 1) hx hb dX0_endLine_11 (by decide) ?_
  refine lv_iadd hx hb dX0_endLine_12 ?_
  refine lv_topi (fun t2 et2 => ?_)
  refine va_put (D := D) (ci := 0) (v := .int t2) (ty := .int) (C := RX0) (T := TX0) (N := 6) hx hb hts hin tyX0 tyX0_ok nmX0 hown hK hP hD hS 0 rfl rfl 3 (by decide) lk20 (fun _ h9 => h9) rfl (by decide +kernel) rfl rfl (Nat.le_of_ble_eq_true rfl) dX0_endLine_13 (fun H locs hP hD hS => ?_)
  have hP : va_P D vwCl (dkW cA q0 q1 (rg1, tt1, tk1, t2, ki1, os1)) H := hP
  have hD : va_D A (dkW cA q0 q1 (rg1, tt1, tk1, t2, ki1, os1)) := hD
  refine lv_aload_n hx hb dX0_endLine_16 rfl (lv_at hl 0 rfl) ?_
  refine lv_iconst (v := (-1)) hx hb dX0_endLine_17 (by decide) ?_
  refine va_put (D := D) (ci := 0) (v := .int (-1)) (ty := .int) (C := RX0) (T := TX0) (N := 6) hx hb hts hin tyX0 tyX0_ok nmX0 hown hK hP hD hS 0 rfl rfl 4 (by decide) lk23 (fun _ h9 => h9) rfl (by decide +kernel) rfl rfl (Nat.le_of_ble_eq_true rfl) dX0_endLine_18 (fun H locs hP hD hS => ?_)
  have hP : va_P D vwCl (dkW cA q0 q1 (rg1, tt1, tk1, t2, (-1), os1)) H := hP
  have hD : va_D A (dkW cA q0 q1 (rg1, tt1, tk1, t2, (-1), os1)) := hD
  have hres : (rg1, tt1, tk1, t2, (-1), os1) = dk_endL (rg, tt, tk, en, ki, os) := by
    subst et2
    first | rfl | (simp only [dk_endL, dk_e2, ← eu1]; done) | (simp [dk_endL, dk_e2, ← eu1]; done)
  exact W.vret hx hb hr (fun t ht hW => ⟨⟨(rg1, tt1, tk1, t2, (-1), os1), rfl, hres, by show va_P D vwCl _ t.heap; rw [ht]; exact hP⟩, hS.F ht⟩) hS.2.2 dX0_endLine_21
set_option maxHeartbeats 4000000 in
set_option maxRecDepth 100000 in
theorem cD_openLine (l : Launch) (D : va_G) (cA : ClassId) (q0 q1 : Nat) (rg : Nat → Int32) (tt tk en ki os : Int32) (x1 : Int32) : dkV l yX0_openLine wsX0_openLine ({ frames := 2, cells := 0, slots := 0, locals := 42 }) D cA q0 q1 (rg, tt, tk, en, ki, os) [.int x1] (dk_open (rg, tt, tk, en, ki, os) x1) := by
  refine kk_of (cc := cX0_openLine) (maxL := 2) (ret := none) (by decide) rfl (Nat.le_of_ble_eq_true rfl) ?_
  intro p e s m below meth c ls hx hb hr hts hown hlocks hml hnm hP hK hD hl
  have hown : s.vm.findClass RX0 = some m.cls := hown
  have hl : lv_has ls 2 [(0, .ref q0), (1, .int x1)] := hl
  have hin : ∀ w ∈ wsX00, w ∈ wsX0_openLine := by decide +kernel
  have lk23 := hts (.fieldLink RX0 23 "EventLineDesk" "openKind" "I") (by decide +kernel)
  have lk13 := hts (.fieldLink RX0 13 "EventLineDesk" "total" "I") (by decide +kernel)
  have lk26 := hts (.fieldLink RX0 26 "EventLineDesk" "openStart" "I") (by decide +kernel)
  generalize hAe : kk_A (dkW cA q0 q1 (rg, tt, tk, en, ki, os)) = A at hD ⊢
  have hS : va_S A s.heap s.heap [] := va_S.rf
  refine lv_aload_n hx hb dX0_openLine_0 rfl (lv_at hl 0 rfl) ?_
  refine va_get (D := D) (ci := 0) (v := .int ki) (C := RX0) (T := TX0) (N := 6) hx hb hts hin hown hK hP 0 rfl rfl 4 (by decide) lk23 (fun _ h9 => h9) rfl dX0_openLine_1 ?_
  refine lv_iconst (v := (-1)) hx hb dX0_openLine_4 (by decide) ?_
  refine lv_icmp_eq (tgt := 12) hx hb dX0_openLine_5 (by decide) (fun c1 => ?_) (fun c1 => ?_)
  · refine lv_aload_n hx hb dX0_openLine_12 rfl (lv_at hl 0 rfl) ?_
    refine lv_iload_n hx hb dX0_openLine_13 rfl (lv_at hl 1 rfl) ?_
    refine va_put (D := D) (ci := 0) (v := .int x1) (ty := .int) (C := RX0) (T := TX0) (N := 6) hx hb hts hin tyX0 tyX0_ok nmX0 hown hK hP hD hS 0 rfl rfl 4 (by decide) lk23 (fun _ h9 => h9) rfl (by decide +kernel) rfl rfl (Nat.le_of_ble_eq_true rfl) dX0_openLine_14 (fun H locs hP hD hS => ?_)
    have hP : va_P D vwCl (dkW cA q0 q1 (rg, tt, tk, en, x1, os)) H := hP
    have hD : va_D A (dkW cA q0 q1 (rg, tt, tk, en, x1, os)) := hD
    refine lv_aload_n hx hb dX0_openLine_17 rfl (lv_at hl 0 rfl) ?_
    refine lv_aload_n hx hb dX0_openLine_18 rfl (lv_at hl 0 rfl) ?_
    refine va_get (D := D) (ci := 0) (v := .int tt) (C := RX0) (T := TX0) (N := 6) hx hb hts hin hown hK hP 0 rfl rfl 1 (by decide) lk13 (fun _ h9 => h9) rfl dX0_openLine_19 ?_
    refine va_put (D := D) (ci := 0) (v := .int tt) (ty := .int) (C := RX0) (T := TX0) (N := 6) hx hb hts hin tyX0 tyX0_ok nmX0 hown hK hP hD hS 0 rfl rfl 5 (by decide) lk26 (fun _ h9 => h9) rfl (by decide +kernel) rfl rfl (Nat.le_of_ble_eq_true rfl) dX0_openLine_22 (fun H locs hP hD hS => ?_)
    have hP : va_P D vwCl (dkW cA q0 q1 (rg, tt, tk, en, x1, tt)) H := hP
    have hD : va_D A (dkW cA q0 q1 (rg, tt, tk, en, x1, tt)) := hD
    refine lv_aload_n hx hb dX0_openLine_25 rfl (lv_at hl 0 rfl) ?_
    refine lv_iload_n hx hb dX0_openLine_26 rfl (lv_at hl 1 rfl) ?_
    refine kk_readS (rest := [.ref q0]) ⟨hx, hb, hml, hown, hts⟩ (cD_firstByteOf l x1) (cwS 1 hts gX0_openLine_X0_firstByteOf rfl rfl rfl (by decide +kernel) ⟨Nat.le_of_ble_eq_true rfl, Nat.le_of_ble_eq_true rfl⟩) rfl hl.1 rfl (Nat.le_of_ble_eq_true rfl) dX0_openLine_27 ⟨Nat.zero_le _, Nat.zero_le _⟩ ?_
    refine lv_topi (fun t2 et2 => ?_)
    refine kk_mutV (cs := dkW cA q0 q1) (ci := 0) (q0 := 0) (rest := []) ⟨hx, hb, hml, hown, hts⟩ (cD_put l D cA q0 q1 rg tt tk en x1 tt t2) (cwV 1 hts gX0_openLine_X0_put rfl rfl rfl (by decide +kernel) ⟨Nat.le_of_ble_eq_true rfl, Nat.le_of_ble_eq_true rfl⟩) hK hP hD hS rfl rfl rfl hl.1 rfl (Nat.le_of_ble_eq_true rfl) dX0_openLine_30 ⟨Nat.zero_le _, Nat.zero_le _⟩ (fun u3 H locs hu3 hP hS hzu3 hku3 => ?_)
    obtain ⟨rg3, tt3, tk3, en3, ki3, os3⟩ := u3
    have eu3 : (rg3, tt3, tk3, en3, ki3, os3) = dk_put (rg, tt, tk, en, x1, tt) t2 := hu3
    have hD : va_D A (dkW cA q0 q1 (rg3, tt3, tk3, en3, ki3, os3)) := kk_D_same hD rfl
    have hres : (rg3, tt3, tk3, en3, ki3, os3) = dk_open (rg, tt, tk, en, ki, os) x1 := by
      subst et2
      first | rfl | (simp only [dk_open, dk_o2, ← eu3, if_pos c1]; done) | (simp [dk_open, dk_o2, ← eu3, if_pos c1]; done)
    exact W.vret hx hb hr (fun t ht hW => ⟨⟨(rg3, tt3, tk3, en3, ki3, os3), rfl, hres, by show va_P D vwCl _ t.heap; rw [ht]; exact hP⟩, hS.F ht⟩) hS.2.2 dX0_openLine_33
  · refine lv_aload_n hx hb dX0_openLine_8 rfl (lv_at hl 0 rfl) ?_
    refine kk_mutV (cs := dkW cA q0 q1) (ci := 0) (q0 := 0) (rest := []) ⟨hx, hb, hml, hown, hts⟩ (cD_endLine l D cA q0 q1 rg tt tk en ki os) (cwV 0 hts gX0_openLine_X0_endLine rfl rfl rfl (by decide +kernel) ⟨Nat.le_of_ble_eq_true rfl, Nat.le_of_ble_eq_true rfl⟩) hK hP hD hS rfl rfl rfl hl.1 rfl (Nat.le_of_ble_eq_true rfl) dX0_openLine_9 ⟨Nat.zero_le _, Nat.zero_le _⟩ (fun u4 H locs hu4 hP hS hzu4 hku4 => ?_)
    obtain ⟨rg4, tt4, tk4, en4, ki4, os4⟩ := u4
    have eu4 : (rg4, tt4, tk4, en4, ki4, os4) = dk_endL (rg, tt, tk, en, ki, os) := hu4
    have hD : va_D A (dkW cA q0 q1 (rg4, tt4, tk4, en4, ki4, os4)) := kk_D_same hD rfl
    refine lv_aload_n hx hb dX0_openLine_12 rfl (lv_at hl 0 rfl) ?_
    refine lv_iload_n hx hb dX0_openLine_13 rfl (lv_at hl 1 rfl) ?_
    refine va_put (D := D) (ci := 0) (v := .int x1) (ty := .int) (C := RX0) (T := TX0) (N := 6) hx hb hts hin tyX0 tyX0_ok nmX0 hown hK hP hD hS 0 rfl rfl 4 (by decide) lk23 (fun _ h9 => h9) rfl (by decide +kernel) rfl rfl (Nat.le_of_ble_eq_true rfl) dX0_openLine_14 (fun H locs hP hD hS => ?_)
    have hP : va_P D vwCl (dkW cA q0 q1 (rg4, tt4, tk4, en4, x1, os4)) H := hP
    have hD : va_D A (dkW cA q0 q1 (rg4, tt4, tk4, en4, x1, os4)) := hD
    refine lv_aload_n hx hb dX0_openLine_17 rfl (lv_at hl 0 rfl) ?_
    refine lv_aload_n hx hb dX0_openLine_18 rfl (lv_at hl 0 rfl) ?_
    refine va_get (D := D) (ci := 0) (v := .int tt4) (C := RX0) (T := TX0) (N := 6) hx hb hts hin hown hK hP 0 rfl rfl 1 (by decide) lk13 (fun _ h9 => h9) rfl dX0_openLine_19 ?_
    refine va_put (D := D) (ci := 0) (v := .int tt4) (ty := .int) (C := RX0) (T := TX0) (N := 6) hx hb hts hin tyX0 tyX0_ok nmX0 hown hK hP hD hS 0 rfl rfl 5 (by decide) lk26 (fun _ h9 => h9) rfl (by decide +kernel) rfl rfl (Nat.le_of_ble_eq_true rfl) dX0_openLine_22 (fun H locs hP hD hS => ?_)
    have hP : va_P D vwCl (dkW cA q0 q1 (rg4, tt4, tk4, en4, x1, tt4)) H := hP
    have hD : va_D A (dkW cA q0 q1 (rg4, tt4, tk4, en4, x1, tt4)) := hD
    refine lv_aload_n hx hb dX0_openLine_25 rfl (lv_at hl 0 rfl) ?_
    refine lv_iload_n hx hb dX0_openLine_26 rfl (lv_at hl 1 rfl) ?_
    refine kk_readS (rest := [.ref q0]) ⟨hx, hb, hml, hown, hts⟩ (cD_firstByteOf l x1) (cwS 1 hts gX0_openLine_X0_firstByteOf rfl rfl rfl (by decide +kernel) ⟨Nat.le_of_ble_eq_true rfl, Nat.le_of_ble_eq_true rfl⟩) rfl hl.1 rfl (Nat.le_of_ble_eq_true rfl) dX0_openLine_27 ⟨Nat.zero_le _, Nat.zero_le _⟩ ?_
    refine lv_topi (fun t5 et5 => ?_)
    refine kk_mutV (cs := dkW cA q0 q1) (ci := 0) (q0 := 0) (rest := []) ⟨hx, hb, hml, hown, hts⟩ (cD_put l D cA q0 q1 rg4 tt4 tk4 en4 x1 tt4 t5) (cwV 1 hts gX0_openLine_X0_put rfl rfl rfl (by decide +kernel) ⟨Nat.le_of_ble_eq_true rfl, Nat.le_of_ble_eq_true rfl⟩) hK hP hD hS rfl rfl rfl hl.1 rfl (Nat.le_of_ble_eq_true rfl) dX0_openLine_30 ⟨Nat.zero_le _, Nat.zero_le _⟩ (fun u6 H locs hu6 hP hS hzu6 hku6 => ?_)
    obtain ⟨rg6, tt6, tk6, en6, ki6, os6⟩ := u6
    have eu6 : (rg6, tt6, tk6, en6, ki6, os6) = dk_put (rg4, tt4, tk4, en4, x1, tt4) t5 := hu6
    have hD : va_D A (dkW cA q0 q1 (rg6, tt6, tk6, en6, ki6, os6)) := kk_D_same hD rfl
    have hres : (rg6, tt6, tk6, en6, ki6, os6) = dk_open (rg, tt, tk, en, ki, os) x1 := by
      subst et5
      first | rfl | (simp only [dk_open, dk_o2, ← eu4, ← eu6, if_neg c1]; done) | (simp [dk_open, dk_o2, ← eu4, ← eu6, if_neg c1]; done)
    exact W.vret hx hb hr (fun t ht hW => ⟨⟨(rg6, tt6, tk6, en6, ki6, os6), rfl, hres, by show va_P D vwCl _ t.heap; rw [ht]; exact hP⟩, hS.F ht⟩) hS.2.2 dX0_openLine_33
set_option maxHeartbeats 4000000 in
set_option maxRecDepth 100000 in
theorem cD_begin (l : Launch) (D : va_G) (cA : ClassId) (q0 q1 : Nat) (rg : Nat → Int32) (tt tk en ki os : Int32) (x1 : Int32) : dkI l yX0_begin wsX0_begin ({ frames := 3, cells := 0, slots := 0, locals := 63 }) D cA q0 q1 (rg, tt, tk, en, ki, os) [.int x1] (dk_begin (rg, tt, tk, en, ki, os) x1).1 (dk_begin (rg, tt, tk, en, ki, os) x1).2 := by
  refine kk_of (cc := cX0_begin) (maxL := 2) (ret := (some .boolean)) (by decide) rfl (Nat.le_of_ble_eq_true rfl) ?_
  intro p e s m below meth c ls hx hb hr hts hown hlocks hml hnm hP hK hD hl
  have hown : s.vm.findClass RX0 = some m.cls := hown
  have hl : lv_has ls 2 [(0, .ref q0), (1, .int x1)] := hl
  have hin : ∀ w ∈ wsX00, w ∈ wsX0_begin := by decide +kernel
  generalize hAe : kk_A (dkW cA q0 q1 (rg, tt, tk, en, ki, os)) = A at hD ⊢
  have hS : va_S A s.heap s.heap [] := va_S.rf
  refine lv_iload_n hx hb dX0_begin_0 rfl (lv_at hl 1 rfl) ?_
  refine lv_if_lt (tgt := 20) hx hb dX0_begin_1 (by decide) (fun c1 => ?_) (fun c1 => ?_)
  · refine lv_iconst (v := 0) hx hb dX0_begin_20 (by decide) ?_
    have hres : 0 = (dk_begin (rg, tt, tk, en, ki, os) x1).1 := by
      first | rfl | (simp only [dk_begin, if_pos c1]; done) | (simp [dk_begin, if_pos c1]; done)
    have hre2 : (rg, tt, tk, en, ki, os) = (dk_begin (rg, tt, tk, en, ki, os) x1).2 := by
      first | rfl | (simp only [dk_begin, if_pos c1]; done) | (simp [dk_begin, if_pos c1]; done)
    exact W.zret (v := 0) (ty := .boolean) hx hb hr rfl (fun t ht hW => ⟨⟨0, (rg, tt, tk, en, ki, os), rfl, ⟨hres, hre2⟩, by show va_P D vwCl _ t.heap; rw [ht]; exact hP⟩, hS.F ht⟩) hS.2.2 dX0_begin_21
  · refine lv_iload_n hx hb dX0_begin_4 rfl (lv_at hl 1 rfl) ?_
    refine lv_iconst (v := 3) hx hb dX0_begin_5 (by decide) ?_
    refine lv_icmp_gt (tgt := 20) hx hb dX0_begin_6 (by decide) (fun c2 => ?_) (fun c2 => ?_)
    · refine lv_iconst (v := 0) hx hb dX0_begin_20 (by decide) ?_
      have hres : 0 = (dk_begin (rg, tt, tk, en, ki, os) x1).1 := by
        first | rfl | (simp only [dk_begin, if_neg c1, if_pos c2]; done) | (simp [dk_begin, if_neg c1, if_pos c2]; done)
      have hre2 : (rg, tt, tk, en, ki, os) = (dk_begin (rg, tt, tk, en, ki, os) x1).2 := by
        first | rfl | (simp only [dk_begin, if_neg c1, if_pos c2]; done) | (simp [dk_begin, if_neg c1, if_pos c2]; done)
      exact W.zret (v := 0) (ty := .boolean) hx hb hr rfl (fun t ht hW => ⟨⟨0, (rg, tt, tk, en, ki, os), rfl, ⟨hres, hre2⟩, by show va_P D vwCl _ t.heap; rw [ht]; exact hP⟩, hS.F ht⟩) hS.2.2 dX0_begin_21
    · refine lv_aload_n hx hb dX0_begin_9 rfl (lv_at hl 0 rfl) ?_
      refine lv_aload_n hx hb dX0_begin_10 rfl (lv_at hl 0 rfl) ?_
      refine kk_readV (ci := 0) (q0 := 0) (rest := [.ref q0]) ⟨hx, hb, hml, hown, hts⟩ (cD_bytesToOpen l D cA q0 q1 rg tt tk en ki os) (cwV 0 hts gX0_begin_X0_bytesToOpen rfl rfl rfl (by decide +kernel) ⟨Nat.le_of_ble_eq_true rfl, Nat.le_of_ble_eq_true rfl⟩) hK hP hD rfl rfl rfl hl.1 rfl (Nat.le_of_ble_eq_true rfl) dX0_begin_11 ⟨Nat.zero_le _, Nat.zero_le _⟩ ?_
      refine lv_topi (fun t3 et3 => ?_)
      refine kk_readV (ci := 0) (q0 := 0) (rest := []) ⟨hx, hb, hml, hown, hts⟩ (cD_hasRoomFor l D cA q0 q1 rg tt tk en ki os t3) (cwV 1 hts gX0_begin_X0_hasRoomFor rfl rfl rfl (by decide +kernel) ⟨Nat.le_of_ble_eq_true rfl, Nat.le_of_ble_eq_true rfl⟩) hK hP hD rfl rfl rfl hl.1 rfl (Nat.le_of_ble_eq_true rfl) dX0_begin_14 ⟨Nat.zero_le _, Nat.zero_le _⟩ ?_
      refine lv_topi (fun t4 et4 => ?_)
      refine lv_if_ne (tgt := 22) hx hb dX0_begin_17 (by decide) (fun c5 => ?_) (fun c5 => ?_)
      · refine lv_aload_n hx hb dX0_begin_22 rfl (lv_at hl 0 rfl) ?_
        refine lv_iload_n hx hb dX0_begin_23 rfl (lv_at hl 1 rfl) ?_
        refine kk_mutV (cs := dkW cA q0 q1) (ci := 0) (q0 := 0) (rest := []) ⟨hx, hb, hml, hown, hts⟩ (cD_openLine l D cA q0 q1 rg tt tk en ki os x1) (cwV 1 hts gX0_begin_X0_openLine rfl rfl rfl (by decide +kernel) ⟨Nat.le_of_ble_eq_true rfl, Nat.le_of_ble_eq_true rfl⟩) hK hP hD hS rfl rfl rfl hl.1 rfl (Nat.le_of_ble_eq_true rfl) dX0_begin_24 ⟨Nat.zero_le _, Nat.zero_le _⟩ (fun u6 H locs hu6 hP hS hzu6 hku6 => ?_)
        obtain ⟨rg6, tt6, tk6, en6, ki6, os6⟩ := u6
        have eu6 : (rg6, tt6, tk6, en6, ki6, os6) = dk_open (rg, tt, tk, en, ki, os) x1 := hu6
        have hD : va_D A (dkW cA q0 q1 (rg6, tt6, tk6, en6, ki6, os6)) := kk_D_same hD rfl
        refine lv_iconst (v := 1) hx hb dX0_begin_27 (by decide) ?_
        have hres : 1 = (dk_begin (rg, tt, tk, en, ki, os) x1).1 := by
          subst et4 et3
          first | rfl | (simp only [dk_begin, ← eu6, if_neg c1, if_neg c2, if_pos c5]; done) | (simp [dk_begin, ← eu6, if_neg c1, if_neg c2, if_pos c5]; done)
        have hre2 : (rg6, tt6, tk6, en6, ki6, os6) = (dk_begin (rg, tt, tk, en, ki, os) x1).2 := by
          subst et4 et3
          first | rfl | (simp only [dk_begin, ← eu6, if_neg c1, if_neg c2, if_pos c5]; done) | (simp [dk_begin, ← eu6, if_neg c1, if_neg c2, if_pos c5]; done)
        exact W.zret (v := 1) (ty := .boolean) hx hb hr rfl (fun t ht hW => ⟨⟨1, (rg6, tt6, tk6, en6, ki6, os6), rfl, ⟨hres, hre2⟩, by show va_P D vwCl _ t.heap; rw [ht]; exact hP⟩, hS.F ht⟩) hS.2.2 dX0_begin_28
      · refine lv_iconst (v := 0) hx hb dX0_begin_20 (by decide) ?_
        have hres : 0 = (dk_begin (rg, tt, tk, en, ki, os) x1).1 := by
          subst et4 et3
          first | rfl | (simp only [dk_begin, if_neg c1, if_neg c2, if_neg (not_not_intro c5)]; done) | (simp [dk_begin, if_neg c1, if_neg c2, if_neg (not_not_intro c5)]; done)
        have hre2 : (rg, tt, tk, en, ki, os) = (dk_begin (rg, tt, tk, en, ki, os) x1).2 := by
          subst et4 et3
          first | rfl | (simp only [dk_begin, if_neg c1, if_neg c2, if_neg (not_not_intro c5)]; done) | (simp [dk_begin, if_neg c1, if_neg c2, if_neg (not_not_intro c5)]; done)
        exact W.zret (v := 0) (ty := .boolean) hx hb hr rfl (fun t ht hW => ⟨⟨0, (rg, tt, tk, en, ki, os), rfl, ⟨hres, hre2⟩, by show va_P D vwCl _ t.heap; rw [ht]; exact hP⟩, hS.F ht⟩) hS.2.2 dX0_begin_21
set_option maxHeartbeats 4000000 in
set_option maxRecDepth 100000 in
theorem cD_add (l : Launch) (D : va_G) (cA : ClassId) (q0 q1 : Nat) (rg : Nat → Int32) (tt tk en ki os : Int32) (x1 : Int32) : dkI l yX0_add wsX0_add ({ frames := 4, cells := 0, slots := 0, locals := 86 }) D cA q0 q1 (rg, tt, tk, en, ki, os) [.int x1] (dk_add (rg, tt, tk, en, ki, os) x1).1 (dk_add (rg, tt, tk, en, ki, os) x1).2 := by
  refine kk_of (cc := cX0_add) (maxL := 2) (ret := (some .boolean)) (by decide) rfl (Nat.le_of_ble_eq_true rfl) ?_
  intro p e s m below meth c ls hx hb hr hts hown hlocks hml hnm hP hK hD hl
  have hown : s.vm.findClass RX0 = some m.cls := hown
  have hl : lv_has ls 2 [(0, .ref q0), (1, .int x1)] := hl
  have hin : ∀ w ∈ wsX00, w ∈ wsX0_add := by decide +kernel
  have lk23 := hts (Cond.fieldLink RX0 23 "EventLineDesk" "openKind" "I") (by decide +kernel)
  generalize hAe : kk_A (dkW cA q0 q1 (rg, tt, tk, en, ki, os)) = A at hD ⊢
  have hS : va_S A s.heap s.heap [] := va_S.rf
  refine lv_aload_n hx hb dX0_add_0 rfl (lv_at hl 0 rfl) ?_
  refine va_get (D := D) (ci := 0) (v := .int ki) (C := RX0) (T := TX0) (N := 6) hx hb hts hin hown hK hP 0 rfl rfl 4 (by decide) lk23 (fun _ h9 => h9) rfl dX0_add_1 ?_
  refine lv_iconst (v := (-1)) hx hb dX0_add_4 (by decide) ?_
  refine lv_icmp_eq (tgt := 23) hx hb dX0_add_5 (by decide) (fun c1 => ?_) (fun c1 => ?_)
  · refine lv_iconst (v := 0) hx hb dX0_add_23 (by decide) ?_
    have hres : 0 = (dk_add (rg, tt, tk, en, ki, os) x1).1 := by
      first | rfl | (simp only [dk_add, if_pos c1]; done) | (simp [dk_add, if_pos c1]; done)
    have hre2 : (rg, tt, tk, en, ki, os) = (dk_add (rg, tt, tk, en, ki, os) x1).2 := by
      first | rfl | (simp only [dk_add, if_pos c1]; done) | (simp [dk_add, if_pos c1]; done)
    exact W.zret (v := 0) (ty := .boolean) hx hb hr rfl (fun t ht hW => ⟨⟨0, (rg, tt, tk, en, ki, os), rfl, ⟨hres, hre2⟩, by show va_P D vwCl _ t.heap; rw [ht]; exact hP⟩, hS.F ht⟩) hS.2.2 dX0_add_24
  · refine lv_aload_n hx hb dX0_add_8 rfl (lv_at hl 0 rfl) ?_
    refine va_get (D := D) (ci := 0) (v := .int ki) (C := RX0) (T := TX0) (N := 6) hx hb hts hin hown hK hP 0 rfl rfl 4 (by decide) lk23 (fun _ h9 => h9) rfl dX0_add_9 ?_
    refine lv_iconst (v := 4) hx hb dX0_add_12 (by decide) ?_
    refine lv_icmp_eq (tgt := 23) hx hb dX0_add_13 (by decide) (fun c2 => ?_) (fun c2 => ?_)
    · refine lv_iconst (v := 0) hx hb dX0_add_23 (by decide) ?_
      have hres : 0 = (dk_add (rg, tt, tk, en, ki, os) x1).1 := by
        first | rfl | (simp only [dk_add, if_neg c1, if_pos c2]; done) | (simp [dk_add, if_neg c1, if_pos c2]; done)
      have hre2 : (rg, tt, tk, en, ki, os) = (dk_add (rg, tt, tk, en, ki, os) x1).2 := by
        first | rfl | (simp only [dk_add, if_neg c1, if_pos c2]; done) | (simp [dk_add, if_neg c1, if_pos c2]; done)
      exact W.zret (v := 0) (ty := .boolean) hx hb hr rfl (fun t ht hW => ⟨⟨0, (rg, tt, tk, en, ki, os), rfl, ⟨hres, hre2⟩, by show va_P D vwCl _ t.heap; rw [ht]; exact hP⟩, hS.F ht⟩) hS.2.2 dX0_add_24
    · refine lv_iload_n hx hb dX0_add_16 rfl (lv_at hl 1 rfl) ?_
      refine kk_readS (rest := []) ⟨hx, hb, hml, hown, hts⟩ (cD_isCharacter l x1) (cwS 1 hts gX0_add_X0_isCharacter rfl rfl rfl (by decide +kernel) ⟨Nat.le_of_ble_eq_true rfl, Nat.le_of_ble_eq_true rfl⟩) rfl hl.1 rfl (Nat.le_of_ble_eq_true rfl) dX0_add_17 ⟨Nat.zero_le _, Nat.zero_le _⟩ ?_
      refine lv_topi (fun t3 et3 => ?_)
      refine lv_if_ne (tgt := 25) hx hb dX0_add_20 (by decide) (fun c4 => ?_) (fun c4 => ?_)
      · refine lv_aload_n hx hb dX0_add_25 rfl (lv_at hl 0 rfl) ?_
        refine lv_iload_n hx hb dX0_add_26 rfl (lv_at hl 1 rfl) ?_
        refine kk_readS (rest := [.ref q0]) ⟨hx, hb, hml, hown, hts⟩ (cD_sizeOf l x1) (cwS 1 hts gX0_add_X0_sizeOf rfl rfl rfl (by decide +kernel) ⟨Nat.le_of_ble_eq_true rfl, Nat.le_of_ble_eq_true rfl⟩) rfl hl.1 rfl (Nat.le_of_ble_eq_true rfl) dX0_add_27 ⟨Nat.zero_le _, Nat.zero_le _⟩ ?_
        refine lv_topi (fun t5 et5 => ?_)
        refine kk_readV (ci := 0) (q0 := 0) (rest := []) ⟨hx, hb, hml, hown, hts⟩ (cD_hasRoomFor l D cA q0 q1 rg tt tk en ki os t5) (cwV 1 hts gX0_add_X0_hasRoomFor rfl rfl rfl (by decide +kernel) ⟨Nat.le_of_ble_eq_true rfl, Nat.le_of_ble_eq_true rfl⟩) hK hP hD rfl rfl rfl hl.1 rfl (Nat.le_of_ble_eq_true rfl) dX0_add_30 ⟨Nat.zero_le _, Nat.zero_le _⟩ ?_
        refine lv_topi (fun t6 et6 => ?_)
        refine lv_if_ne (tgt := 38) hx hb dX0_add_33 (by decide) (fun c7 => ?_) (fun c7 => ?_)
        · refine lv_aload_n hx hb dX0_add_38 rfl (lv_at hl 0 rfl) ?_
          refine lv_iload_n hx hb dX0_add_39 rfl (lv_at hl 1 rfl) ?_
          refine kk_mutV (cs := dkW cA q0 q1) (ci := 0) (q0 := 0) (rest := []) ⟨hx, hb, hml, hown, hts⟩ (cD_putCharacter l D cA q0 q1 rg tt tk en ki os x1) (cwV 1 hts gX0_add_X0_putCharacter rfl rfl rfl (by decide +kernel) ⟨Nat.le_of_ble_eq_true rfl, Nat.le_of_ble_eq_true rfl⟩) hK hP hD hS rfl rfl rfl hl.1 rfl (Nat.le_of_ble_eq_true rfl) dX0_add_40 ⟨Nat.zero_le _, Nat.zero_le _⟩ (fun u8 H locs hu8 hP hS hzu8 hku8 => ?_)
          obtain ⟨rg8, tt8, tk8, en8, ki8, os8⟩ := u8
          have eu8 : (rg8, tt8, tk8, en8, ki8, os8) = dk_putC (rg, tt, tk, en, ki, os) x1 := hu8
          have hD : va_D A (dkW cA q0 q1 (rg8, tt8, tk8, en8, ki8, os8)) := kk_D_same hD rfl
          refine lv_iconst (v := 1) hx hb dX0_add_43 (by decide) ?_
          have hres : 1 = (dk_add (rg, tt, tk, en, ki, os) x1).1 := by
            subst et6 et5 et3
            first | rfl | (simp only [dk_add, ← eu8, if_neg c1, if_neg c2, if_pos c4, if_pos c7]; done) | (simp [dk_add, ← eu8, if_neg c1, if_neg c2, if_pos c4, if_pos c7]; done)
          have hre2 : (rg8, tt8, tk8, en8, ki8, os8) = (dk_add (rg, tt, tk, en, ki, os) x1).2 := by
            subst et6 et5 et3
            first | rfl | (simp only [dk_add, ← eu8, if_neg c1, if_neg c2, if_pos c4, if_pos c7]; done) | (simp [dk_add, ← eu8, if_neg c1, if_neg c2, if_pos c4, if_pos c7]; done)
          exact W.zret (v := 1) (ty := .boolean) hx hb hr rfl (fun t ht hW => ⟨⟨1, (rg8, tt8, tk8, en8, ki8, os8), rfl, ⟨hres, hre2⟩, by show va_P D vwCl _ t.heap; rw [ht]; exact hP⟩, hS.F ht⟩) hS.2.2 dX0_add_44
        · refine lv_iconst (v := 0) hx hb dX0_add_36 (by decide) ?_
          have hres : 0 = (dk_add (rg, tt, tk, en, ki, os) x1).1 := by
            subst et6 et5 et3
            first | rfl | (simp only [dk_add, if_neg c1, if_neg c2, if_pos c4, if_neg (not_not_intro c7)]; done) | (simp [dk_add, if_neg c1, if_neg c2, if_pos c4, if_neg (not_not_intro c7)]; done)
          have hre2 : (rg, tt, tk, en, ki, os) = (dk_add (rg, tt, tk, en, ki, os) x1).2 := by
            subst et6 et5 et3
            first | rfl | (simp only [dk_add, if_neg c1, if_neg c2, if_pos c4, if_neg (not_not_intro c7)]; done) | (simp [dk_add, if_neg c1, if_neg c2, if_pos c4, if_neg (not_not_intro c7)]; done)
          exact W.zret (v := 0) (ty := .boolean) hx hb hr rfl (fun t ht hW => ⟨⟨0, (rg, tt, tk, en, ki, os), rfl, ⟨hres, hre2⟩, by show va_P D vwCl _ t.heap; rw [ht]; exact hP⟩, hS.F ht⟩) hS.2.2 dX0_add_37
      · refine lv_iconst (v := 0) hx hb dX0_add_23 (by decide) ?_
        have hres : 0 = (dk_add (rg, tt, tk, en, ki, os) x1).1 := by
          subst et3
          first | rfl | (simp only [dk_add, if_neg c1, if_neg c2, if_neg (not_not_intro c4)]; done) | (simp [dk_add, if_neg c1, if_neg c2, if_neg (not_not_intro c4)]; done)
        have hre2 : (rg, tt, tk, en, ki, os) = (dk_add (rg, tt, tk, en, ki, os) x1).2 := by
          subst et3
          first | rfl | (simp only [dk_add, if_neg c1, if_neg c2, if_neg (not_not_intro c4)]; done) | (simp [dk_add, if_neg c1, if_neg c2, if_neg (not_not_intro c4)]; done)
        exact W.zret (v := 0) (ty := .boolean) hx hb hr rfl (fun t ht hW => ⟨⟨0, (rg, tt, tk, en, ki, os), rfl, ⟨hres, hre2⟩, by show va_P D vwCl _ t.heap; rw [ht]; exact hP⟩, hS.F ht⟩) hS.2.2 dX0_add_24
set_option maxHeartbeats 4000000 in
set_option maxRecDepth 100000 in
theorem cD_text (l : Launch) (D : va_G) (cA : ClassId) (q0 q1 : Nat) (rg : Nat → Int32) (tt tk en ki os : Int32) (x1 : Int32) : dkI l yX0_text wsX0_text ({ frames := 4, cells := 0, slots := 0, locals := 86 }) D cA q0 q1 (rg, tt, tk, en, ki, os) [.int x1] (dk_text (rg, tt, tk, en, ki, os) x1).1 (dk_text (rg, tt, tk, en, ki, os) x1).2 := by
  refine kk_of (cc := cX0_text) (maxL := 3) (ret := (some .boolean)) (by decide) rfl (Nat.le_of_ble_eq_true rfl) ?_
  intro p e s m below meth c ls hx hb hr hts hown hlocks hml hnm hP hK hD hl
  have hown : s.vm.findClass RX0 = some m.cls := hown
  have hl : lv_has ls 3 [(0, .ref q0), (1, .int x1)] := hl
  have hin : ∀ w ∈ wsX00, w ∈ wsX0_text := by decide +kernel
  have lk23 := hts (Cond.fieldLink RX0 23 "EventLineDesk" "openKind" "I") (by decide +kernel)
  generalize hAe : kk_A (dkW cA q0 q1 (rg, tt, tk, en, ki, os)) = A at hD ⊢
  have hS : va_S A s.heap s.heap [] := va_S.rf
  refine lv_iload_n hx hb dX0_text_0 rfl (lv_at hl 1 rfl) ?_
  refine kk_readS (rest := []) ⟨hx, hb, hml, hown, hts⟩ (cD_isCharacter l x1) (cwS 1 hts gX0_text_X0_isCharacter rfl rfl rfl (by decide +kernel) ⟨Nat.le_of_ble_eq_true rfl, Nat.le_of_ble_eq_true rfl⟩) rfl hl.1 rfl (Nat.le_of_ble_eq_true rfl) dX0_text_1 ⟨Nat.zero_le _, Nat.zero_le _⟩ ?_
  refine lv_topi (fun t1 et1 => ?_)
  refine lv_if_ne (tgt := 9) hx hb dX0_text_4 (by decide) (fun c2 => ?_) (fun c2 => ?_)
  · refine lv_aload_n hx hb dX0_text_9 rfl (lv_at hl 0 rfl) ?_
    refine va_get (D := D) (ci := 0) (v := .int ki) (C := RX0) (T := TX0) (N := 6) hx hb hts hin hown hK hP 0 rfl rfl 4 (by decide) lk23 (fun _ h9 => h9) rfl dX0_text_10 ?_
    refine lv_iconst (v := 4) hx hb dX0_text_13 (by decide) ?_
    refine lv_icmp_ne (tgt := 21) hx hb dX0_text_14 (by decide) (fun c3 => ?_) (fun c3 => ?_)
    · refine lv_aload_n hx hb dX0_text_21 rfl (lv_at hl 0 rfl) ?_
      refine kk_readV (ci := 0) (q0 := 0) (rest := []) ⟨hx, hb, hml, hown, hts⟩ (cD_bytesToOpen l D cA q0 q1 rg tt tk en ki os) (cwV 0 hts gX0_text_X0_bytesToOpen rfl rfl rfl (by decide +kernel) ⟨Nat.le_of_ble_eq_true rfl, Nat.le_of_ble_eq_true rfl⟩) hK hP hD rfl rfl rfl hl.1 rfl (Nat.le_of_ble_eq_true rfl) dX0_text_22 ⟨Nat.zero_le _, Nat.zero_le _⟩ ?_
      refine lv_topi (fun t4 et4 => ?_)
      refine lv_istore_n (lv' := [(2, .int t4), (0, .ref q0), (1, .int x1)]) hx hb dX0_text_25 rfl hl (by decide) rfl (fun ls hl => ?_)
      refine lv_aload_n hx hb dX0_text_26 rfl (lv_at hl 1 rfl) ?_
      refine lv_iload_n hx hb dX0_text_27 rfl (lv_at hl 0 rfl) ?_
      refine lv_iload_n hx hb dX0_text_28 rfl (lv_at hl 2 rfl) ?_
      refine kk_readS (rest := [.int t4, .ref q0]) ⟨hx, hb, hml, hown, hts⟩ (cD_sizeOf l x1) (cwS 1 hts gX0_text_X0_sizeOf rfl rfl rfl (by decide +kernel) ⟨Nat.le_of_ble_eq_true rfl, Nat.le_of_ble_eq_true rfl⟩) rfl hl.1 rfl (Nat.le_of_ble_eq_true rfl) dX0_text_29 ⟨Nat.zero_le _, Nat.zero_le _⟩ ?_
      refine lv_topi (fun t5 et5 => ?_)
      refine lv_iadd hx hb dX0_text_32 ?_
      refine lv_topi (fun t6 et6 => ?_)
      refine kk_readV (ci := 0) (q0 := 0) (rest := []) ⟨hx, hb, hml, hown, hts⟩ (cD_hasRoomFor l D cA q0 q1 rg tt tk en ki os t6) (cwV 1 hts gX0_text_X0_hasRoomFor rfl rfl rfl (by decide +kernel) ⟨Nat.le_of_ble_eq_true rfl, Nat.le_of_ble_eq_true rfl⟩) hK hP hD rfl rfl rfl hl.1 rfl (Nat.le_of_ble_eq_true rfl) dX0_text_33 ⟨Nat.zero_le _, Nat.zero_le _⟩ ?_
      refine lv_topi (fun t7 et7 => ?_)
      refine lv_if_ne (tgt := 41) hx hb dX0_text_36 (by decide) (fun c8 => ?_) (fun c8 => ?_)
      · refine lv_aload_n hx hb dX0_text_41 rfl (lv_at hl 1 rfl) ?_
        refine va_get (D := D) (ci := 0) (v := .int ki) (C := RX0) (T := TX0) (N := 6) hx hb hts hin hown hK hP 0 rfl rfl 4 (by decide) lk23 (fun _ h9 => h9) rfl dX0_text_42 ?_
        refine lv_iconst (v := 4) hx hb dX0_text_45 (by decide) ?_
        refine lv_icmp_eq (tgt := 54) hx hb dX0_text_46 (by decide) (fun c9 => ?_) (fun c9 => ?_)
        · exact absurd c9 c3
        · refine lv_aload_n hx hb dX0_text_49 rfl (lv_at hl 1 rfl) ?_
          refine lv_iconst (v := 4) hx hb dX0_text_50 (by decide) ?_
          refine kk_mutV (cs := dkW cA q0 q1) (ci := 0) (q0 := 0) (rest := []) ⟨hx, hb, hml, hown, hts⟩ (cD_openLine l D cA q0 q1 rg tt tk en ki os 4) (cwV 1 hts gX0_text_X0_openLine rfl rfl rfl (by decide +kernel) ⟨Nat.le_of_ble_eq_true rfl, Nat.le_of_ble_eq_true rfl⟩) hK hP hD hS rfl rfl rfl hl.1 rfl (Nat.le_of_ble_eq_true rfl) dX0_text_51 ⟨Nat.zero_le _, Nat.zero_le _⟩ (fun u10 H locs hu10 hP hS hzu10 hku10 => ?_)
          obtain ⟨rg10, tt10, tk10, en10, ki10, os10⟩ := u10
          have eu10 : (rg10, tt10, tk10, en10, ki10, os10) = dk_open (rg, tt, tk, en, ki, os) 4 := hu10
          have hD : va_D A (dkW cA q0 q1 (rg10, tt10, tk10, en10, ki10, os10)) := kk_D_same hD rfl
          refine lv_aload_n hx hb dX0_text_54 rfl (lv_at hl 1 rfl) ?_
          refine lv_iload_n hx hb dX0_text_55 rfl (lv_at hl 2 rfl) ?_
          refine kk_mutV (cs := dkW cA q0 q1) (ci := 0) (q0 := 0) (rest := []) ⟨hx, hb, hml, hown, hts⟩ (cD_putCharacter l D cA q0 q1 rg10 tt10 tk10 en10 ki10 os10 x1) (cwV 1 hts gX0_text_X0_putCharacter rfl rfl rfl (by decide +kernel) ⟨Nat.le_of_ble_eq_true rfl, Nat.le_of_ble_eq_true rfl⟩) hK hP hD hS rfl rfl rfl hl.1 rfl (Nat.le_of_ble_eq_true rfl) dX0_text_56 ⟨Nat.zero_le _, Nat.zero_le _⟩ (fun u11 H locs hu11 hP hS hzu11 hku11 => ?_)
          obtain ⟨rg11, tt11, tk11, en11, ki11, os11⟩ := u11
          have eu11 : (rg11, tt11, tk11, en11, ki11, os11) = dk_putC (rg10, tt10, tk10, en10, ki10, os10) x1 := hu11
          have hD : va_D A (dkW cA q0 q1 (rg11, tt11, tk11, en11, ki11, os11)) := kk_D_same hD rfl
          refine lv_iconst (v := 1) hx hb dX0_text_59 (by decide) ?_
          have hres : 1 = (dk_text (rg, tt, tk, en, ki, os) x1).1 := by
            subst et7 et6 et5 et4 et1
            first | rfl | (simp only [dk_text, ← eu10, ← eu11, if_pos c2, if_pos c3, if_pos c8, if_neg c3]; done) | (simp [dk_text, ← eu10, ← eu11, if_pos c2, if_pos c3, if_pos c8, if_neg c3]; done)
          have hre2 : (rg11, tt11, tk11, en11, ki11, os11) = (dk_text (rg, tt, tk, en, ki, os) x1).2 := by
            subst et7 et6 et5 et4 et1
            first | rfl | (simp only [dk_text, ← eu10, ← eu11, if_pos c2, if_pos c3, if_pos c8, if_neg c3]; done) | (simp [dk_text, ← eu10, ← eu11, if_pos c2, if_pos c3, if_pos c8, if_neg c3]; done)
          exact W.zret (v := 1) (ty := .boolean) hx hb hr rfl (fun t ht hW => ⟨⟨1, (rg11, tt11, tk11, en11, ki11, os11), rfl, ⟨hres, hre2⟩, by show va_P D vwCl _ t.heap; rw [ht]; exact hP⟩, hS.F ht⟩) hS.2.2 dX0_text_60
      · refine lv_iconst (v := 0) hx hb dX0_text_39 (by decide) ?_
        have hres : 0 = (dk_text (rg, tt, tk, en, ki, os) x1).1 := by
          subst et7 et6 et5 et4 et1
          first | rfl | (simp only [dk_text, if_pos c2, if_pos c3, if_neg (not_not_intro c8)]; done) | (simp [dk_text, if_pos c2, if_pos c3, if_neg (not_not_intro c8)]; done)
        have hre2 : (rg, tt, tk, en, ki, os) = (dk_text (rg, tt, tk, en, ki, os) x1).2 := by
          subst et7 et6 et5 et4 et1
          first | rfl | (simp only [dk_text, if_pos c2, if_pos c3, if_neg (not_not_intro c8)]; done) | (simp [dk_text, if_pos c2, if_pos c3, if_neg (not_not_intro c8)]; done)
        exact W.zret (v := 0) (ty := .boolean) hx hb hr rfl (fun t ht hW => ⟨⟨0, (rg, tt, tk, en, ki, os), rfl, ⟨hres, hre2⟩, by show va_P D vwCl _ t.heap; rw [ht]; exact hP⟩, hS.F ht⟩) hS.2.2 dX0_text_40
    · refine lv_iconst (v := 0) hx hb dX0_text_17 (by decide) ?_
      refine lv_goto (tgt := 25) hx hb dX0_text_18 (by decide) ?_
      refine lv_istore_n (lv' := [(2, .int 0), (0, .ref q0), (1, .int x1)]) hx hb dX0_text_25 rfl hl (by decide) rfl (fun ls hl => ?_)
      refine lv_aload_n hx hb dX0_text_26 rfl (lv_at hl 1 rfl) ?_
      refine lv_iload_n hx hb dX0_text_27 rfl (lv_at hl 0 rfl) ?_
      refine lv_iload_n hx hb dX0_text_28 rfl (lv_at hl 2 rfl) ?_
      refine kk_readS (rest := [.int 0, .ref q0]) ⟨hx, hb, hml, hown, hts⟩ (cD_sizeOf l x1) (cwS 1 hts gX0_text_X0_sizeOf rfl rfl rfl (by decide +kernel) ⟨Nat.le_of_ble_eq_true rfl, Nat.le_of_ble_eq_true rfl⟩) rfl hl.1 rfl (Nat.le_of_ble_eq_true rfl) dX0_text_29 ⟨Nat.zero_le _, Nat.zero_le _⟩ ?_
      refine lv_topi (fun t12 et12 => ?_)
      refine lv_iadd hx hb dX0_text_32 ?_
      refine lv_topi (fun t13 et13 => ?_)
      refine kk_readV (ci := 0) (q0 := 0) (rest := []) ⟨hx, hb, hml, hown, hts⟩ (cD_hasRoomFor l D cA q0 q1 rg tt tk en ki os t13) (cwV 1 hts gX0_text_X0_hasRoomFor rfl rfl rfl (by decide +kernel) ⟨Nat.le_of_ble_eq_true rfl, Nat.le_of_ble_eq_true rfl⟩) hK hP hD rfl rfl rfl hl.1 rfl (Nat.le_of_ble_eq_true rfl) dX0_text_33 ⟨Nat.zero_le _, Nat.zero_le _⟩ ?_
      refine lv_topi (fun t14 et14 => ?_)
      refine lv_if_ne (tgt := 41) hx hb dX0_text_36 (by decide) (fun c15 => ?_) (fun c15 => ?_)
      · refine lv_aload_n hx hb dX0_text_41 rfl (lv_at hl 1 rfl) ?_
        refine va_get (D := D) (ci := 0) (v := .int ki) (C := RX0) (T := TX0) (N := 6) hx hb hts hin hown hK hP 0 rfl rfl 4 (by decide) lk23 (fun _ h9 => h9) rfl dX0_text_42 ?_
        refine lv_iconst (v := 4) hx hb dX0_text_45 (by decide) ?_
        refine lv_icmp_eq (tgt := 54) hx hb dX0_text_46 (by decide) (fun c16 => ?_) (fun c16 => ?_)
        · refine lv_aload_n hx hb dX0_text_54 rfl (lv_at hl 1 rfl) ?_
          refine lv_iload_n hx hb dX0_text_55 rfl (lv_at hl 2 rfl) ?_
          refine kk_mutV (cs := dkW cA q0 q1) (ci := 0) (q0 := 0) (rest := []) ⟨hx, hb, hml, hown, hts⟩ (cD_putCharacter l D cA q0 q1 rg tt tk en ki os x1) (cwV 1 hts gX0_text_X0_putCharacter rfl rfl rfl (by decide +kernel) ⟨Nat.le_of_ble_eq_true rfl, Nat.le_of_ble_eq_true rfl⟩) hK hP hD hS rfl rfl rfl hl.1 rfl (Nat.le_of_ble_eq_true rfl) dX0_text_56 ⟨Nat.zero_le _, Nat.zero_le _⟩ (fun u17 H locs hu17 hP hS hzu17 hku17 => ?_)
          obtain ⟨rg17, tt17, tk17, en17, ki17, os17⟩ := u17
          have eu17 : (rg17, tt17, tk17, en17, ki17, os17) = dk_putC (rg, tt, tk, en, ki, os) x1 := hu17
          have hD : va_D A (dkW cA q0 q1 (rg17, tt17, tk17, en17, ki17, os17)) := kk_D_same hD rfl
          refine lv_iconst (v := 1) hx hb dX0_text_59 (by decide) ?_
          have hres : 1 = (dk_text (rg, tt, tk, en, ki, os) x1).1 := by
            subst et14 et13 et12 et1
            first | rfl | (simp only [dk_text, ← eu17, if_pos c2, if_neg (not_not_intro c3), if_pos c15, if_pos c3]; done) | (simp [dk_text, ← eu17, if_pos c2, if_neg (not_not_intro c3), if_pos c15, if_pos c3]; done)
          have hre2 : (rg17, tt17, tk17, en17, ki17, os17) = (dk_text (rg, tt, tk, en, ki, os) x1).2 := by
            subst et14 et13 et12 et1
            first | rfl | (simp only [dk_text, ← eu17, if_pos c2, if_neg (not_not_intro c3), if_pos c15, if_pos c3]; done) | (simp [dk_text, ← eu17, if_pos c2, if_neg (not_not_intro c3), if_pos c15, if_pos c3]; done)
          exact W.zret (v := 1) (ty := .boolean) hx hb hr rfl (fun t ht hW => ⟨⟨1, (rg17, tt17, tk17, en17, ki17, os17), rfl, ⟨hres, hre2⟩, by show va_P D vwCl _ t.heap; rw [ht]; exact hP⟩, hS.F ht⟩) hS.2.2 dX0_text_60
        · exact absurd c3 c16
      · refine lv_iconst (v := 0) hx hb dX0_text_39 (by decide) ?_
        have hres : 0 = (dk_text (rg, tt, tk, en, ki, os) x1).1 := by
          subst et14 et13 et12 et1
          first | rfl | (simp only [dk_text, if_pos c2, if_neg (not_not_intro c3), if_neg (not_not_intro c15)]; done) | (simp [dk_text, if_pos c2, if_neg (not_not_intro c3), if_neg (not_not_intro c15)]; done)
        have hre2 : (rg, tt, tk, en, ki, os) = (dk_text (rg, tt, tk, en, ki, os) x1).2 := by
          subst et14 et13 et12 et1
          first | rfl | (simp only [dk_text, if_pos c2, if_neg (not_not_intro c3), if_neg (not_not_intro c15)]; done) | (simp [dk_text, if_pos c2, if_neg (not_not_intro c3), if_neg (not_not_intro c15)]; done)
        exact W.zret (v := 0) (ty := .boolean) hx hb hr rfl (fun t ht hW => ⟨⟨0, (rg, tt, tk, en, ki, os), rfl, ⟨hres, hre2⟩, by show va_P D vwCl _ t.heap; rw [ht]; exact hP⟩, hS.F ht⟩) hS.2.2 dX0_text_40
  · refine lv_iconst (v := 0) hx hb dX0_text_7 (by decide) ?_
    have hres : 0 = (dk_text (rg, tt, tk, en, ki, os) x1).1 := by
      subst et1
      first | rfl | (simp only [dk_text, if_neg (not_not_intro c2)]; done) | (simp [dk_text, if_neg (not_not_intro c2)]; done)
    have hre2 : (rg, tt, tk, en, ki, os) = (dk_text (rg, tt, tk, en, ki, os) x1).2 := by
      subst et1
      first | rfl | (simp only [dk_text, if_neg (not_not_intro c2)]; done) | (simp [dk_text, if_neg (not_not_intro c2)]; done)
    exact W.zret (v := 0) (ty := .boolean) hx hb hr rfl (fun t ht hW => ⟨⟨0, (rg, tt, tk, en, ki, os), rfl, ⟨hres, hre2⟩, by show va_P D vwCl _ t.heap; rw [ht]; exact hP⟩, hS.F ht⟩) hS.2.2 dX0_text_8
set_option maxHeartbeats 4000000 in
set_option maxRecDepth 100000 in
theorem cD_end (l : Launch) (D : va_G) (cA : ClassId) (q0 q1 : Nat) (rg : Nat → Int32) (tt tk en ki os : Int32)  : dkI l yX0_end wsX0_end ({ frames := 2, cells := 0, slots := 0, locals := 42 }) D cA q0 q1 (rg, tt, tk, en, ki, os) [] (dk_end (rg, tt, tk, en, ki, os)).1 (dk_end (rg, tt, tk, en, ki, os)).2 := by
  refine kk_of (cc := cX0_end) (maxL := 2) (ret := (some .int)) (by decide) rfl (Nat.le_of_ble_eq_true rfl) ?_
  intro p e s m below meth c ls hx hb hr hts hown hlocks hml hnm hP hK hD hl
  have hown : s.vm.findClass RX0 = some m.cls := hown
  have hl : lv_has ls 2 [(0, .ref q0)] := hl
  have hin : ∀ w ∈ wsX00, w ∈ wsX0_end := by decide +kernel
  have lk23 := hts (.fieldLink RX0 23 "EventLineDesk" "openKind" "I") (by decide +kernel)
  generalize hAe : kk_A (dkW cA q0 q1 (rg, tt, tk, en, ki, os)) = A at hD ⊢
  have hS : va_S A s.heap s.heap [] := va_S.rf
  refine lv_aload_n hx hb dX0_end_0 rfl (lv_at hl 0 rfl) ?_
  refine va_get (D := D) (ci := 0) (v := .int ki) (C := RX0) (T := TX0) (N := 6) hx hb hts hin hown hK hP 0 rfl rfl 4 (by decide) lk23 (fun _ h9 => h9) rfl dX0_end_1 ?_
  refine lv_istore_n (lv' := [(1, .int ki), (0, .ref q0)]) hx hb dX0_end_4 rfl hl (by decide) rfl (fun ls hl => ?_)
  refine lv_iload_n hx hb dX0_end_5 rfl (lv_at hl 0 rfl) ?_
  refine lv_iconst (v := (-1)) hx hb dX0_end_6 (by decide) ?_
  refine lv_icmp_eq (tgt := 14) hx hb dX0_end_7 (by decide) (fun c1 => ?_) (fun c1 => ?_)
  · refine lv_iload_n hx hb dX0_end_14 rfl (lv_at hl 0 rfl) ?_
    have hres : ki = (dk_end (rg, tt, tk, en, ki, os)).1 := by
      first | rfl | (simp only [dk_end, if_pos c1]; done) | (simp [dk_end, if_pos c1]; done)
    have hre2 : (rg, tt, tk, en, ki, os) = (dk_end (rg, tt, tk, en, ki, os)).2 := by
      first | rfl | (simp only [dk_end, if_pos c1]; done) | (simp [dk_end, if_pos c1]; done)
    exact W.iret (v := ki) hx hb hr (fun t ht hW => ⟨⟨ki, (rg, tt, tk, en, ki, os), rfl, ⟨hres, hre2⟩, by show va_P D vwCl _ t.heap; rw [ht]; exact hP⟩, hS.F ht⟩) hS.2.2 dX0_end_15
  · refine lv_aload_n hx hb dX0_end_10 rfl (lv_at hl 1 rfl) ?_
    refine kk_mutV (cs := dkW cA q0 q1) (ci := 0) (q0 := 0) (rest := []) ⟨hx, hb, hml, hown, hts⟩ (cD_endLine l D cA q0 q1 rg tt tk en ki os) (cwV 0 hts gX0_end_X0_endLine rfl rfl rfl (by decide +kernel) ⟨Nat.le_of_ble_eq_true rfl, Nat.le_of_ble_eq_true rfl⟩) hK hP hD hS rfl rfl rfl hl.1 rfl (Nat.le_of_ble_eq_true rfl) dX0_end_11 ⟨Nat.zero_le _, Nat.zero_le _⟩ (fun u2 H locs hu2 hP hS hzu2 hku2 => ?_)
    obtain ⟨rg2, tt2, tk2, en2, ki2, os2⟩ := u2
    have eu2 : (rg2, tt2, tk2, en2, ki2, os2) = dk_endL (rg, tt, tk, en, ki, os) := hu2
    have hD : va_D A (dkW cA q0 q1 (rg2, tt2, tk2, en2, ki2, os2)) := kk_D_same hD rfl
    refine lv_iload_n hx hb dX0_end_14 rfl (lv_at hl 0 rfl) ?_
    have hres : ki = (dk_end (rg, tt, tk, en, ki, os)).1 := by
      first | rfl | (simp only [dk_end, ← eu2, if_neg c1]; done) | (simp [dk_end, ← eu2, if_neg c1]; done)
    have hre2 : (rg2, tt2, tk2, en2, ki2, os2) = (dk_end (rg, tt, tk, en, ki, os)).2 := by
      first | rfl | (simp only [dk_end, ← eu2, if_neg c1]; done) | (simp [dk_end, ← eu2, if_neg c1]; done)
    exact W.iret (v := ki) hx hb hr (fun t ht hW => ⟨⟨ki, (rg2, tt2, tk2, en2, ki2, os2), rfl, ⟨hres, hre2⟩, by show va_P D vwCl _ t.heap; rw [ht]; exact hP⟩, hS.F ht⟩) hS.2.2 dX0_end_15
end
section
set_option maxHeartbeats 4000000 in
set_option maxRecDepth 100000 in
theorem cD_lesLoop (l : Launch) (D : va_G) (cA : ClassId) (q0 q1 : Nat) (rg : Nat → Int32) (tt tk en ki os : Int32) (x1 : Int32) (r : Int32) {p : Program} {e : Env} {s : State} {m : MethodId} {below : List Frame} {meth : Method} {c : Code} {args : Array Value} {H : Heap} {locs : List Loc} {Q : State → Prop} {A : Nat → Prop} (hx : p.tables.exec = Jvm.exec) (hb : c.code = cX0_lineEndsFrom) (hts : ∀ x ∈ wsX0_lineEndsFrom, x.before args s = true) (hown : s.vm.findClass RX0 = some m.cls) (hml : c.maxLocals = 4) (hP : va_P D vwCl (dkW cA q0 q1 (rg, tt, tk, en, ki, os)) H) (hK : va_K D vwCl [(cA, .byte)] s) (hD : va_D A (dkW cA q0 q1 (rg, tt, tk, en, ki, os)))
    (hex : ∀ (ls : Array Slot) (pos : Int32), lv_has ls 4 [(3, .int pos), (2, .int r), (0, .ref q0), (1, .int x1)] → W p l e { frames := 1, cells := 0, slots := 0, locals := 22 } s m args below meth c H locs 0 0 Q (F0 m 31 ls [])) :
    ∀ (n i : Nat) (acc pos : Int32) (ls : Array Slot), pos = nI i → tt = nI (i + n) → i + n < 2 ^ 31 → dk_les (rg, tt, tk, en, ki, os) acc pos n = r → lv_has ls 4 [(3, .int pos), (2, .int acc), (0, .ref q0), (1, .int x1)] → W p l e { frames := 1, cells := 0, slots := 0, locals := 22 } s m args below meth c H locs 0 0 Q (F0 m 4 ls []) := by
  have hin : ∀ w ∈ wsX00, w ∈ wsX0_lineEndsFrom := by decide +kernel
  have lk13 := hts (.fieldLink RX0 13 "EventLineDesk" "total" "I") (by decide +kernel)
  have lk9 := hts (.fieldLink RX0 9 "EventLineDesk" "ring" "[B") (by decide +kernel)
  intro n
  induction n with
  | zero =>
    intro i acc pos ls hp ht hlt hr9 hl
    refine lv_iload_n hx hb dX0_lineEndsFrom_4 rfl (lv_at hl 0 rfl) ?_
    refine lv_aload_n hx hb dX0_lineEndsFrom_5 rfl (lv_at hl 2 rfl) ?_
    refine va_get (D := D) (ci := 0) (v := .int tt) (C := RX0) (T := TX0) (N := 6) hx hb hts hin hown hK hP 0 rfl rfl 1 (by decide) lk13 (fun _ h9 => h9) rfl dX0_lineEndsFrom_6 ?_
    refine lv_icmp_ge (tgt := 31) hx hb dX0_lineEndsFrom_9 (by decide) (fun c1 => ?_) (fun c1 => ?_)
    · have hr9 : acc = r := hr9
      subst hr9
      exact hex ls pos hl
    · exact absurd c1 (not_not_intro (by rw [hp, ht]; exact nI_le (Nat.le_refl _) (by omega)))
  | succ n ih =>
    intro i acc pos ls hp ht hlt hr9 hl
    refine lv_iload_n hx hb dX0_lineEndsFrom_4 rfl (lv_at hl 0 rfl) ?_
    refine lv_aload_n hx hb dX0_lineEndsFrom_5 rfl (lv_at hl 2 rfl) ?_
    refine va_get (D := D) (ci := 0) (v := .int tt) (C := RX0) (T := TX0) (N := 6) hx hb hts hin hown hK hP 0 rfl rfl 1 (by decide) lk13 (fun _ h9 => h9) rfl dX0_lineEndsFrom_6 ?_
    refine lv_icmp_ge (tgt := 31) hx hb dX0_lineEndsFrom_9 (by decide) (fun c1 => ?_) (fun c1 => ?_)
    · exact absurd c1 (by rw [hp, ht]; exact nI_ge (by omega) hlt)
    · refine lv_aload_n hx hb dX0_lineEndsFrom_12 rfl (lv_at hl 2 rfl) ?_
      refine lv_iload_n hx hb dX0_lineEndsFrom_13 rfl (lv_at hl 0 rfl) ?_
      refine kk_readV (ci := 0) (q0 := 0) (rest := []) ⟨hx, hb, hml, hown, hts⟩ (cD_byteAt l D cA q0 q1 rg tt tk en ki os pos) (cwV 1 hts gX0_lineEndsFrom_X0_byteAt rfl rfl rfl (by decide +kernel) ⟨Nat.le_of_ble_eq_true rfl, Nat.le_of_ble_eq_true rfl⟩) hK hP hD rfl rfl rfl hl.1 rfl (Nat.le_of_ble_eq_true rfl) dX0_lineEndsFrom_14 ⟨Nat.zero_le _, Nat.zero_le _⟩ ?_
      refine lv_topi (fun t2 et2 => ?_)
      refine lv_bipush (v := 10) hx hb dX0_lineEndsFrom_17 (by decide) ?_
      refine lv_icmp_ne (tgt := 25) hx hb dX0_lineEndsFrom_19 (by decide) (fun c3 => ?_) (fun c3 => ?_)
      · obtain ⟨t4, et4⟩ : ∃ y : Int32, y = pos + 1 := ⟨_, rfl⟩
        refine lv_iinc (v := t4) (lv' := [(3, .int t4), (2, .int acc), (0, .ref q0), (1, .int x1)]) hx hb dX0_lineEndsFrom_25 hl (k := 0) rfl (by rw [et4]; rfl) (by decide) rfl (fun ls hl => ?_)
        refine lv_goto (tgt := 4) hx hb dX0_lineEndsFrom_28 (by decide) ?_
        refine ih (i + 1) acc t4 ls (by rw [et4, hp]; exact nI_1 i) (by rw [ht]; congr 1; omega) (by omega) ?_ (lv_sub hl [0, 1, 2, 3] rfl)
        rw [← hr9]
        subst et4 et2
        simp only [dk_les, if_pos c3]
      · obtain ⟨t5, et5⟩ : ∃ y : Int32, y = acc + 1 := ⟨_, rfl⟩
        refine lv_iinc (v := t5) (lv' := [(2, .int t5), (3, .int pos), (0, .ref q0), (1, .int x1)]) hx hb dX0_lineEndsFrom_22 hl (k := 1) rfl (by rw [et5]; rfl) (by decide) rfl (fun ls hl => ?_)
        obtain ⟨t6, et6⟩ : ∃ y : Int32, y = pos + 1 := ⟨_, rfl⟩
        refine lv_iinc (v := t6) (lv' := [(3, .int t6), (2, .int t5), (0, .ref q0), (1, .int x1)]) hx hb dX0_lineEndsFrom_25 hl (k := 1) rfl (by rw [et6]; rfl) (by decide) rfl (fun ls hl => ?_)
        refine lv_goto (tgt := 4) hx hb dX0_lineEndsFrom_28 (by decide) ?_
        refine ih (i + 1) t5 t6 ls (by rw [et6, hp]; exact nI_1 i) (by rw [ht]; congr 1; omega) (by omega) ?_ (lv_sub hl [0, 1, 2, 3] rfl)
        rw [← hr9]
        subst et6 et5 et2
        simp only [dk_les, if_neg (not_not_intro c3)]
set_option maxHeartbeats 4000000 in
set_option maxRecDepth 100000 in
theorem cD_lineEndsFrom (l : Launch) (D : va_G) (cA : ClassId) (q0 q1 : Nat) (rg : Nat → Int32) (tt tk en ki os : Int32) (x1 : Int32) (hy : dk_rng x1 tt) : dkR l yX0_lineEndsFrom wsX0_lineEndsFrom ({ frames := 1, cells := 0, slots := 0, locals := 22 }) D cA q0 q1 (rg, tt, tk, en, ki, os) [.int x1] (dk_lef (rg, tt, tk, en, ki, os) x1) := by
  refine kk_of (cc := cX0_lineEndsFrom) (maxL := 4) (ret := (some .int)) (by decide) rfl (Nat.le_of_ble_eq_true rfl) ?_
  intro p e s m below meth c ls hx hb hr hts hown hlocks hml hnm hP hK hD hl
  have hown : s.vm.findClass RX0 = some m.cls := hown
  have hl : lv_has ls 4 [(0, .ref q0), (1, .int x1)] := hl
  have hin : ∀ w ∈ wsX00, w ∈ wsX0_lineEndsFrom := by decide +kernel
  have lk13 := hts (.fieldLink RX0 13 "EventLineDesk" "total" "I") (by decide +kernel)
  refine lv_iconst (v := 0) hx hb dX0_lineEndsFrom_0 (by decide) ?_
  refine lv_istore_n (lv' := [(2, .int 0), (0, .ref q0), (1, .int x1)]) hx hb dX0_lineEndsFrom_1 rfl hl (by decide) rfl (fun ls hl => ?_)
  refine lv_iload_n hx hb dX0_lineEndsFrom_2 rfl (lv_at hl 2 rfl) ?_
  refine lv_istore_n (lv' := [(3, .int x1), (2, .int 0), (0, .ref q0), (1, .int x1)]) hx hb dX0_lineEndsFrom_3 rfl hl (by decide) rfl (fun ls hl => ?_)
  obtain ⟨i, n, hi, hn, hlt⟩ := hy
  refine cD_lesLoop l D cA q0 q1 rg tt tk en ki os x1 (dk_les (rg, tt, tk, en, ki, os) 0 x1 n) hx hb hts hown hml hP hK hD (fun ls pos hl => ?_) n i 0 x1 ls hi hn hlt rfl (lv_sub hl [0, 1, 2, 3] rfl)
  have hq : dk_les (rg, tt, tk, en, ki, os) 0 x1 n = dk_lef (rg, tt, tk, en, ki, os) x1 := by rw [hi]; exact (dk_lefN hn hlt).symm
  rw [hq] at hl
  refine lv_iload_n hx hb dX0_lineEndsFrom_31 rfl (lv_at hl 1 rfl) ?_
  have hres : (dk_lef (rg, tt, tk, en, ki, os) x1) = dk_lef (rg, tt, tk, en, ki, os) x1 := by
    first | rfl | (simp only [dk_lef]; done) | (simp [dk_lef]; done)
  exact W.iret (v := (dk_lef (rg, tt, tk, en, ki, os) x1)) hx hb hr (fun t ht hW => ⟨congrArg (fun z => Outcome.returned (some (Value.int z))) hres, ht⟩) (fun q h => absurd h List.not_mem_nil) dX0_lineEndsFrom_32
set_option maxHeartbeats 4000000 in
set_option maxRecDepth 100000 in
theorem cD_back (l : Launch) (D : va_G) (cA : ClassId) (q0 q1 : Nat) (rg : Nat → Int32) (tt tk en ki os : Int32) (x1 : Int32) (hb0 : dk_rng tk tt) : dkI l yX0_back wsX0_back ({ frames := 2, cells := 0, slots := 0, locals := 45 }) D cA q0 q1 (rg, tt, tk, en, ki, os) [.int x1] (dk_back (rg, tt, tk, en, ki, os) x1).1 (dk_back (rg, tt, tk, en, ki, os) x1).2 := by
  refine kk_of (cc := cX0_back) (maxL := 2) (ret := (some .boolean)) (by decide) rfl (Nat.le_of_ble_eq_true rfl) ?_
  intro p e s m below meth c ls hx hb hr hts hown hlocks hml hnm hP hK hD hl
  have hown : s.vm.findClass RX0 = some m.cls := hown
  have hl : lv_has ls 2 [(0, .ref q0), (1, .int x1)] := hl
  have hin : ∀ w ∈ wsX00, w ∈ wsX0_back := by decide +kernel
  have lk17 := hts (.fieldLink RX0 17 "EventLineDesk" "taken" "I") (by decide +kernel)
  have lk13 := hts (.fieldLink RX0 13 "EventLineDesk" "total" "I") (by decide +kernel)
  have lk20 := hts (.fieldLink RX0 20 "EventLineDesk" "endedLines" "I") (by decide +kernel)
  have lk23 := hts (.fieldLink RX0 23 "EventLineDesk" "openKind" "I") (by decide +kernel)
  generalize hAe : kk_A (dkW cA q0 q1 (rg, tt, tk, en, ki, os)) = A at hD ⊢
  have hS : va_S A s.heap s.heap [] := va_S.rf
  refine lv_iload_n hx hb dX0_back_0 rfl (lv_at hl 1 rfl) ?_
  refine lv_aload_n hx hb dX0_back_1 rfl (lv_at hl 0 rfl) ?_
  refine va_get (D := D) (ci := 0) (v := .int tk) (C := RX0) (T := TX0) (N := 6) hx hb hts hin hown hK hP 0 rfl rfl 2 (by decide) lk17 (fun _ h9 => h9) rfl dX0_back_2 ?_
  refine lv_icmp_lt (tgt := 24) hx hb dX0_back_5 (by decide) (fun c1 => ?_) (fun c1 => ?_)
  · refine lv_iconst (v := 0) hx hb dX0_back_24 (by decide) ?_
    have hres : 0 = (dk_back (rg, tt, tk, en, ki, os) x1).1 := by
      first | rfl | (simp only [dk_back, dk_b2, if_pos c1]; done) | (simp [dk_back, dk_b2, if_pos c1]; done)
    have hre2 : (rg, tt, tk, en, ki, os) = (dk_back (rg, tt, tk, en, ki, os) x1).2 := by
      first | rfl | (simp only [dk_back, dk_b2, if_pos c1]; done) | (simp [dk_back, dk_b2, if_pos c1]; done)
    exact W.zret (v := 0) (ty := .boolean) hx hb hr rfl (fun t ht hW => ⟨⟨0, (rg, tt, tk, en, ki, os), rfl, ⟨hres, hre2⟩, by show va_P D vwCl _ t.heap; rw [ht]; exact hP⟩, hS.F ht⟩) hS.2.2 dX0_back_25
  · refine lv_iload_n hx hb dX0_back_8 rfl (lv_at hl 1 rfl) ?_
    refine lv_aload_n hx hb dX0_back_9 rfl (lv_at hl 0 rfl) ?_
    refine va_get (D := D) (ci := 0) (v := .int tt) (C := RX0) (T := TX0) (N := 6) hx hb hts hin hown hK hP 0 rfl rfl 1 (by decide) lk13 (fun _ h9 => h9) rfl dX0_back_10 ?_
    refine lv_icmp_gt (tgt := 24) hx hb dX0_back_13 (by decide) (fun c2 => ?_) (fun c2 => ?_)
    · refine lv_iconst (v := 0) hx hb dX0_back_24 (by decide) ?_
      have hres : 0 = (dk_back (rg, tt, tk, en, ki, os) x1).1 := by
        first | rfl | (simp only [dk_back, dk_b2, if_neg c1, if_pos c2]; done) | (simp [dk_back, dk_b2, if_neg c1, if_pos c2]; done)
      have hre2 : (rg, tt, tk, en, ki, os) = (dk_back (rg, tt, tk, en, ki, os) x1).2 := by
        first | rfl | (simp only [dk_back, dk_b2, if_neg c1, if_pos c2]; done) | (simp [dk_back, dk_b2, if_neg c1, if_pos c2]; done)
      exact W.zret (v := 0) (ty := .boolean) hx hb hr rfl (fun t ht hW => ⟨⟨0, (rg, tt, tk, en, ki, os), rfl, ⟨hres, hre2⟩, by show va_P D vwCl _ t.heap; rw [ht]; exact hP⟩, hS.F ht⟩) hS.2.2 dX0_back_25
    · refine lv_aload_n hx hb dX0_back_16 rfl (lv_at hl 0 rfl) ?_
      refine lv_iload_n hx hb dX0_back_17 rfl (lv_at hl 1 rfl) ?_
      refine kk_readV (ci := 0) (q0 := 0) (rest := []) ⟨hx, hb, hml, hown, hts⟩ (cD_isBetweenLines l D cA q0 q1 rg tt tk en ki os x1) (cwV 1 hts gX0_back_X0_isBetweenLines rfl rfl rfl (by decide +kernel) ⟨Nat.le_of_ble_eq_true rfl, Nat.le_of_ble_eq_true rfl⟩) hK hP hD rfl rfl rfl hl.1 rfl (Nat.le_of_ble_eq_true rfl) dX0_back_18 ⟨Nat.zero_le _, Nat.zero_le _⟩ ?_
      refine lv_topi (fun t3 et3 => ?_)
      refine lv_if_ne (tgt := 26) hx hb dX0_back_21 (by decide) (fun c4 => ?_) (fun c4 => ?_)
      · refine lv_aload_n hx hb dX0_back_26 rfl (lv_at hl 0 rfl) ?_
        refine lv_dup hx hb dX0_back_27 rfl ?_
        refine va_get (D := D) (ci := 0) (v := .int en) (C := RX0) (T := TX0) (N := 6) hx hb hts hin hown hK hP 0 rfl rfl 3 (by decide) lk20 (fun _ h9 => h9) rfl dX0_back_28 ?_
        refine lv_aload_n hx hb dX0_back_31 rfl (lv_at hl 0 rfl) ?_
        refine lv_iload_n hx hb dX0_back_32 rfl (lv_at hl 1 rfl) ?_
        refine kk_readV (ci := 0) (q0 := 0) (rest := [.int en, .ref q0]) ⟨hx, hb, hml, hown, hts⟩ (cD_lineEndsFrom l D cA q0 q1 rg tt tk en ki os x1 (dk_mid hb0 c1 c2)) (cwV 1 hts gX0_back_X0_lineEndsFrom rfl rfl rfl (by decide +kernel) ⟨Nat.le_of_ble_eq_true rfl, Nat.le_of_ble_eq_true rfl⟩) hK hP hD rfl rfl rfl hl.1 rfl (Nat.le_of_ble_eq_true rfl) dX0_back_33 ⟨Nat.zero_le _, Nat.zero_le _⟩ ?_
        refine lv_topi (fun t5 et5 => ?_)
        refine lv_isub hx hb dX0_back_36 ?_
        refine lv_topi (fun t6 et6 => ?_)
        refine va_put (D := D) (ci := 0) (v := .int t6) (ty := .int) (C := RX0) (T := TX0) (N := 6) hx hb hts hin tyX0 tyX0_ok nmX0 hown hK hP hD hS 0 rfl rfl 3 (by decide) lk20 (fun _ h9 => h9) rfl (by decide +kernel) rfl rfl (Nat.le_of_ble_eq_true rfl) dX0_back_37 (fun H locs hP hD hS => ?_)
        have hP : va_P D vwCl (dkW cA q0 q1 (rg, tt, tk, t6, ki, os)) H := hP
        have hD : va_D A (dkW cA q0 q1 (rg, tt, tk, t6, ki, os)) := hD
        refine lv_aload_n hx hb dX0_back_40 rfl (lv_at hl 0 rfl) ?_
        refine lv_iload_n hx hb dX0_back_41 rfl (lv_at hl 1 rfl) ?_
        refine va_put (D := D) (ci := 0) (v := .int x1) (ty := .int) (C := RX0) (T := TX0) (N := 6) hx hb hts hin tyX0 tyX0_ok nmX0 hown hK hP hD hS 0 rfl rfl 1 (by decide) lk13 (fun _ h9 => h9) rfl (by decide +kernel) rfl rfl (Nat.le_of_ble_eq_true rfl) dX0_back_42 (fun H locs hP hD hS => ?_)
        have hP : va_P D vwCl (dkW cA q0 q1 (rg, x1, tk, t6, ki, os)) H := hP
        have hD : va_D A (dkW cA q0 q1 (rg, x1, tk, t6, ki, os)) := hD
        refine lv_aload_n hx hb dX0_back_45 rfl (lv_at hl 0 rfl) ?_
        refine lv_iconst (v := (-1)) hx hb dX0_back_46 (by decide) ?_
        refine va_put (D := D) (ci := 0) (v := .int (-1)) (ty := .int) (C := RX0) (T := TX0) (N := 6) hx hb hts hin tyX0 tyX0_ok nmX0 hown hK hP hD hS 0 rfl rfl 4 (by decide) lk23 (fun _ h9 => h9) rfl (by decide +kernel) rfl rfl (Nat.le_of_ble_eq_true rfl) dX0_back_47 (fun H locs hP hD hS => ?_)
        have hP : va_P D vwCl (dkW cA q0 q1 (rg, x1, tk, t6, (-1), os)) H := hP
        have hD : va_D A (dkW cA q0 q1 (rg, x1, tk, t6, (-1), os)) := hD
        refine lv_iconst (v := 1) hx hb dX0_back_50 (by decide) ?_
        have hres : 1 = (dk_back (rg, tt, tk, en, ki, os) x1).1 := by
          subst et6 et5 et3
          first | rfl | (simp only [dk_back, dk_b2, if_neg c1, if_neg c2, if_pos c4]; done) | (simp [dk_back, dk_b2, if_neg c1, if_neg c2, if_pos c4]; done)
        have hre2 : (rg, x1, tk, t6, (-1), os) = (dk_back (rg, tt, tk, en, ki, os) x1).2 := by
          subst et6 et5 et3
          first | rfl | (simp only [dk_back, dk_b2, if_neg c1, if_neg c2, if_pos c4]; done) | (simp [dk_back, dk_b2, if_neg c1, if_neg c2, if_pos c4]; done)
        exact W.zret (v := 1) (ty := .boolean) hx hb hr rfl (fun t ht hW => ⟨⟨1, (rg, x1, tk, t6, (-1), os), rfl, ⟨hres, hre2⟩, by show va_P D vwCl _ t.heap; rw [ht]; exact hP⟩, hS.F ht⟩) hS.2.2 dX0_back_51
      · refine lv_iconst (v := 0) hx hb dX0_back_24 (by decide) ?_
        have hres : 0 = (dk_back (rg, tt, tk, en, ki, os) x1).1 := by
          subst et3
          first | rfl | (simp only [dk_back, dk_b2, if_neg c1, if_neg c2, if_neg (not_not_intro c4)]; done) | (simp [dk_back, dk_b2, if_neg c1, if_neg c2, if_neg (not_not_intro c4)]; done)
        have hre2 : (rg, tt, tk, en, ki, os) = (dk_back (rg, tt, tk, en, ki, os) x1).2 := by
          subst et3
          first | rfl | (simp only [dk_back, dk_b2, if_neg c1, if_neg c2, if_neg (not_not_intro c4)]; done) | (simp [dk_back, dk_b2, if_neg c1, if_neg c2, if_neg (not_not_intro c4)]; done)
        exact W.zret (v := 0) (ty := .boolean) hx hb hr rfl (fun t ht hW => ⟨⟨0, (rg, tt, tk, en, ki, os), rfl, ⟨hres, hre2⟩, by show va_P D vwCl _ t.heap; rw [ht]; exact hP⟩, hS.F ht⟩) hS.2.2 dX0_back_25
set_option maxHeartbeats 4000000 in
set_option maxRecDepth 100000 in
theorem cD_takeLoop (l : Launch) (D : va_G) (cA : ClassId) (q0 q1 : Nat) (rg : Nat → Int32) (tt tk en ki os : Int32) (sz : Int32) (r : Int64) {p : Program} {e : Env} {s : State} {m : MethodId} {below : List Frame} {meth : Method} {c : Code} {args : Array Value} {H : Heap} {locs : List Loc} {Q : State → Prop} {A : Nat → Prop} (hx : p.tables.exec = Jvm.exec) (hb : c.code = cX0_take) (hts : ∀ x ∈ wsX0_take, x.before args s = true) (hown : s.vm.findClass RX0 = some m.cls) (hml : c.maxLocals = 5) (hP : va_P D vwCl (dkW cA q0 q1 (rg, tt, tk, en, ki, os)) H) (hK : va_K D vwCl [(cA, .byte)] s) (hD : va_D A (dkW cA q0 q1 (rg, tt, tk, en, ki, os)))
    (hex : ∀ (ls : Array Slot) (i : Int32), lv_has ls 5 [(4, .int i), (2, .long r), (1, .int sz), (0, .ref q0)] → W p l e { frames := 1, cells := 0, slots := 0, locals := 22 } s m args below meth c H locs 0 0 Q (F0 m 68 ls [])) :
    ∀ (n j : Nat) (acc : Int64) (i : Int32) (ls : Array Slot), i = nI j → j + n = 7 → dk_pc (rg, tt, tk, en, ki, os) sz acc i n = r → lv_has ls 5 [(4, .int i), (2, .long acc), (1, .int sz), (0, .ref q0)] → W p l e { frames := 1, cells := 0, slots := 0, locals := 22 } s m args below meth c H locs 0 0 Q (F0 m 27 ls []) := by
  have hin : ∀ w ∈ wsX00, w ∈ wsX0_take := by decide +kernel
  have lk17 := hts (.fieldLink RX0 17 "EventLineDesk" "taken" "I") (by decide +kernel)
  have lk23 := hts (.fieldLink RX0 23 "EventLineDesk" "openKind" "I") (by decide +kernel)
  have lk13 := hts (.fieldLink RX0 13 "EventLineDesk" "total" "I") (by decide +kernel)
  have lk26 := hts (.fieldLink RX0 26 "EventLineDesk" "openStart" "I") (by decide +kernel)
  have lk9 := hts (.fieldLink RX0 9 "EventLineDesk" "ring" "[B") (by decide +kernel)
  intro n
  induction n with
  | zero =>
    intro j acc i ls hp hj hr9 hl
    refine lv_iload hx hb dX0_take_27 (lv_at hl 0 rfl) ?_
    refine lv_bipush (v := 7) hx hb dX0_take_29 (by decide) ?_
    refine lv_icmp_ge (tgt := 68) hx hb dX0_take_31 (by decide) (fun c1 => ?_) (fun c1 => ?_)
    · have hr9 : acc = r := hr9
      subst hr9
      exact hex ls i hl
    · exact absurd c1 (not_not_intro (by rw [hp, show j = 7 by omega]; decide))
  | succ n ih =>
    intro j acc i ls hp hj hr9 hl
    refine lv_iload hx hb dX0_take_27 (lv_at hl 0 rfl) ?_
    refine lv_bipush (v := 7) hx hb dX0_take_29 (by decide) ?_
    refine lv_icmp_ge (tgt := 68) hx hb dX0_take_31 (by decide) (fun c1 => ?_) (fun c1 => ?_)
    · exact absurd c1 (by rw [hp]; exact nI_ge (b := 7) (by omega) (by decide))
    · refine lv_lload_n hx hb dX0_take_34 rfl (lv_at hl 1 rfl) ?_
      refine lv_bipush (v := 8) hx hb dX0_take_35 (by decide) ?_
      refine lv_lshl hx hb dX0_take_37 rfl ?_
      refine lv_topl (fun t2 et2 => ?_)
      refine lv_iload hx hb dX0_take_38 (lv_at hl 0 rfl) ?_
      refine lv_iload_n hx hb dX0_take_40 rfl (lv_at hl 2 rfl) ?_
      refine lv_icmp_ge (tgt := 58) hx hb dX0_take_41 (by decide) (fun c3 => ?_) (fun c3 => ?_)
      · refine lv_iconst (v := 0) hx hb dX0_take_58 (by decide) ?_
        refine lv_i2l hx hb dX0_take_59 rfl ?_
        refine lv_topl (fun t4 et4 => ?_)
        refine lv_lor hx hb dX0_take_60 ?_
        refine lv_topl (fun t5 et5 => ?_)
        refine lv_lstore_n (lv' := [(2, .long t5), (4, .int i), (1, .int sz), (0, .ref q0)]) hx hb dX0_take_61 rfl hl (by decide) rfl (fun ls hl => ?_)
        obtain ⟨t6, et6⟩ : ∃ y : Int32, y = i + 1 := ⟨_, rfl⟩
        refine lv_iinc (v := t6) (lv' := [(4, .int t6), (2, .long t5), (1, .int sz), (0, .ref q0)]) hx hb dX0_take_62 hl (k := 1) rfl (by rw [et6]; rfl) (by decide) rfl (fun ls hl => ?_)
        refine lv_goto (tgt := 27) hx hb dX0_take_65 (by decide) ?_
        refine ih (j + 1) t5 t6 ls (by rw [et6, hp]; exact nI_1 j) (by omega) ?_ (lv_sub hl [0, 1, 2, 3] rfl)
        rw [← hr9]
        subst et6 et5 et4 et2
        simp only [dk_pc, if_pos c3]
      · refine lv_aload_n hx hb dX0_take_44 rfl (lv_at hl 3 rfl) ?_
        refine lv_aload_n hx hb dX0_take_45 rfl (lv_at hl 3 rfl) ?_
        refine va_get (D := D) (ci := 0) (v := .int tk) (C := RX0) (T := TX0) (N := 6) hx hb hts hin hown hK hP 0 rfl rfl 2 (by decide) lk17 (fun _ h9 => h9) rfl dX0_take_46 ?_
        refine lv_iload hx hb dX0_take_49 (lv_at hl 0 rfl) ?_
        refine lv_iadd hx hb dX0_take_51 ?_
        refine lv_topi (fun t7 et7 => ?_)
        refine kk_readV (ci := 0) (q0 := 0) (rest := [.long t2]) ⟨hx, hb, hml, hown, hts⟩ (cD_byteAt l D cA q0 q1 rg tt tk en ki os t7) (cwV 1 hts gX0_take_X0_byteAt rfl rfl rfl (by decide +kernel) ⟨Nat.le_of_ble_eq_true rfl, Nat.le_of_ble_eq_true rfl⟩) hK hP hD rfl rfl rfl hl.1 rfl (Nat.le_of_ble_eq_true rfl) dX0_take_52 ⟨Nat.zero_le _, Nat.zero_le _⟩ ?_
        refine lv_topi (fun t8 et8 => ?_)
        refine lv_goto (tgt := 59) hx hb dX0_take_55 (by decide) ?_
        refine lv_i2l hx hb dX0_take_59 rfl ?_
        refine lv_topl (fun t9 et9 => ?_)
        refine lv_lor hx hb dX0_take_60 ?_
        refine lv_topl (fun t10 et10 => ?_)
        refine lv_lstore_n (lv' := [(2, .long t10), (4, .int i), (1, .int sz), (0, .ref q0)]) hx hb dX0_take_61 rfl hl (by decide) rfl (fun ls hl => ?_)
        obtain ⟨t11, et11⟩ : ∃ y : Int32, y = i + 1 := ⟨_, rfl⟩
        refine lv_iinc (v := t11) (lv' := [(4, .int t11), (2, .long t10), (1, .int sz), (0, .ref q0)]) hx hb dX0_take_62 hl (k := 1) rfl (by rw [et11]; rfl) (by decide) rfl (fun ls hl => ?_)
        refine lv_goto (tgt := 27) hx hb dX0_take_65 (by decide) ?_
        refine ih (j + 1) t10 t11 ls (by rw [et11, hp]; exact nI_1 j) (by omega) ?_ (lv_sub hl [0, 1, 2, 3] rfl)
        rw [← hr9]
        subst et11 et10 et9 et8 et7 et2
        simp only [dk_pc, if_neg c3]
set_option maxHeartbeats 4000000 in
set_option maxRecDepth 100000 in
theorem cD_take (l : Launch) (D : va_G) (cA : ClassId) (q0 q1 : Nat) (rg : Nat → Int32) (tt tk en ki os : Int32)  : dkL l yX0_take wsX0_take ({ frames := 1, cells := 0, slots := 0, locals := 22 }) D cA q0 q1 (rg, tt, tk, en, ki, os) [] (dk_take (rg, tt, tk, en, ki, os)).1 (dk_take (rg, tt, tk, en, ki, os)).2 := by
  refine kk_of (cc := cX0_take) (maxL := 5) (ret := (some .long)) (by decide) rfl (Nat.le_of_ble_eq_true rfl) ?_
  intro p e s m below meth c ls hx hb hr hts hown hlocks hml hnm hP hK hD hl
  have hown : s.vm.findClass RX0 = some m.cls := hown
  have hl : lv_has ls 5 [(0, .ref q0)] := hl
  have hin : ∀ w ∈ wsX00, w ∈ wsX0_take := by decide +kernel
  have lk17 := hts (.fieldLink RX0 17 "EventLineDesk" "taken" "I") (by decide +kernel)
  generalize hAe : kk_A (dkW cA q0 q1 (rg, tt, tk, en, ki, os)) = A at hD ⊢
  have hS : va_S A s.heap s.heap [] := va_S.rf
  refine lv_aload_n hx hb dX0_take_0 rfl (lv_at hl 0 rfl) ?_
  refine kk_readV (ci := 0) (q0 := 0) (rest := []) ⟨hx, hb, hml, hown, hts⟩ (cD_endOfEndedLines l D cA q0 q1 rg tt tk en ki os) (cwV 0 hts gX0_take_X0_endOfEndedLines rfl rfl rfl (by decide +kernel) ⟨Nat.le_of_ble_eq_true rfl, Nat.le_of_ble_eq_true rfl⟩) hK hP hD rfl rfl rfl hl.1 rfl (Nat.le_of_ble_eq_true rfl) dX0_take_1 ⟨Nat.zero_le _, Nat.zero_le _⟩ ?_
  refine lv_topi (fun t1 et1 => ?_)
  refine lv_aload_n hx hb dX0_take_4 rfl (lv_at hl 0 rfl) ?_
  refine va_get (D := D) (ci := 0) (v := .int tk) (C := RX0) (T := TX0) (N := 6) hx hb hts hin hown hK hP 0 rfl rfl 2 (by decide) lk17 (fun _ h9 => h9) rfl dX0_take_5 ?_
  refine lv_isub hx hb dX0_take_8 ?_
  refine lv_topi (fun t2 et2 => ?_)
  refine lv_bipush (v := 7) hx hb dX0_take_9 (by decide) ?_
  refine va_mmin hx hb (hml.trans hl.1.symm) hown (hts (.methodLink RX0 63 Lib.Math.min.name) (by decide +kernel)) (hts (.static Lib.Math.min.name) (by decide +kernel)) (hts (.initialized "java/lang/Math") (by decide +kernel)) (hts (.code Lib.Math.min.name Lib.Math.min.code 2 (some .int)) (List.mem_of_getElem? (i := 5) rfl)) (Nat.le_of_ble_eq_true rfl) (Nat.le_of_ble_eq_true rfl) (Nat.zero_le _) (Nat.zero_le _) dX0_take_11 ?_
  refine lv_topi (fun t3 et3 => ?_)
  refine lv_istore_n (lv' := [(1, .int t3), (0, .ref q0)]) hx hb dX0_take_14 rfl hl (by decide) rfl (fun ls hl => ?_)
  refine lv_iload_n hx hb dX0_take_15 rfl (lv_at hl 0 rfl) ?_
  refine lv_if_gt (tgt := 21) hx hb dX0_take_16 (by decide) (fun c4 => ?_) (fun c4 => ?_)
  · refine lv_iload_n hx hb dX0_take_21 rfl (lv_at hl 0 rfl) ?_
    refine lv_i2l hx hb dX0_take_22 rfl ?_
    refine lv_topl (fun t5 et5 => ?_)
    refine lv_lstore_n (lv' := [(2, .long t5), (1, .int t3), (0, .ref q0)]) hx hb dX0_take_23 rfl hl (by decide) rfl (fun ls hl => ?_)
    refine lv_iconst (v := 0) hx hb dX0_take_24 (by decide) ?_
    refine lv_istore (lv' := [(4, .int 0), (2, .long t5), (1, .int t3), (0, .ref q0)]) hx hb dX0_take_25 hl (by decide) rfl (fun ls hl => ?_)
    refine cD_takeLoop l D cA q0 q1 rg tt tk en ki os t3 (dk_pc (rg, tt, tk, en, ki, os) t3 t5 0 7) hx hb hts hown hml hP hK hD (fun ls i hl => ?_) 7 0 t5 0 ls nI_0.symm rfl rfl (lv_sub hl [0, 1, 2, 3] rfl)
    obtain ⟨t6, et6⟩ : ∃ y : Int64, y = dk_pc (rg, tt, tk, en, ki, os) t3 t5 0 7 := ⟨_, rfl⟩
    rw [← et6] at hl
    refine lv_aload_n hx hb dX0_take_68 rfl (lv_at hl 3 rfl) ?_
    refine lv_dup hx hb dX0_take_69 rfl ?_
    refine va_get (D := D) (ci := 0) (v := .int tk) (C := RX0) (T := TX0) (N := 6) hx hb hts hin hown hK hP 0 rfl rfl 2 (by decide) lk17 (fun _ h9 => h9) rfl dX0_take_70 ?_
    refine lv_iload_n hx hb dX0_take_73 rfl (lv_at hl 2 rfl) ?_
    refine lv_iadd hx hb dX0_take_74 ?_
    refine lv_topi (fun t7 et7 => ?_)
    refine va_put (D := D) (ci := 0) (v := .int t7) (ty := .int) (C := RX0) (T := TX0) (N := 6) hx hb hts hin tyX0 tyX0_ok nmX0 hown hK hP hD hS 0 rfl rfl 2 (by decide) lk17 (fun _ h9 => h9) rfl (by decide +kernel) rfl rfl (Nat.le_of_ble_eq_true rfl) dX0_take_75 (fun H locs hP hD hS => ?_)
    have hP : va_P D vwCl (dkW cA q0 q1 (rg, tt, t7, en, ki, os)) H := hP
    have hD : va_D A (dkW cA q0 q1 (rg, tt, t7, en, ki, os)) := hD
    refine lv_lload_n hx hb dX0_take_78 rfl (lv_at hl 1 rfl) ?_
    have hres : t6 = (dk_take (rg, tt, tk, en, ki, os)).1 := by
      subst et7 et6 et5 et3 et2 et1
      first | rfl | (simp only [dk_take, dk_sz, if_pos c4]; done) | (simp [dk_take, dk_sz, if_pos c4]; done)
    have hre2 : (rg, tt, t7, en, ki, os) = (dk_take (rg, tt, tk, en, ki, os)).2 := by
      subst et7 et6 et5 et3 et2 et1
      first | rfl | (simp only [dk_take, dk_sz, if_pos c4]; done) | (simp [dk_take, dk_sz, if_pos c4]; done)
    exact W.lret (v := t6) hx hb hr (fun t ht hW => ⟨⟨t6, (rg, tt, t7, en, ki, os), rfl, ⟨hres, hre2⟩, by show va_P D vwCl _ t.heap; rw [ht]; exact hP⟩, hS.F ht⟩) hS.2.2 dX0_take_79
  · refine lv_lconst (v := 0) hx hb dX0_take_19 (by decide) ?_
    have hres : 0 = (dk_take (rg, tt, tk, en, ki, os)).1 := by
      subst et3 et2 et1
      first | rfl | (simp only [dk_take, dk_sz, if_neg c4]; done) | (simp [dk_take, dk_sz, if_neg c4]; done)
    have hre2 : (rg, tt, tk, en, ki, os) = (dk_take (rg, tt, tk, en, ki, os)).2 := by
      subst et3 et2 et1
      first | rfl | (simp only [dk_take, dk_sz, if_neg c4]; done) | (simp [dk_take, dk_sz, if_neg c4]; done)
    exact W.lret (v := 0) hx hb hr (fun t ht hW => ⟨⟨0, (rg, tt, tk, en, ki, os), rfl, ⟨hres, hre2⟩, by show va_P D vwCl _ t.heap; rw [ht]; exact hP⟩, hS.F ht⟩) hS.2.2 dX0_take_20
end
section
set_option maxHeartbeats 4000000 in
set_option maxRecDepth 100000 in
theorem cD_init (l : Launch) (D : va_G) (q0 sz : Nat) : Met l yX0_init wsX0_init ({ frames := 1, cells := 1, slots := 4096, locals := 12 }) (va_Pc [.ref q0] (fun U => U.heap.size = sz ∧ va_P D vwCl [(q0, .inr (0, [.null, .int 0, .int 0, .int 0, .int 0, .int 0]))] U.heap ∧ va_K D vwCl [] U ∧ va_D (fun _ => True) [(q0, .inr (0, [.null, .int 0, .int 0, .int 0, .int 0, .int 0]))])) (va_Qv (fun _ : ClassId × Nat => True) (fun (u : ClassId × Nat) t => va_P D vwCl [(q0, .inr (0, [.ref u.2, .int 0, .int 0, .int 0, .int (-1), .int 0])), (u.2, .inl (u.1, 4096, .inl (fun _ => 0)))] t.heap ∧ va_K D vwCl [(u.1, .byte)] t ∧ va_D (va_A [(q0, .inr (0, [.null, .int 0, .int 0, .int 0, .int 0, .int 0]))] sz) [(q0, .inr (0, [.ref u.2, .int 0, .int 0, .int 0, .int (-1), .int 0])), (u.2, .inl (u.1, 4096, .inl (fun _ => 0)))]) (va_A [(q0, .inr (0, [.null, .int 0, .int 0, .int 0, .int 0, .int 0]))] sz)) 1 4096 (va_A [(q0, .inr (0, [.null, .int 0, .int 0, .int 0, .int 0, .int 0]))] sz) := by
  refine Met.ofW (cc := cX0_init) (maxL := 1) (ret := none) (by decide) rfl ?_
  intro p e s m args below meth c s₁ B hml hv
  obtain ⟨rfl, hsz, hP, hK, hD0⟩ := hv
  have hx := B.exec
  have hb := B.bytes
  have hr := B.returns
  have hts := atoms_spec (ws := wsX0_init) B.pre
  have hown : s.vm.findClass RX0 = some m.cls := findClass_of_methodNamed B.named
  have hlocks := B.notSynchronized
  have hnm : meth.name = "<init>" := (name_of_methodNamed B.named B.method).1
  subst hsz
  have hD := hD0.self (sz := s.heap.size)
  have hin : ∀ w ∈ wsX00, w ∈ wsX0_init := by decide +kernel
  generalize hAe : va_A [(q0, .inr (0, [.null, .int 0, .int 0, .int 0, .int 0, .int 0]))] s.heap.size = A at hD ⊢
  have hA : ∀ q : Nat, s.heap.size ≤ q → A q := fun q h => by rw [← hAe]; exact Or.inr h
  have hS : va_S A s.heap s.heap [] := va_S.rf
  have hl := lv_entry ([.ref q0]) (n := 1) (Nat.le_of_ble_eq_true rfl)
  rw [lg_entry_eq]
  generalize (lg_sl ([.ref q0]) ++ List.replicate (1 - (lg_sl ([.ref q0])).length) Slot.unset).toArray = ls at hl ⊢
  have hl : lv_has ls 1 [(0, .ref q0)] := hl
  refine lv_aload_n hx hb dX0_init_0 rfl (lv_at hl 0 rfl) ?_
  refine W.objInit hx hb hown (hts (.methodLink RX0 3 objectInit) (by decide +kernel)) (hts (.instanceMethod objectInit) (by decide +kernel)) (hts (.code objectInit ⟨#[0xb1]⟩ 1 none) (List.mem_of_getElem? (i := 3) rfl)) rfl (by rw [hml]; exact hl.1) rfl dX0_init_1 (Nat.le_of_ble_eq_true rfl) (Nat.le_of_ble_eq_true rfl) ?_
  refine W.eq (g2 := F0 m 4 ls []) rfl ?_
  refine lv_aload_n hx hb dX0_init_4 rfl (lv_at hl 0 rfl) ?_
  refine lv_sipush (v := 4096) hx hb dX0_init_5 (by decide) ?_
  refine va_newa (atype := .byte) (a0 := (4096, .inl (fun _ => 0))) (N' := 4096) (ty := .byte) hx hb (hts (.arrayClass .byte) (by decide +kernel)) rfl hK hP hD hS hA (fun cA => vp_cell_i cA 4096 (fun _ => 0)) (by decide +kernel) (by decide +kernel) (by decide +kernel) (Nat.le_of_ble_eq_true rfl) (show 0 + 4096 ≤ 4096 from by decide +kernel) dX0_init_8 (fun q1 cA1 H hK hP hD hS => ?_)
  have hP : va_P D vwCl [(q0, .inr (0, [.null, .int 0, .int 0, .int 0, .int 0, .int 0])), (q1, .inl (cA1, 4096, .inl (fun _ => 0)))] H := hP
  have hD : va_D A [(q0, .inr (0, [.null, .int 0, .int 0, .int 0, .int 0, .int 0])), (q1, .inl (cA1, 4096, .inl (fun _ => 0)))] := hD
  have hK : va_K D vwCl [(cA1, .byte)] s := hK
  refine W.widen (k := 1) (n := 4096) (by omega) (by omega) ?_
  refine va_putF (D := D) (ci := 0) (v := .ref q1) (ty := .array .byte) (C := RX0) (T := TX0) (N := 6) hx hb hts hin tyX0 tyX0_ok nmX0 hown hK hP hD hS 0 rfl rfl 0 (by decide) (hts (.fieldLink RX0 9 "EventLineDesk" "ring" "[B") (by decide +kernel)) (fun _ h9 => h9) rfl hnm rfl (by decide +kernel) rfl rfl (Nat.le_of_ble_eq_true rfl) dX0_init_10 (fun H locs hP hD hS => ?_)
  have hP : va_P D vwCl [(q0, .inr (0, [.ref q1, .int 0, .int 0, .int 0, .int 0, .int 0])), (q1, .inl (cA1, 4096, .inl (fun _ => 0)))] H := hP
  have hD : va_D A [(q0, .inr (0, [.ref q1, .int 0, .int 0, .int 0, .int 0, .int 0])), (q1, .inl (cA1, 4096, .inl (fun _ => 0)))] := hD
  refine lv_aload_n hx hb dX0_init_13 rfl (lv_at hl 0 rfl) ?_
  refine lv_iconst (v := 0) hx hb dX0_init_14 (by decide) ?_
  refine va_put (D := D) (ci := 0) (v := .int 0) (ty := .int) (C := RX0) (T := TX0) (N := 6) hx hb hts hin tyX0 tyX0_ok nmX0 hown hK hP hD hS 0 rfl rfl 1 (by decide) (hts (.fieldLink RX0 13 "EventLineDesk" "total" "I") (by decide +kernel)) (fun _ h9 => h9) rfl (by decide +kernel) rfl rfl (Nat.le_of_ble_eq_true rfl) dX0_init_15 (fun H locs hP hD hS => ?_)
  have hP : va_P D vwCl [(q0, .inr (0, [.ref q1, .int 0, .int 0, .int 0, .int 0, .int 0])), (q1, .inl (cA1, 4096, .inl (fun _ => 0)))] H := hP
  have hD : va_D A [(q0, .inr (0, [.ref q1, .int 0, .int 0, .int 0, .int 0, .int 0])), (q1, .inl (cA1, 4096, .inl (fun _ => 0)))] := hD
  refine lv_aload_n hx hb dX0_init_18 rfl (lv_at hl 0 rfl) ?_
  refine lv_iconst (v := 0) hx hb dX0_init_19 (by decide) ?_
  refine va_put (D := D) (ci := 0) (v := .int 0) (ty := .int) (C := RX0) (T := TX0) (N := 6) hx hb hts hin tyX0 tyX0_ok nmX0 hown hK hP hD hS 0 rfl rfl 2 (by decide) (hts (.fieldLink RX0 17 "EventLineDesk" "taken" "I") (by decide +kernel)) (fun _ h9 => h9) rfl (by decide +kernel) rfl rfl (Nat.le_of_ble_eq_true rfl) dX0_init_20 (fun H locs hP hD hS => ?_)
  have hP : va_P D vwCl [(q0, .inr (0, [.ref q1, .int 0, .int 0, .int 0, .int 0, .int 0])), (q1, .inl (cA1, 4096, .inl (fun _ => 0)))] H := hP
  have hD : va_D A [(q0, .inr (0, [.ref q1, .int 0, .int 0, .int 0, .int 0, .int 0])), (q1, .inl (cA1, 4096, .inl (fun _ => 0)))] := hD
  refine lv_aload_n hx hb dX0_init_23 rfl (lv_at hl 0 rfl) ?_
  refine lv_iconst (v := 0) hx hb dX0_init_24 (by decide) ?_
  refine va_put (D := D) (ci := 0) (v := .int 0) (ty := .int) (C := RX0) (T := TX0) (N := 6) hx hb hts hin tyX0 tyX0_ok nmX0 hown hK hP hD hS 0 rfl rfl 3 (by decide) (hts (.fieldLink RX0 20 "EventLineDesk" "endedLines" "I") (by decide +kernel)) (fun _ h9 => h9) rfl (by decide +kernel) rfl rfl (Nat.le_of_ble_eq_true rfl) dX0_init_25 (fun H locs hP hD hS => ?_)
  have hP : va_P D vwCl [(q0, .inr (0, [.ref q1, .int 0, .int 0, .int 0, .int 0, .int 0])), (q1, .inl (cA1, 4096, .inl (fun _ => 0)))] H := hP
  have hD : va_D A [(q0, .inr (0, [.ref q1, .int 0, .int 0, .int 0, .int 0, .int 0])), (q1, .inl (cA1, 4096, .inl (fun _ => 0)))] := hD
  refine lv_aload_n hx hb dX0_init_28 rfl (lv_at hl 0 rfl) ?_
  refine lv_iconst (v := (-1)) hx hb dX0_init_29 (by decide) ?_
  refine va_put (D := D) (ci := 0) (v := .int (-1)) (ty := .int) (C := RX0) (T := TX0) (N := 6) hx hb hts hin tyX0 tyX0_ok nmX0 hown hK hP hD hS 0 rfl rfl 4 (by decide) (hts (.fieldLink RX0 23 "EventLineDesk" "openKind" "I") (by decide +kernel)) (fun _ h9 => h9) rfl (by decide +kernel) rfl rfl (Nat.le_of_ble_eq_true rfl) dX0_init_30 (fun H locs hP hD hS => ?_)
  have hP : va_P D vwCl [(q0, .inr (0, [.ref q1, .int 0, .int 0, .int 0, .int (-1), .int 0])), (q1, .inl (cA1, 4096, .inl (fun _ => 0)))] H := hP
  have hD : va_D A [(q0, .inr (0, [.ref q1, .int 0, .int 0, .int 0, .int (-1), .int 0])), (q1, .inl (cA1, 4096, .inl (fun _ => 0)))] := hD
  refine lv_aload_n hx hb dX0_init_33 rfl (lv_at hl 0 rfl) ?_
  refine lv_iconst (v := 0) hx hb dX0_init_34 (by decide) ?_
  refine va_put (D := D) (ci := 0) (v := .int 0) (ty := .int) (C := RX0) (T := TX0) (N := 6) hx hb hts hin tyX0 tyX0_ok nmX0 hown hK hP hD hS 0 rfl rfl 5 (by decide) (hts (.fieldLink RX0 26 "EventLineDesk" "openStart" "I") (by decide +kernel)) (fun _ h9 => h9) rfl (by decide +kernel) rfl rfl (Nat.le_of_ble_eq_true rfl) dX0_init_35 (fun H locs hP hD hS => ?_)
  have hP : va_P D vwCl [(q0, .inr (0, [.ref q1, .int 0, .int 0, .int 0, .int (-1), .int 0])), (q1, .inl (cA1, 4096, .inl (fun _ => 0)))] H := hP
  have hD : va_D A [(q0, .inr (0, [.ref q1, .int 0, .int 0, .int 0, .int (-1), .int 0])), (q1, .inl (cA1, 4096, .inl (fun _ => 0)))] := hD
  exact W.vret hx hb hr (fun t ht hW => ⟨⟨(cA1, q1), rfl, trivial, by rw [ht]; exact hP, va_K.moved hW.alike hK, hD⟩, hS.F ht⟩) hS.2.2 dX0_init_38
end
section
/-! the reference's state and what each of its methods does to it: (row, size, open, kind, taken, last, lines, bytes, many) -/
abbrev MSt : Type := (Nat → Int32) × Int32 × Int32 × Int32 × Int32 × Int32 × Int32 × (Nat → Int32) × Int32
def mk_put (v : MSt) (b : Int32) : MSt := (upd v.1 v.2.1.toNatClampNeg b, v.2.1 + 1, v.2.2.1 + 1, v.2.2.2)
def mk_close (v : MSt) : MSt := (upd v.1 v.2.1.toNatClampNeg 10, v.2.1 + 1, 0, -1, v.2.2.2.2)
def mk_fb (k : Int32) : Int32 := if ¬ k = 0 then (if ¬ k = 1 then (if ¬ k = 2 then (if ¬ k = 3 then 45 else 63) else 65) else 41) else 40
def mk_sk (v : MSt) (k : Int32) : MSt := (v.1, v.2.1, v.2.2.1, k, v.2.2.2.2)
def mk_start (v : MSt) (k : Int32) : MSt := if v.2.2.2.1 < 0 then mk_put (mk_sk v k) (mk_fb k) else mk_put (mk_sk (mk_close v) k) (mk_fb k)
def mk_begin (v : MSt) (k : Int32) : Int32 × MSt := if k < 0 then (0, v) else if 3 < k then (0, v) else if v.2.2.2.1 < 0 then (if v.2.1 + 0 + 2 ≤ 3000 then (1, mk_start v k) else (0, v)) else (if v.2.1 + 1 + 2 ≤ 3000 then (1, mk_start v k) else (0, v))
def mk_sb (v : MSt) (f : Nat → Int32) (n : Int32) : MSt := (v.1, v.2.1, v.2.2.1, v.2.2.2.1, v.2.2.2.2.1, v.2.2.2.2.2.1, v.2.2.2.2.2.2.1, f, n)
def mk_rem (x : Int32) : Int32 := x - x / 64 * 64
def mk_by1 (f : Nat → Int32) (c : Int32) : Nat → Int32 := upd f (0 : Int32).toNatClampNeg c
def mk_by2 (f : Nat → Int32) (c : Int32) : Nat → Int32 := upd (upd f (1 : Int32).toNatClampNeg (128 + mk_rem c)) (0 : Int32).toNatClampNeg (192 + c / 64)
def mk_by3 (f : Nat → Int32) (c : Int32) : Nat → Int32 := upd (upd (upd f (2 : Int32).toNatClampNeg (128 + mk_rem c)) (1 : Int32).toNatClampNeg (128 + mk_rem (c / 64))) (0 : Int32).toNatClampNeg (224 + c / 64 / 64)
def mk_by4 (f : Nat → Int32) (c : Int32) : Nat → Int32 := upd (upd (upd (upd f (3 : Int32).toNatClampNeg (128 + mk_rem c)) (2 : Int32).toNatClampNeg (128 + mk_rem (c / 64))) (1 : Int32).toNatClampNeg (128 + mk_rem (c / 64 / 64))) (0 : Int32).toNatClampNeg (240 + c / 64 / 64 / 64)
def mk_cm (v : MSt) (c : Int32) : MSt := if 128 ≤ c then (if 2048 ≤ c then (if 65536 ≤ c then mk_sb v (mk_by4 v.2.2.2.2.2.2.2.1 c) 4 else mk_sb v (mk_by3 v.2.2.2.2.2.2.2.1 c) 3) else mk_sb v (mk_by2 v.2.2.2.2.2.2.2.1 c) 2) else mk_sb v (mk_by1 v.2.2.2.2.2.2.2.1 c) 1
def mk_c4 (v : MSt) (o : Int32) : MSt := mk_sb v (upd (upd v.2.2.2.2.2.2.2.1 (0 : Int32).toNatClampNeg 92) (1 : Int32).toNatClampNeg o) 2
def mk_c3 (v : MSt) (c : Int32) : MSt := if ¬ c = 92 then (if ¬ c = 10 then (if ¬ c = 9 then (if ¬ c = 13 then v else mk_c4 v 114) else mk_c4 v 116) else mk_c4 v 110) else mk_c4 v 92
def mk_code (v : MSt) (c : Int32) : Int32 × MSt := if c < 0 then (0, v) else if 1114111 < c then (0, v) else if c < 55296 then (1, mk_c3 (mk_cm v c) c) else if 57344 ≤ c then (1, mk_c3 (mk_cm v c) c) else (0, v)
def mk_puts (v : MSt) (k : Int32) : Nat → MSt
  | 0 => v
  | n + 1 => mk_puts (mk_put v (v.2.2.2.2.2.2.2.1 k.toNatClampNeg)) (k + 1) n
def mk_pall (v : MSt) : MSt := mk_puts v 0 v.2.2.2.2.2.2.2.2.toNatClampNeg
def mk_add2 (q : Int32 × MSt) : Int32 × MSt := if q.1 = 0 then (0, q.2) else if q.2.2.1 + q.2.2.2.2.2.2.2.2.2 + 1 ≤ 3000 then (1, mk_pall q.2) else (0, q.2)
def mk_add (v : MSt) (c : Int32) : Int32 × MSt := if v.2.2.2.1 < 0 then (0, v) else if v.2.2.2.1 = 4 then (0, v) else mk_add2 (mk_code v c)
def mk_text3 (w : MSt) (more : Int32) : Int32 × MSt := if w.2.1 + more + w.2.2.2.2.2.2.2.2 + 1 ≤ 3000 then (if w.2.2.2.1 = 4 then (1, mk_pall w) else (1, mk_pall (mk_start w 4))) else (0, w)
def mk_text2 (q : Int32 × MSt) : Int32 × MSt := if ¬ q.1 = 0 then (if ¬ q.2.2.2.2.1 = 4 then (if q.2.2.2.2.1 < 0 then mk_text3 q.2 1 else mk_text3 q.2 2) else mk_text3 q.2 0) else (0, q.2)
def mk_text (v : MSt) (c : Int32) : Int32 × MSt := mk_text2 (mk_code v c)
def mk_end (v : MSt) : Int32 × MSt := if v.2.2.2.1 < 0 then (v.2.2.2.1, v) else (v.2.2.2.1, mk_close v)
def mk_b2 (v : MSt) (k : Int32) : MSt := (v.1, k, 0, -1, v.2.2.2.2)
def mk_back2 (v : MSt) (k : Int32) : Int32 × MSt := if k < 0 then (0, v) else if k ≤ v.2.1 then (if k ≤ 0 then (if v.2.2.2.2.2.1 = 10 then (1, mk_b2 v k) else (0, v)) else (if v.1 (k - 1).toNatClampNeg = 10 then (1, mk_b2 v k) else (0, v))) else (0, v)
def mk_back (v : MSt) (k : Int32) : Int32 × MSt := mk_back2 v (k - v.2.2.2.2.1)
def mk_mark (v : MSt) : Int32 := if v.2.2.2.1 < 0 then v.2.2.2.2.1 + v.2.1 else -1
def mk_n (v : MSt) : Int32 := if 7 ≤ v.2.1 - v.2.2.1 then 7 else v.2.1 - v.2.2.1
def mk_t1 (ro : Nat → Int32) (out : Int64) (k : Int32) : Nat → Int64
  | 0 => out
  | n + 1 => mk_t1 ro (out ||| ((ro k.toNatClampNeg).toInt64 <<< ((48 - 8 * k).toInt64 &&& 63))) (k + 1) n
def mk_cn (ro : Nat → Int32) (acc k : Int32) : Nat → Int32
  | 0 => acc
  | n + 1 => mk_cn ro (acc + (if ¬ ro k.toNatClampNeg = 10 then 0 else 1)) (k + 1) n
def mk_sh (ro : Nat → Int32) (n k : Int32) : Nat → (Nat → Int32)
  | 0 => ro
  | j + 1 => mk_sh (upd ro (k - n).toNatClampNeg (ro k.toNatClampNeg)) n (k + 1) j
def mk_tk (v : MSt) (n : Int32) : MSt := (mk_sh v.1 n n (v.2.1 - n).toNatClampNeg, v.2.1 - n, v.2.2.1, v.2.2.2.1, v.2.2.2.2.1 + n, v.1 (n - 1).toNatClampNeg, mk_cn v.1 v.2.2.2.2.2.2.1 0 n.toNatClampNeg, v.2.2.2.2.2.2.2)
def mk_take2 (v : MSt) (n : Int32) : Int64 × MSt := if ¬ n = 0 then (mk_t1 v.1 (n.toInt64 <<< ((56 : Int32).toInt64 &&& 63)) 0 n.toNatClampNeg, mk_tk v n) else (0, v)
def mk_take (v : MSt) : Int64 × MSt := mk_take2 v (mk_n v)
def mk_count (v : MSt) (k : Int32) : Int32 := if k = 0 then v.2.1 else if k = 1 then mk_cn v.1 v.2.2.2.2.2.2.1 0 v.2.1.toNatClampNeg else if k = 2 then v.2.2.2.1 else if k = 3 then v.2.2.1 else -1
def mk_ok (sz : Int32) : Prop := ∃ z : Nat, sz = nI z ∧ z ≤ 3000
def mk_ok2 (sz op : Int32) : Prop := ∃ z o : Nat, sz = nI z ∧ op = nI o ∧ o ≤ z ∧ z ≤ 3000
theorem mk_le {z c : Nat} (hz : z ≤ 3000) (hc : c ≤ 100) (h : nI z + nI c ≤ (3000 : Int32)) : z + c ≤ 3000 := by
  rw [nI_add] at h
  exact (nI_leI (b := 3000) (by omega) (by omega)).mp h
theorem mk_inA {sz : Int32} (hz : mk_ok sz) (h : sz + 0 + 2 ≤ 3000) : vp_in sz 3000 := by
  obtain ⟨z, rfl, hz⟩ := hz
  have h1 : nI z + nI 2 ≤ (3000 : Int32) := by rw [Int32.add_zero] at h; exact h
  have := mk_le hz (by omega) h1
  exact vp_in_nI (by omega) (by omega)
theorem mk_inB {sz : Int32} (hz : mk_ok sz) (h : sz + 1 + 2 ≤ 3000) : vp_in sz 3000 ∧ vp_in (sz + 1) 3000 := by
  obtain ⟨z, rfl, hz⟩ := hz
  have h1 : nI z + nI 3 ≤ (3000 : Int32) := by rw [Int32.add_assoc] at h; exact h
  have := mk_le hz (by omega) h1
  exact ⟨vp_in_nI (by omega) (by omega), by rw [nI_1]; exact vp_in_nI (by omega) (by omega)⟩
theorem mk_inK {sz k : Int32} (hz : mk_ok sz) (h1 : k ≤ sz) (h2 : ¬ k ≤ 0) : vp_in (k - 1) 3000 := by
  obtain ⟨z, rfl, hz⟩ := hz
  have h0 : ¬ k < 0 := fun q => h2 (Int32.le_of_lt q)
  obtain ⟨j, hj, rfl⟩ := nI_of h0
  have h3 : j ≤ z := (nI_leI (by omega) (by omega)).mp h1
  have h4 : j ≠ 0 := fun q => h2 (by rw [q]; decide)
  obtain ⟨i, rfl⟩ : ∃ i, j = i + 1 := ⟨j - 1, by omega⟩
  rw [nI_pred]
  exact vp_in_nI (by omega) (by omega)
theorem mk_cm_many (v : MSt) (c : Int32) : ∃ f, ∃ n : Nat, n ≤ 4 ∧ mk_cm v c = mk_sb v f (nI n) := by
  unfold mk_cm
  split
  · split
    · split
      · exact ⟨_, 4, by omega, rfl⟩
      · exact ⟨_, 3, by omega, rfl⟩
    · exact ⟨_, 2, by omega, rfl⟩
  · exact ⟨_, 1, by omega, rfl⟩
theorem mk_c3_many (v : MSt) (f : Nat → Int32) (n : Nat) (hn : n ≤ 4) (c : Int32) : ∃ g, ∃ i : Nat, i ≤ 4 ∧ mk_c3 (mk_sb v f (nI n)) c = mk_sb v g (nI i) := by
  unfold mk_c3
  split
  · split
    · split
      · split
        · exact ⟨f, n, hn, rfl⟩
        · exact ⟨_, 2, by omega, rfl⟩
      · exact ⟨_, 2, by omega, rfl⟩
    · exact ⟨_, 2, by omega, rfl⟩
  · exact ⟨_, 2, by omega, rfl⟩
/-- what 'code' leaves: it is accepted with at most 4 bytes, or nothing changes -/
theorem mk_code_many (v : MSt) (c : Int32) : mk_code v c = (0, v) ∨ ∃ f, ∃ n : Nat, n ≤ 4 ∧ mk_code v c = (1, mk_sb v f (nI n)) := by
  have hk : ∃ f, ∃ n : Nat, n ≤ 4 ∧ mk_c3 (mk_cm v c) c = mk_sb v f (nI n) := by
    obtain ⟨f, n, hn, e⟩ := mk_cm_many v c
    rw [e]
    exact mk_c3_many v f n hn c
  obtain ⟨f, n, hn, e⟩ := hk
  unfold mk_code
  rw [e]
  split
  · exact Or.inl rfl
  split
  · exact Or.inl rfl
  split
  · exact Or.inr ⟨f, n, hn, rfl⟩
  split
  · exact Or.inr ⟨f, n, hn, rfl⟩
  · exact Or.inl rfl
theorem mk_start_f (v : MSt) (k : Int32) : (v.2.2.2.1 < 0 → (mk_start v k).2.1 = v.2.1 + 1) ∧ (¬ v.2.2.2.1 < 0 → (mk_start v k).2.1 = v.2.1 + 1 + 1) ∧ (mk_start v k).2.2.2.2.2.2.2.2 = v.2.2.2.2.2.2.2.2 := by
  unfold mk_start
  by_cases h : v.2.2.2.1 < 0
  · rw [if_pos h]
    exact ⟨fun _ => rfl, fun q => absurd h q, rfl⟩
  · rw [if_neg h]
    exact ⟨fun q => absurd q h, fun _ => rfl, rfl⟩
theorem mk_nI {sz op : Int32} (h : mk_ok2 sz op) : ∃ n z : Nat, (if 7 ≤ sz - op then 7 else sz - op) = nI n ∧ sz = nI z ∧ n ≤ z ∧ z ≤ 3000 := by
  obtain ⟨z, o, rfl, rfl, h1, h2⟩ := h
  rw [pk_sub h1]
  by_cases h3 : (7 : Int32) ≤ nI (z - o)
  · rw [if_pos h3]
    have h4 : 7 ≤ z - o := (nI_leI (a := 7) (by omega) (by omega)).mp h3
    exact ⟨7, z, rfl, rfl, by omega, h2⟩
  · rw [if_neg h3]
    exact ⟨z - o, z, rfl, rfl, by omega, h2⟩
theorem mk_inN {k : Int32} {n : Nat} (h : k = nI n) (hn : n ≤ 3000) (h0 : ¬ k = 0) : vp_in (k - 1) 3000 := by
  subst h
  have h4 : n ≠ 0 := fun q => h0 (by rw [q]; decide)
  obtain ⟨i, rfl⟩ : ∃ i, n = i + 1 := ⟨n - 1, by omega⟩
  rw [nI_pred]
  exact vp_in_nI (by omega) (by omega)
end
section
abbrev mkW (cR cY : ClassId) (m0 m1 m2 : Nat) (v : MSt) : va_W := [(m0, .inr (1, [.ref m1, .int v.2.1, .int v.2.2.1, .int v.2.2.2.1, .int v.2.2.2.2.1, .int v.2.2.2.2.2.1, .int v.2.2.2.2.2.2.1, .ref m2, .int v.2.2.2.2.2.2.2.2])), (m1, .inl (cR, 3000, .inl v.1)), (m2, .inl (cY, 4, .inl v.2.2.2.2.2.2.2.1))]
abbrev mkR (l : Launch) (y : MethodName) (ws : List Cond) (rm : Room) (D : va_G) (cR cY : ClassId) (m0 m1 m2 : Nat) (v : MSt) (As : List Value) (r : Int32) : Prop := Met l y ws rm (va_Pc (.ref m0 :: As) (kk_Pre D vwCl [(cR, .int), (cY, .int)] (mkW cR cY m0 m1 m2 v))) (QcRead r) 0 0 (fun _ => False)
abbrev mkV (l : Launch) (y : MethodName) (ws : List Cond) (rm : Room) (D : va_G) (cR cY : ClassId) (m0 m1 m2 : Nat) (v : MSt) (As : List Value) (w : MSt) : Prop := Met l y ws rm (va_Pc (.ref m0 :: As) (kk_Pre D vwCl [(cR, .int), (cY, .int)] (mkW cR cY m0 m1 m2 v))) (va_Qv (fun x : MSt => x = w) (fun x t => va_P D vwCl (mkW cR cY m0 m1 m2 x) t.heap) (kk_A (mkW cR cY m0 m1 m2 v))) 0 0 (kk_A (mkW cR cY m0 m1 m2 v))
abbrev mkI (l : Launch) (y : MethodName) (ws : List Cond) (rm : Room) (D : va_G) (cR cY : ClassId) (m0 m1 m2 : Nat) (v : MSt) (As : List Value) (r : Int32) (w : MSt) : Prop := Met l y ws rm (va_Pc (.ref m0 :: As) (kk_Pre D vwCl [(cR, .int), (cY, .int)] (mkW cR cY m0 m1 m2 v))) (va_Qi (fun (z : Int32) (x : MSt) => z = r ∧ x = w) (fun x t => va_P D vwCl (mkW cR cY m0 m1 m2 x) t.heap) (kk_A (mkW cR cY m0 m1 m2 v))) 0 0 (kk_A (mkW cR cY m0 m1 m2 v))
abbrev mkL (l : Launch) (y : MethodName) (ws : List Cond) (rm : Room) (D : va_G) (cR cY : ClassId) (m0 m1 m2 : Nat) (v : MSt) (As : List Value) (r : Int64) (w : MSt) : Prop := Met l y ws rm (va_Pc (.ref m0 :: As) (kk_Pre D vwCl [(cR, .int), (cY, .int)] (mkW cR cY m0 m1 m2 v))) (va_Ql (fun (z : Int64) (x : MSt) => z = r ∧ x = w) (fun x t => va_P D vwCl (mkW cR cY m0 m1 m2 x) t.heap) (kk_A (mkW cR cY m0 m1 m2 v))) 0 0 (kk_A (mkW cR cY m0 m1 m2 v))
set_option maxHeartbeats 4000000 in
set_option maxRecDepth 100000 in
theorem cM_put (l : Launch) (D : va_G) (cR cY : ClassId) (m0 m1 m2 : Nat) (ro : Nat → Int32) (sz op kd tk la li : Int32) (bt : Nat → Int32) (mn : Int32) (x1 : Int32) (hz : vp_in sz 3000) : mkV l yX1_put wsX1_put ({ frames := 0, cells := 0, slots := 0, locals := 0 }) D cR cY m0 m1 m2 (ro, sz, op, kd, tk, la, li, bt, mn) [.int x1] (mk_put (ro, sz, op, kd, tk, la, li, bt, mn) x1) := by
  refine kk_of (cc := cX1_put) (maxL := 2) (ret := none) (by decide) rfl (Nat.le_of_ble_eq_true rfl) ?_
  intro p e s m below meth c ls hx hb hr hts hown hlocks hml hnm hP hK hD hl
  have hown : s.vm.findClass RX1 = some m.cls := hown
  have hl : lv_has ls 2 [(0, .ref m0), (1, .int x1)] := hl
  have hin : ∀ w ∈ wsX10, w ∈ wsX1_put := by decide +kernel
  have lk7 := hts (.fieldLink RX1 7 "EventLineDeskModel" "row" "[I") (by decide +kernel)
  have lk23 := hts (.fieldLink RX1 23 "EventLineDeskModel" "size" "I") (by decide +kernel)
  have lk26 := hts (.fieldLink RX1 26 "EventLineDeskModel" "open" "I") (by decide +kernel)
  generalize hAe : kk_A (mkW cR cY m0 m1 m2 (ro, sz, op, kd, tk, la, li, bt, mn)) = A at hD ⊢
  have hS : va_S A s.heap s.heap [] := va_S.rf
  refine lv_aload_n hx hb dX1_put_0 rfl (lv_at hl 0 rfl) ?_
  refine va_get (D := D) (ci := 1) (v := .ref m1) (C := RX1) (T := TX1) (N := 9) hx hb hts hin hown hK hP 0 rfl rfl 0 (by decide) lk7 (fun _ h9 => h9) rfl dX1_put_1 ?_
  refine lv_aload_n hx hb dX1_put_4 rfl (lv_at hl 0 rfl) ?_
  refine va_get (D := D) (ci := 1) (v := .int sz) (C := RX1) (T := TX1) (N := 9) hx hb hts hin hown hK hP 0 rfl rfl 1 (by decide) lk23 (fun _ h9 => h9) rfl dX1_put_5 ?_
  refine lv_iload_n hx hb dX1_put_8 rfl (lv_at hl 1 rfl) ?_
  refine va_iast hx hb hK hP hD hS 1 0 rfl rfl hz dX1_put_9 (fun H locs hP hD hS => ?_)
  obtain ⟨g1, eg1⟩ : ∃ y : Nat → Int32, y = upd ro sz.toNatClampNeg x1 := ⟨_, rfl⟩
  have hP : va_P D vwCl (mkW cR cY m0 m1 m2 (g1, sz, op, kd, tk, la, li, bt, mn)) H := by rw [eg1]; exact hP
  have hD : va_D A (mkW cR cY m0 m1 m2 (g1, sz, op, kd, tk, la, li, bt, mn)) := kk_D_same hD rfl
  refine lv_aload_n hx hb dX1_put_10 rfl (lv_at hl 0 rfl) ?_
  refine lv_aload_n hx hb dX1_put_11 rfl (lv_at hl 0 rfl) ?_
  refine va_get (D := D) (ci := 1) (v := .int sz) (C := RX1) (T := TX1) (N := 9) hx hb hts hin hown hK hP 0 rfl rfl 1 (by decide) lk23 (fun _ h9 => h9) rfl dX1_put_12 ?_
  refine lv_iconst (v := 1) hx hb dX1_put_15 (by decide) ?_
  refine lv_iadd hx hb dX1_put_16 ?_
  refine lv_topi (fun t2 et2 => ?_)
  refine va_put (D := D) (ci := 1) (v := .int t2) (ty := .int) (C := RX1) (T := TX1) (N := 9) hx hb hts hin tyX1 tyX1_ok nmX1 hown hK hP hD hS 0 rfl rfl 1 (by decide) lk23 (fun _ h9 => h9) rfl (by decide +kernel) rfl rfl (Nat.le_of_ble_eq_true rfl) dX1_put_17 (fun H locs hP hD hS => ?_)
  have hP : va_P D vwCl (mkW cR cY m0 m1 m2 (g1, t2, op, kd, tk, la, li, bt, mn)) H := hP
  have hD : va_D A (mkW cR cY m0 m1 m2 (g1, t2, op, kd, tk, la, li, bt, mn)) := hD
  refine lv_aload_n hx hb dX1_put_20 rfl (lv_at hl 0 rfl) ?_
  refine lv_aload_n hx hb dX1_put_21 rfl (lv_at hl 0 rfl) ?_
  refine va_get (D := D) (ci := 1) (v := .int op) (C := RX1) (T := TX1) (N := 9) hx hb hts hin hown hK hP 0 rfl rfl 2 (by decide) lk26 (fun _ h9 => h9) rfl dX1_put_22 ?_
  refine lv_iconst (v := 1) hx hb dX1_put_25 (by decide) ?_
  refine lv_iadd hx hb dX1_put_26 ?_
  refine lv_topi (fun t3 et3 => ?_)
  refine va_put (D := D) (ci := 1) (v := .int t3) (ty := .int) (C := RX1) (T := TX1) (N := 9) hx hb hts hin tyX1 tyX1_ok nmX1 hown hK hP hD hS 0 rfl rfl 2 (by decide) lk26 (fun _ h9 => h9) rfl (by decide +kernel) rfl rfl (Nat.le_of_ble_eq_true rfl) dX1_put_27 (fun H locs hP hD hS => ?_)
  have hP : va_P D vwCl (mkW cR cY m0 m1 m2 (g1, t2, t3, kd, tk, la, li, bt, mn)) H := hP
  have hD : va_D A (mkW cR cY m0 m1 m2 (g1, t2, t3, kd, tk, la, li, bt, mn)) := hD
  have hres : (g1, t2, t3, kd, tk, la, li, bt, mn) = mk_put (ro, sz, op, kd, tk, la, li, bt, mn) x1 := by
    subst et3 et2 eg1
    first | rfl | (simp only [mk_put]; done) | (simp [mk_put]; done)
  exact W.vret hx hb hr (fun t ht hW => ⟨⟨(g1, t2, t3, kd, tk, la, li, bt, mn), rfl, hres, by show va_P D vwCl _ t.heap; rw [ht]; exact hP⟩, hS.F ht⟩) hS.2.2 dX1_put_30
set_option maxHeartbeats 4000000 in
set_option maxRecDepth 100000 in
theorem cM_close (l : Launch) (D : va_G) (cR cY : ClassId) (m0 m1 m2 : Nat) (ro : Nat → Int32) (sz op kd tk la li : Int32) (bt : Nat → Int32) (mn : Int32)  (hz : vp_in sz 3000) : mkV l yX1_close wsX1_close ({ frames := 0, cells := 0, slots := 0, locals := 0 }) D cR cY m0 m1 m2 (ro, sz, op, kd, tk, la, li, bt, mn) [] (mk_close (ro, sz, op, kd, tk, la, li, bt, mn)) := by
  refine kk_of (cc := cX1_close) (maxL := 1) (ret := none) (by decide) rfl (Nat.le_of_ble_eq_true rfl) ?_
  intro p e s m below meth c ls hx hb hr hts hown hlocks hml hnm hP hK hD hl
  have hown : s.vm.findClass RX1 = some m.cls := hown
  have hl : lv_has ls 1 [(0, .ref m0)] := hl
  have hin : ∀ w ∈ wsX10, w ∈ wsX1_close := by decide +kernel
  have lk7 := hts (.fieldLink RX1 7 "EventLineDeskModel" "row" "[I") (by decide +kernel)
  have lk23 := hts (.fieldLink RX1 23 "EventLineDeskModel" "size" "I") (by decide +kernel)
  have lk26 := hts (.fieldLink RX1 26 "EventLineDeskModel" "open" "I") (by decide +kernel)
  have lk13 := hts (.fieldLink RX1 13 "EventLineDeskModel" "kind" "I") (by decide +kernel)
  generalize hAe : kk_A (mkW cR cY m0 m1 m2 (ro, sz, op, kd, tk, la, li, bt, mn)) = A at hD ⊢
  have hS : va_S A s.heap s.heap [] := va_S.rf
  refine lv_aload_n hx hb dX1_close_0 rfl (lv_at hl 0 rfl) ?_
  refine va_get (D := D) (ci := 1) (v := .ref m1) (C := RX1) (T := TX1) (N := 9) hx hb hts hin hown hK hP 0 rfl rfl 0 (by decide) lk7 (fun _ h9 => h9) rfl dX1_close_1 ?_
  refine lv_aload_n hx hb dX1_close_4 rfl (lv_at hl 0 rfl) ?_
  refine va_get (D := D) (ci := 1) (v := .int sz) (C := RX1) (T := TX1) (N := 9) hx hb hts hin hown hK hP 0 rfl rfl 1 (by decide) lk23 (fun _ h9 => h9) rfl dX1_close_5 ?_
  refine lv_bipush (v := 10) hx hb dX1_close_8 (by decide) ?_
  refine va_iast hx hb hK hP hD hS 1 0 rfl rfl hz dX1_close_10 (fun H locs hP hD hS => ?_)
  obtain ⟨g1, eg1⟩ : ∃ y : Nat → Int32, y = upd ro sz.toNatClampNeg (10 : Int32) := ⟨_, rfl⟩
  have hP : va_P D vwCl (mkW cR cY m0 m1 m2 (g1, sz, op, kd, tk, la, li, bt, mn)) H := by rw [eg1]; exact hP
  have hD : va_D A (mkW cR cY m0 m1 m2 (g1, sz, op, kd, tk, la, li, bt, mn)) := kk_D_same hD rfl
  refine lv_aload_n hx hb dX1_close_11 rfl (lv_at hl 0 rfl) ?_
  refine lv_aload_n hx hb dX1_close_12 rfl (lv_at hl 0 rfl) ?_
  refine va_get (D := D) (ci := 1) (v := .int sz) (C := RX1) (T := TX1) (N := 9) hx hb hts hin hown hK hP 0 rfl rfl 1 (by decide) lk23 (fun _ h9 => h9) rfl dX1_close_13 ?_
  refine lv_iconst (v := 1) hx hb dX1_close_16 (by decide) ?_
  refine lv_iadd hx hb dX1_close_17 ?_
  refine lv_topi (fun t2 et2 => ?_)
  refine va_put (D := D) (ci := 1) (v := .int t2) (ty := .int) (C := RX1) (T := TX1) (N := 9) hx hb hts hin tyX1 tyX1_ok nmX1 hown hK hP hD hS 0 rfl rfl 1 (by decide) lk23 (fun _ h9 => h9) rfl (by decide +kernel) rfl rfl (Nat.le_of_ble_eq_true rfl) dX1_close_18 (fun H locs hP hD hS => ?_)
  have hP : va_P D vwCl (mkW cR cY m0 m1 m2 (g1, t2, op, kd, tk, la, li, bt, mn)) H := hP
  have hD : va_D A (mkW cR cY m0 m1 m2 (g1, t2, op, kd, tk, la, li, bt, mn)) := hD
  refine lv_aload_n hx hb dX1_close_21 rfl (lv_at hl 0 rfl) ?_
  refine lv_iconst (v := 0) hx hb dX1_close_22 (by decide) ?_
  refine va_put (D := D) (ci := 1) (v := .int 0) (ty := .int) (C := RX1) (T := TX1) (N := 9) hx hb hts hin tyX1 tyX1_ok nmX1 hown hK hP hD hS 0 rfl rfl 2 (by decide) lk26 (fun _ h9 => h9) rfl (by decide +kernel) rfl rfl (Nat.le_of_ble_eq_true rfl) dX1_close_23 (fun H locs hP hD hS => ?_)
  have hP : va_P D vwCl (mkW cR cY m0 m1 m2 (g1, t2, 0, kd, tk, la, li, bt, mn)) H := hP
  have hD : va_D A (mkW cR cY m0 m1 m2 (g1, t2, 0, kd, tk, la, li, bt, mn)) := hD
  refine lv_aload_n hx hb dX1_close_26 rfl (lv_at hl 0 rfl) ?_
  refine lv_iconst (v := (-1)) hx hb dX1_close_27 (by decide) ?_
  refine va_put (D := D) (ci := 1) (v := .int (-1)) (ty := .int) (C := RX1) (T := TX1) (N := 9) hx hb hts hin tyX1 tyX1_ok nmX1 hown hK hP hD hS 0 rfl rfl 3 (by decide) lk13 (fun _ h9 => h9) rfl (by decide +kernel) rfl rfl (Nat.le_of_ble_eq_true rfl) dX1_close_28 (fun H locs hP hD hS => ?_)
  have hP : va_P D vwCl (mkW cR cY m0 m1 m2 (g1, t2, 0, (-1), tk, la, li, bt, mn)) H := hP
  have hD : va_D A (mkW cR cY m0 m1 m2 (g1, t2, 0, (-1), tk, la, li, bt, mn)) := hD
  have hres : (g1, t2, 0, (-1), tk, la, li, bt, mn) = mk_close (ro, sz, op, kd, tk, la, li, bt, mn) := by
    subst et2 eg1
    first | rfl | (simp only [mk_close]; done) | (simp [mk_close]; done)
  exact W.vret hx hb hr (fun t ht hW => ⟨⟨(g1, t2, 0, (-1), tk, la, li, bt, mn), rfl, hres, by show va_P D vwCl _ t.heap; rw [ht]; exact hP⟩, hS.F ht⟩) hS.2.2 dX1_close_31
set_option maxHeartbeats 4000000 in
set_option maxRecDepth 100000 in
theorem cM_start (l : Launch) (D : va_G) (cR cY : ClassId) (m0 m1 m2 : Nat) (ro : Nat → Int32) (sz op kd tk la li : Int32) (bt : Nat → Int32) (mn : Int32) (x1 : Int32) (h1 : kd < 0 → vp_in sz 3000) (h2 : ¬ kd < 0 → vp_in sz 3000 ∧ vp_in (sz + 1) 3000) : mkV l yX1_start wsX1_start ({ frames := 1, cells := 0, slots := 0, locals := 21 }) D cR cY m0 m1 m2 (ro, sz, op, kd, tk, la, li, bt, mn) [.int x1] (mk_start (ro, sz, op, kd, tk, la, li, bt, mn) x1) := by
  refine kk_of (cc := cX1_start) (maxL := 2) (ret := none) (by decide) rfl (Nat.le_of_ble_eq_true rfl) ?_
  intro p e s m below meth c ls hx hb hr hts hown hlocks hml hnm hP hK hD hl
  have hown : s.vm.findClass RX1 = some m.cls := hown
  have hl : lv_has ls 2 [(0, .ref m0), (1, .int x1)] := hl
  have hin : ∀ w ∈ wsX10, w ∈ wsX1_start := by decide +kernel
  have lk13 := hts (.fieldLink RX1 13 "EventLineDeskModel" "kind" "I") (by decide +kernel)
  generalize hAe : kk_A (mkW cR cY m0 m1 m2 (ro, sz, op, kd, tk, la, li, bt, mn)) = A at hD ⊢
  have hS : va_S A s.heap s.heap [] := va_S.rf
  refine lv_aload_n hx hb dX1_start_0 rfl (lv_at hl 0 rfl) ?_
  refine va_get (D := D) (ci := 1) (v := .int kd) (C := RX1) (T := TX1) (N := 9) hx hb hts hin hown hK hP 0 rfl rfl 3 (by decide) lk13 (fun _ h9 => h9) rfl dX1_start_1 ?_
  refine lv_if_lt (tgt := 11) hx hb dX1_start_4 (by decide) (fun c1 => ?_) (fun c1 => ?_)
  · refine lv_aload_n hx hb dX1_start_11 rfl (lv_at hl 0 rfl) ?_
    refine lv_iload_n hx hb dX1_start_12 rfl (lv_at hl 1 rfl) ?_
    refine va_put (D := D) (ci := 1) (v := .int x1) (ty := .int) (C := RX1) (T := TX1) (N := 9) hx hb hts hin tyX1 tyX1_ok nmX1 hown hK hP hD hS 0 rfl rfl 3 (by decide) lk13 (fun _ h9 => h9) rfl (by decide +kernel) rfl rfl (Nat.le_of_ble_eq_true rfl) dX1_start_13 (fun H locs hP hD hS => ?_)
    have hP : va_P D vwCl (mkW cR cY m0 m1 m2 (ro, sz, op, x1, tk, la, li, bt, mn)) H := hP
    have hD : va_D A (mkW cR cY m0 m1 m2 (ro, sz, op, x1, tk, la, li, bt, mn)) := hD
    refine lv_aload_n hx hb dX1_start_16 rfl (lv_at hl 0 rfl) ?_
    refine lv_iload_n hx hb dX1_start_17 rfl (lv_at hl 1 rfl) ?_
    refine lv_if_ne (tgt := 26) hx hb dX1_start_18 (by decide) (fun c2 => ?_) (fun c2 => ?_)
    · refine lv_iload_n hx hb dX1_start_26 rfl (lv_at hl 1 rfl) ?_
      refine lv_iconst (v := 1) hx hb dX1_start_27 (by decide) ?_
      refine lv_icmp_ne (tgt := 36) hx hb dX1_start_28 (by decide) (fun c3 => ?_) (fun c3 => ?_)
      · refine lv_iload_n hx hb dX1_start_36 rfl (lv_at hl 1 rfl) ?_
        refine lv_iconst (v := 2) hx hb dX1_start_37 (by decide) ?_
        refine lv_icmp_ne (tgt := 46) hx hb dX1_start_38 (by decide) (fun c4 => ?_) (fun c4 => ?_)
        · refine lv_iload_n hx hb dX1_start_46 rfl (lv_at hl 1 rfl) ?_
          refine lv_iconst (v := 3) hx hb dX1_start_47 (by decide) ?_
          refine lv_icmp_ne (tgt := 56) hx hb dX1_start_48 (by decide) (fun c5 => ?_) (fun c5 => ?_)
          · refine lv_bipush (v := 45) hx hb dX1_start_56 (by decide) ?_
            refine kk_mutV (cs := mkW cR cY m0 m1 m2) (ci := 1) (q0 := 0) (rest := []) ⟨hx, hb, hml, hown, hts⟩ (cM_put l D cR cY m0 m1 m2 ro sz op x1 tk la li bt mn 45 (h1 c1)) (cwV 1 hts gX1_start_X1_put rfl rfl rfl (by decide +kernel) ⟨Nat.le_of_ble_eq_true rfl, Nat.le_of_ble_eq_true rfl⟩) hK hP hD hS rfl rfl rfl hl.1 rfl (Nat.le_of_ble_eq_true rfl) dX1_start_58 ⟨Nat.zero_le _, Nat.zero_le _⟩ (fun u6 H locs hu6 hP hS hzu6 hku6 => ?_)
            obtain ⟨ro6, sz6, op6, kd6, tk6, la6, li6, bt6, mn6⟩ := u6
            have eu6 : (ro6, sz6, op6, kd6, tk6, la6, li6, bt6, mn6) = mk_put (ro, sz, op, x1, tk, la, li, bt, mn) 45 := hu6
            have hD : va_D A (mkW cR cY m0 m1 m2 (ro6, sz6, op6, kd6, tk6, la6, li6, bt6, mn6)) := kk_D_same hD rfl
            have hres : (ro6, sz6, op6, kd6, tk6, la6, li6, bt6, mn6) = mk_start (ro, sz, op, kd, tk, la, li, bt, mn) x1 := by
              first | rfl | (simp only [mk_start, mk_sk, mk_fb, ← eu6, if_pos c1, if_pos c2, if_pos c3, if_pos c4, if_pos c5]; done) | (simp [mk_start, mk_sk, mk_fb, ← eu6, if_pos c1, if_pos c2, if_pos c3, if_pos c4, if_pos c5]; done)
            exact W.vret hx hb hr (fun t ht hW => ⟨⟨(ro6, sz6, op6, kd6, tk6, la6, li6, bt6, mn6), rfl, hres, by show va_P D vwCl _ t.heap; rw [ht]; exact hP⟩, hS.F ht⟩) hS.2.2 dX1_start_61
          · refine lv_bipush (v := 63) hx hb dX1_start_51 (by decide) ?_
            refine lv_goto (tgt := 58) hx hb dX1_start_53 (by decide) ?_
            refine kk_mutV (cs := mkW cR cY m0 m1 m2) (ci := 1) (q0 := 0) (rest := []) ⟨hx, hb, hml, hown, hts⟩ (cM_put l D cR cY m0 m1 m2 ro sz op x1 tk la li bt mn 63 (h1 c1)) (cwV 1 hts gX1_start_X1_put rfl rfl rfl (by decide +kernel) ⟨Nat.le_of_ble_eq_true rfl, Nat.le_of_ble_eq_true rfl⟩) hK hP hD hS rfl rfl rfl hl.1 rfl (Nat.le_of_ble_eq_true rfl) dX1_start_58 ⟨Nat.zero_le _, Nat.zero_le _⟩ (fun u7 H locs hu7 hP hS hzu7 hku7 => ?_)
            obtain ⟨ro7, sz7, op7, kd7, tk7, la7, li7, bt7, mn7⟩ := u7
            have eu7 : (ro7, sz7, op7, kd7, tk7, la7, li7, bt7, mn7) = mk_put (ro, sz, op, x1, tk, la, li, bt, mn) 63 := hu7
            have hD : va_D A (mkW cR cY m0 m1 m2 (ro7, sz7, op7, kd7, tk7, la7, li7, bt7, mn7)) := kk_D_same hD rfl
            have hres : (ro7, sz7, op7, kd7, tk7, la7, li7, bt7, mn7) = mk_start (ro, sz, op, kd, tk, la, li, bt, mn) x1 := by
              first | rfl | (simp only [mk_start, mk_sk, mk_fb, ← eu7, if_pos c1, if_pos c2, if_pos c3, if_pos c4, if_neg (not_not_intro c5)]; done) | (simp [mk_start, mk_sk, mk_fb, ← eu7, if_pos c1, if_pos c2, if_pos c3, if_pos c4, if_neg (not_not_intro c5)]; done)
            exact W.vret hx hb hr (fun t ht hW => ⟨⟨(ro7, sz7, op7, kd7, tk7, la7, li7, bt7, mn7), rfl, hres, by show va_P D vwCl _ t.heap; rw [ht]; exact hP⟩, hS.F ht⟩) hS.2.2 dX1_start_61
        · refine lv_bipush (v := 65) hx hb dX1_start_41 (by decide) ?_
          refine lv_goto (tgt := 58) hx hb dX1_start_43 (by decide) ?_
          refine kk_mutV (cs := mkW cR cY m0 m1 m2) (ci := 1) (q0 := 0) (rest := []) ⟨hx, hb, hml, hown, hts⟩ (cM_put l D cR cY m0 m1 m2 ro sz op x1 tk la li bt mn 65 (h1 c1)) (cwV 1 hts gX1_start_X1_put rfl rfl rfl (by decide +kernel) ⟨Nat.le_of_ble_eq_true rfl, Nat.le_of_ble_eq_true rfl⟩) hK hP hD hS rfl rfl rfl hl.1 rfl (Nat.le_of_ble_eq_true rfl) dX1_start_58 ⟨Nat.zero_le _, Nat.zero_le _⟩ (fun u8 H locs hu8 hP hS hzu8 hku8 => ?_)
          obtain ⟨ro8, sz8, op8, kd8, tk8, la8, li8, bt8, mn8⟩ := u8
          have eu8 : (ro8, sz8, op8, kd8, tk8, la8, li8, bt8, mn8) = mk_put (ro, sz, op, x1, tk, la, li, bt, mn) 65 := hu8
          have hD : va_D A (mkW cR cY m0 m1 m2 (ro8, sz8, op8, kd8, tk8, la8, li8, bt8, mn8)) := kk_D_same hD rfl
          have hres : (ro8, sz8, op8, kd8, tk8, la8, li8, bt8, mn8) = mk_start (ro, sz, op, kd, tk, la, li, bt, mn) x1 := by
            first | rfl | (simp only [mk_start, mk_sk, mk_fb, ← eu8, if_pos c1, if_pos c2, if_pos c3, if_neg (not_not_intro c4)]; done) | (simp [mk_start, mk_sk, mk_fb, ← eu8, if_pos c1, if_pos c2, if_pos c3, if_neg (not_not_intro c4)]; done)
          exact W.vret hx hb hr (fun t ht hW => ⟨⟨(ro8, sz8, op8, kd8, tk8, la8, li8, bt8, mn8), rfl, hres, by show va_P D vwCl _ t.heap; rw [ht]; exact hP⟩, hS.F ht⟩) hS.2.2 dX1_start_61
      · refine lv_bipush (v := 41) hx hb dX1_start_31 (by decide) ?_
        refine lv_goto (tgt := 58) hx hb dX1_start_33 (by decide) ?_
        refine kk_mutV (cs := mkW cR cY m0 m1 m2) (ci := 1) (q0 := 0) (rest := []) ⟨hx, hb, hml, hown, hts⟩ (cM_put l D cR cY m0 m1 m2 ro sz op x1 tk la li bt mn 41 (h1 c1)) (cwV 1 hts gX1_start_X1_put rfl rfl rfl (by decide +kernel) ⟨Nat.le_of_ble_eq_true rfl, Nat.le_of_ble_eq_true rfl⟩) hK hP hD hS rfl rfl rfl hl.1 rfl (Nat.le_of_ble_eq_true rfl) dX1_start_58 ⟨Nat.zero_le _, Nat.zero_le _⟩ (fun u9 H locs hu9 hP hS hzu9 hku9 => ?_)
        obtain ⟨ro9, sz9, op9, kd9, tk9, la9, li9, bt9, mn9⟩ := u9
        have eu9 : (ro9, sz9, op9, kd9, tk9, la9, li9, bt9, mn9) = mk_put (ro, sz, op, x1, tk, la, li, bt, mn) 41 := hu9
        have hD : va_D A (mkW cR cY m0 m1 m2 (ro9, sz9, op9, kd9, tk9, la9, li9, bt9, mn9)) := kk_D_same hD rfl
        have hres : (ro9, sz9, op9, kd9, tk9, la9, li9, bt9, mn9) = mk_start (ro, sz, op, kd, tk, la, li, bt, mn) x1 := by
          first | rfl | (simp only [mk_start, mk_sk, mk_fb, ← eu9, if_pos c1, if_pos c2, if_neg (not_not_intro c3)]; done) | (simp [mk_start, mk_sk, mk_fb, ← eu9, if_pos c1, if_pos c2, if_neg (not_not_intro c3)]; done)
        exact W.vret hx hb hr (fun t ht hW => ⟨⟨(ro9, sz9, op9, kd9, tk9, la9, li9, bt9, mn9), rfl, hres, by show va_P D vwCl _ t.heap; rw [ht]; exact hP⟩, hS.F ht⟩) hS.2.2 dX1_start_61
    · refine lv_bipush (v := 40) hx hb dX1_start_21 (by decide) ?_
      refine lv_goto (tgt := 58) hx hb dX1_start_23 (by decide) ?_
      refine kk_mutV (cs := mkW cR cY m0 m1 m2) (ci := 1) (q0 := 0) (rest := []) ⟨hx, hb, hml, hown, hts⟩ (cM_put l D cR cY m0 m1 m2 ro sz op x1 tk la li bt mn 40 (h1 c1)) (cwV 1 hts gX1_start_X1_put rfl rfl rfl (by decide +kernel) ⟨Nat.le_of_ble_eq_true rfl, Nat.le_of_ble_eq_true rfl⟩) hK hP hD hS rfl rfl rfl hl.1 rfl (Nat.le_of_ble_eq_true rfl) dX1_start_58 ⟨Nat.zero_le _, Nat.zero_le _⟩ (fun u10 H locs hu10 hP hS hzu10 hku10 => ?_)
      obtain ⟨ro10, sz10, op10, kd10, tk10, la10, li10, bt10, mn10⟩ := u10
      have eu10 : (ro10, sz10, op10, kd10, tk10, la10, li10, bt10, mn10) = mk_put (ro, sz, op, x1, tk, la, li, bt, mn) 40 := hu10
      have hD : va_D A (mkW cR cY m0 m1 m2 (ro10, sz10, op10, kd10, tk10, la10, li10, bt10, mn10)) := kk_D_same hD rfl
      have hres : (ro10, sz10, op10, kd10, tk10, la10, li10, bt10, mn10) = mk_start (ro, sz, op, kd, tk, la, li, bt, mn) x1 := by
        first | rfl | (simp only [mk_start, mk_sk, mk_fb, ← eu10, if_pos c1, if_neg (not_not_intro c2)]; done) | (simp [mk_start, mk_sk, mk_fb, ← eu10, if_pos c1, if_neg (not_not_intro c2)]; done)
      exact W.vret hx hb hr (fun t ht hW => ⟨⟨(ro10, sz10, op10, kd10, tk10, la10, li10, bt10, mn10), rfl, hres, by show va_P D vwCl _ t.heap; rw [ht]; exact hP⟩, hS.F ht⟩) hS.2.2 dX1_start_61
  · refine lv_aload_n hx hb dX1_start_7 rfl (lv_at hl 0 rfl) ?_
    refine kk_mutV (cs := mkW cR cY m0 m1 m2) (ci := 1) (q0 := 0) (rest := []) ⟨hx, hb, hml, hown, hts⟩ (cM_close l D cR cY m0 m1 m2 ro sz op kd tk la li bt mn (h2 c1).1) (cwV 0 hts gX1_start_X1_close rfl rfl rfl (by decide +kernel) ⟨Nat.le_of_ble_eq_true rfl, Nat.le_of_ble_eq_true rfl⟩) hK hP hD hS rfl rfl rfl hl.1 rfl (Nat.le_of_ble_eq_true rfl) dX1_start_8 ⟨Nat.zero_le _, Nat.zero_le _⟩ (fun u11 H locs hu11 hP hS hzu11 hku11 => ?_)
    obtain ⟨ro11, sz11, op11, kd11, tk11, la11, li11, bt11, mn11⟩ := u11
    have eu11 : (ro11, sz11, op11, kd11, tk11, la11, li11, bt11, mn11) = mk_close (ro, sz, op, kd, tk, la, li, bt, mn) := hu11
    have hD : va_D A (mkW cR cY m0 m1 m2 (ro11, sz11, op11, kd11, tk11, la11, li11, bt11, mn11)) := kk_D_same hD rfl
    refine lv_aload_n hx hb dX1_start_11 rfl (lv_at hl 0 rfl) ?_
    refine lv_iload_n hx hb dX1_start_12 rfl (lv_at hl 1 rfl) ?_
    refine va_put (D := D) (ci := 1) (v := .int x1) (ty := .int) (C := RX1) (T := TX1) (N := 9) hx hb hts hin tyX1 tyX1_ok nmX1 hown hK hP hD hS 0 rfl rfl 3 (by decide) lk13 (fun _ h9 => h9) rfl (by decide +kernel) rfl rfl (Nat.le_of_ble_eq_true rfl) dX1_start_13 (fun H locs hP hD hS => ?_)
    have hP : va_P D vwCl (mkW cR cY m0 m1 m2 (ro11, sz11, op11, x1, tk11, la11, li11, bt11, mn11)) H := hP
    have hD : va_D A (mkW cR cY m0 m1 m2 (ro11, sz11, op11, x1, tk11, la11, li11, bt11, mn11)) := hD
    refine lv_aload_n hx hb dX1_start_16 rfl (lv_at hl 0 rfl) ?_
    refine lv_iload_n hx hb dX1_start_17 rfl (lv_at hl 1 rfl) ?_
    refine lv_if_ne (tgt := 26) hx hb dX1_start_18 (by decide) (fun c12 => ?_) (fun c12 => ?_)
    · refine lv_iload_n hx hb dX1_start_26 rfl (lv_at hl 1 rfl) ?_
      refine lv_iconst (v := 1) hx hb dX1_start_27 (by decide) ?_
      refine lv_icmp_ne (tgt := 36) hx hb dX1_start_28 (by decide) (fun c13 => ?_) (fun c13 => ?_)
      · refine lv_iload_n hx hb dX1_start_36 rfl (lv_at hl 1 rfl) ?_
        refine lv_iconst (v := 2) hx hb dX1_start_37 (by decide) ?_
        refine lv_icmp_ne (tgt := 46) hx hb dX1_start_38 (by decide) (fun c14 => ?_) (fun c14 => ?_)
        · refine lv_iload_n hx hb dX1_start_46 rfl (lv_at hl 1 rfl) ?_
          refine lv_iconst (v := 3) hx hb dX1_start_47 (by decide) ?_
          refine lv_icmp_ne (tgt := 56) hx hb dX1_start_48 (by decide) (fun c15 => ?_) (fun c15 => ?_)
          · refine lv_bipush (v := 45) hx hb dX1_start_56 (by decide) ?_
            refine kk_mutV (cs := mkW cR cY m0 m1 m2) (ci := 1) (q0 := 0) (rest := []) ⟨hx, hb, hml, hown, hts⟩ (cM_put l D cR cY m0 m1 m2 ro11 sz11 op11 x1 tk11 la11 li11 bt11 mn11 45 (show vp_in sz11 3000 from by rw [show sz11 = sz + 1 from congrArg (fun z : MSt => z.2.1) eu11]; exact (h2 c1).2)) (cwV 1 hts gX1_start_X1_put rfl rfl rfl (by decide +kernel) ⟨Nat.le_of_ble_eq_true rfl, Nat.le_of_ble_eq_true rfl⟩) hK hP hD hS rfl rfl rfl hl.1 rfl (Nat.le_of_ble_eq_true rfl) dX1_start_58 ⟨Nat.zero_le _, Nat.zero_le _⟩ (fun u16 H locs hu16 hP hS hzu16 hku16 => ?_)
            obtain ⟨ro16, sz16, op16, kd16, tk16, la16, li16, bt16, mn16⟩ := u16
            have eu16 : (ro16, sz16, op16, kd16, tk16, la16, li16, bt16, mn16) = mk_put (ro11, sz11, op11, x1, tk11, la11, li11, bt11, mn11) 45 := hu16
            have hD : va_D A (mkW cR cY m0 m1 m2 (ro16, sz16, op16, kd16, tk16, la16, li16, bt16, mn16)) := kk_D_same hD rfl
            have hres : (ro16, sz16, op16, kd16, tk16, la16, li16, bt16, mn16) = mk_start (ro, sz, op, kd, tk, la, li, bt, mn) x1 := by
              first | rfl | (simp only [mk_start, mk_sk, mk_fb, ← eu11, ← eu16, if_neg c1, if_pos c12, if_pos c13, if_pos c14, if_pos c15]; done) | (simp [mk_start, mk_sk, mk_fb, ← eu11, ← eu16, if_neg c1, if_pos c12, if_pos c13, if_pos c14, if_pos c15]; done)
            exact W.vret hx hb hr (fun t ht hW => ⟨⟨(ro16, sz16, op16, kd16, tk16, la16, li16, bt16, mn16), rfl, hres, by show va_P D vwCl _ t.heap; rw [ht]; exact hP⟩, hS.F ht⟩) hS.2.2 dX1_start_61
          · refine lv_bipush (v := 63) hx hb dX1_start_51 (by decide) ?_
            refine lv_goto (tgt := 58) hx hb dX1_start_53 (by decide) ?_
            refine kk_mutV (cs := mkW cR cY m0 m1 m2) (ci := 1) (q0 := 0) (rest := []) ⟨hx, hb, hml, hown, hts⟩ (cM_put l D cR cY m0 m1 m2 ro11 sz11 op11 x1 tk11 la11 li11 bt11 mn11 63 (show vp_in sz11 3000 from by rw [show sz11 = sz + 1 from congrArg (fun z : MSt => z.2.1) eu11]; exact (h2 c1).2)) (cwV 1 hts gX1_start_X1_put rfl rfl rfl (by decide +kernel) ⟨Nat.le_of_ble_eq_true rfl, Nat.le_of_ble_eq_true rfl⟩) hK hP hD hS rfl rfl rfl hl.1 rfl (Nat.le_of_ble_eq_true rfl) dX1_start_58 ⟨Nat.zero_le _, Nat.zero_le _⟩ (fun u17 H locs hu17 hP hS hzu17 hku17 => ?_)
            obtain ⟨ro17, sz17, op17, kd17, tk17, la17, li17, bt17, mn17⟩ := u17
            have eu17 : (ro17, sz17, op17, kd17, tk17, la17, li17, bt17, mn17) = mk_put (ro11, sz11, op11, x1, tk11, la11, li11, bt11, mn11) 63 := hu17
            have hD : va_D A (mkW cR cY m0 m1 m2 (ro17, sz17, op17, kd17, tk17, la17, li17, bt17, mn17)) := kk_D_same hD rfl
            have hres : (ro17, sz17, op17, kd17, tk17, la17, li17, bt17, mn17) = mk_start (ro, sz, op, kd, tk, la, li, bt, mn) x1 := by
              first | rfl | (simp only [mk_start, mk_sk, mk_fb, ← eu11, ← eu17, if_neg c1, if_pos c12, if_pos c13, if_pos c14, if_neg (not_not_intro c15)]; done) | (simp [mk_start, mk_sk, mk_fb, ← eu11, ← eu17, if_neg c1, if_pos c12, if_pos c13, if_pos c14, if_neg (not_not_intro c15)]; done)
            exact W.vret hx hb hr (fun t ht hW => ⟨⟨(ro17, sz17, op17, kd17, tk17, la17, li17, bt17, mn17), rfl, hres, by show va_P D vwCl _ t.heap; rw [ht]; exact hP⟩, hS.F ht⟩) hS.2.2 dX1_start_61
        · refine lv_bipush (v := 65) hx hb dX1_start_41 (by decide) ?_
          refine lv_goto (tgt := 58) hx hb dX1_start_43 (by decide) ?_
          refine kk_mutV (cs := mkW cR cY m0 m1 m2) (ci := 1) (q0 := 0) (rest := []) ⟨hx, hb, hml, hown, hts⟩ (cM_put l D cR cY m0 m1 m2 ro11 sz11 op11 x1 tk11 la11 li11 bt11 mn11 65 (show vp_in sz11 3000 from by rw [show sz11 = sz + 1 from congrArg (fun z : MSt => z.2.1) eu11]; exact (h2 c1).2)) (cwV 1 hts gX1_start_X1_put rfl rfl rfl (by decide +kernel) ⟨Nat.le_of_ble_eq_true rfl, Nat.le_of_ble_eq_true rfl⟩) hK hP hD hS rfl rfl rfl hl.1 rfl (Nat.le_of_ble_eq_true rfl) dX1_start_58 ⟨Nat.zero_le _, Nat.zero_le _⟩ (fun u18 H locs hu18 hP hS hzu18 hku18 => ?_)
          obtain ⟨ro18, sz18, op18, kd18, tk18, la18, li18, bt18, mn18⟩ := u18
          have eu18 : (ro18, sz18, op18, kd18, tk18, la18, li18, bt18, mn18) = mk_put (ro11, sz11, op11, x1, tk11, la11, li11, bt11, mn11) 65 := hu18
          have hD : va_D A (mkW cR cY m0 m1 m2 (ro18, sz18, op18, kd18, tk18, la18, li18, bt18, mn18)) := kk_D_same hD rfl
          have hres : (ro18, sz18, op18, kd18, tk18, la18, li18, bt18, mn18) = mk_start (ro, sz, op, kd, tk, la, li, bt, mn) x1 := by
            first | rfl | (simp only [mk_start, mk_sk, mk_fb, ← eu11, ← eu18, if_neg c1, if_pos c12, if_pos c13, if_neg (not_not_intro c14)]; done) | (simp [mk_start, mk_sk, mk_fb, ← eu11, ← eu18, if_neg c1, if_pos c12, if_pos c13, if_neg (not_not_intro c14)]; done)
          exact W.vret hx hb hr (fun t ht hW => ⟨⟨(ro18, sz18, op18, kd18, tk18, la18, li18, bt18, mn18), rfl, hres, by show va_P D vwCl _ t.heap; rw [ht]; exact hP⟩, hS.F ht⟩) hS.2.2 dX1_start_61
      · refine lv_bipush (v := 41) hx hb dX1_start_31 (by decide) ?_
        refine lv_goto (tgt := 58) hx hb dX1_start_33 (by decide) ?_
        refine kk_mutV (cs := mkW cR cY m0 m1 m2) (ci := 1) (q0 := 0) (rest := []) ⟨hx, hb, hml, hown, hts⟩ (cM_put l D cR cY m0 m1 m2 ro11 sz11 op11 x1 tk11 la11 li11 bt11 mn11 41 (show vp_in sz11 3000 from by rw [show sz11 = sz + 1 from congrArg (fun z : MSt => z.2.1) eu11]; exact (h2 c1).2)) (cwV 1 hts gX1_start_X1_put rfl rfl rfl (by decide +kernel) ⟨Nat.le_of_ble_eq_true rfl, Nat.le_of_ble_eq_true rfl⟩) hK hP hD hS rfl rfl rfl hl.1 rfl (Nat.le_of_ble_eq_true rfl) dX1_start_58 ⟨Nat.zero_le _, Nat.zero_le _⟩ (fun u19 H locs hu19 hP hS hzu19 hku19 => ?_)
        obtain ⟨ro19, sz19, op19, kd19, tk19, la19, li19, bt19, mn19⟩ := u19
        have eu19 : (ro19, sz19, op19, kd19, tk19, la19, li19, bt19, mn19) = mk_put (ro11, sz11, op11, x1, tk11, la11, li11, bt11, mn11) 41 := hu19
        have hD : va_D A (mkW cR cY m0 m1 m2 (ro19, sz19, op19, kd19, tk19, la19, li19, bt19, mn19)) := kk_D_same hD rfl
        have hres : (ro19, sz19, op19, kd19, tk19, la19, li19, bt19, mn19) = mk_start (ro, sz, op, kd, tk, la, li, bt, mn) x1 := by
          first | rfl | (simp only [mk_start, mk_sk, mk_fb, ← eu11, ← eu19, if_neg c1, if_pos c12, if_neg (not_not_intro c13)]; done) | (simp [mk_start, mk_sk, mk_fb, ← eu11, ← eu19, if_neg c1, if_pos c12, if_neg (not_not_intro c13)]; done)
        exact W.vret hx hb hr (fun t ht hW => ⟨⟨(ro19, sz19, op19, kd19, tk19, la19, li19, bt19, mn19), rfl, hres, by show va_P D vwCl _ t.heap; rw [ht]; exact hP⟩, hS.F ht⟩) hS.2.2 dX1_start_61
    · refine lv_bipush (v := 40) hx hb dX1_start_21 (by decide) ?_
      refine lv_goto (tgt := 58) hx hb dX1_start_23 (by decide) ?_
      refine kk_mutV (cs := mkW cR cY m0 m1 m2) (ci := 1) (q0 := 0) (rest := []) ⟨hx, hb, hml, hown, hts⟩ (cM_put l D cR cY m0 m1 m2 ro11 sz11 op11 x1 tk11 la11 li11 bt11 mn11 40 (show vp_in sz11 3000 from by rw [show sz11 = sz + 1 from congrArg (fun z : MSt => z.2.1) eu11]; exact (h2 c1).2)) (cwV 1 hts gX1_start_X1_put rfl rfl rfl (by decide +kernel) ⟨Nat.le_of_ble_eq_true rfl, Nat.le_of_ble_eq_true rfl⟩) hK hP hD hS rfl rfl rfl hl.1 rfl (Nat.le_of_ble_eq_true rfl) dX1_start_58 ⟨Nat.zero_le _, Nat.zero_le _⟩ (fun u20 H locs hu20 hP hS hzu20 hku20 => ?_)
      obtain ⟨ro20, sz20, op20, kd20, tk20, la20, li20, bt20, mn20⟩ := u20
      have eu20 : (ro20, sz20, op20, kd20, tk20, la20, li20, bt20, mn20) = mk_put (ro11, sz11, op11, x1, tk11, la11, li11, bt11, mn11) 40 := hu20
      have hD : va_D A (mkW cR cY m0 m1 m2 (ro20, sz20, op20, kd20, tk20, la20, li20, bt20, mn20)) := kk_D_same hD rfl
      have hres : (ro20, sz20, op20, kd20, tk20, la20, li20, bt20, mn20) = mk_start (ro, sz, op, kd, tk, la, li, bt, mn) x1 := by
        first | rfl | (simp only [mk_start, mk_sk, mk_fb, ← eu11, ← eu20, if_neg c1, if_neg (not_not_intro c12)]; done) | (simp [mk_start, mk_sk, mk_fb, ← eu11, ← eu20, if_neg c1, if_neg (not_not_intro c12)]; done)
      exact W.vret hx hb hr (fun t ht hW => ⟨⟨(ro20, sz20, op20, kd20, tk20, la20, li20, bt20, mn20), rfl, hres, by show va_P D vwCl _ t.heap; rw [ht]; exact hP⟩, hS.F ht⟩) hS.2.2 dX1_start_61
set_option maxHeartbeats 4000000 in
set_option maxRecDepth 100000 in
theorem cM_begin (l : Launch) (D : va_G) (cR cY : ClassId) (m0 m1 m2 : Nat) (ro : Nat → Int32) (sz op kd tk la li : Int32) (bt : Nat → Int32) (mn : Int32) (x1 : Int32) (hz : mk_ok sz) : mkI l yX1_begin wsX1_begin ({ frames := 2, cells := 0, slots := 0, locals := 42 }) D cR cY m0 m1 m2 (ro, sz, op, kd, tk, la, li, bt, mn) [.int x1] (mk_begin (ro, sz, op, kd, tk, la, li, bt, mn) x1).1 (mk_begin (ro, sz, op, kd, tk, la, li, bt, mn) x1).2 := by
  refine kk_of (cc := cX1_begin) (maxL := 2) (ret := (some .boolean)) (by decide) rfl (Nat.le_of_ble_eq_true rfl) ?_
  intro p e s m below meth c ls hx hb hr hts hown hlocks hml hnm hP hK hD hl
  have hown : s.vm.findClass RX1 = some m.cls := hown
  have hl : lv_has ls 2 [(0, .ref m0), (1, .int x1)] := hl
  have hin : ∀ w ∈ wsX10, w ∈ wsX1_begin := by decide +kernel
  have lk23 := hts (.fieldLink RX1 23 "EventLineDeskModel" "size" "I") (by decide +kernel)
  have lk13 := hts (.fieldLink RX1 13 "EventLineDeskModel" "kind" "I") (by decide +kernel)
  generalize hAe : kk_A (mkW cR cY m0 m1 m2 (ro, sz, op, kd, tk, la, li, bt, mn)) = A at hD ⊢
  have hS : va_S A s.heap s.heap [] := va_S.rf
  refine lv_iload_n hx hb dX1_begin_0 rfl (lv_at hl 1 rfl) ?_
  refine lv_if_lt (tgt := 34) hx hb dX1_begin_1 (by decide) (fun c1 => ?_) (fun c1 => ?_)
  · refine lv_iconst (v := 0) hx hb dX1_begin_34 (by decide) ?_
    have hres : 0 = (mk_begin (ro, sz, op, kd, tk, la, li, bt, mn) x1).1 := by
      first | rfl | (simp only [mk_begin, if_pos c1]; done) | (simp [mk_begin, if_pos c1]; done)
    have hre2 : (ro, sz, op, kd, tk, la, li, bt, mn) = (mk_begin (ro, sz, op, kd, tk, la, li, bt, mn) x1).2 := by
      first | rfl | (simp only [mk_begin, if_pos c1]; done) | (simp [mk_begin, if_pos c1]; done)
    exact W.zret (v := 0) (ty := .boolean) hx hb hr rfl (fun t ht hW => ⟨⟨0, (ro, sz, op, kd, tk, la, li, bt, mn), rfl, ⟨hres, hre2⟩, by show va_P D vwCl _ t.heap; rw [ht]; exact hP⟩, hS.F ht⟩) hS.2.2 dX1_begin_35
  · refine lv_iload_n hx hb dX1_begin_4 rfl (lv_at hl 1 rfl) ?_
    refine lv_iconst (v := 3) hx hb dX1_begin_5 (by decide) ?_
    refine lv_icmp_gt (tgt := 34) hx hb dX1_begin_6 (by decide) (fun c2 => ?_) (fun c2 => ?_)
    · refine lv_iconst (v := 0) hx hb dX1_begin_34 (by decide) ?_
      have hres : 0 = (mk_begin (ro, sz, op, kd, tk, la, li, bt, mn) x1).1 := by
        first | rfl | (simp only [mk_begin, if_neg c1, if_pos c2]; done) | (simp [mk_begin, if_neg c1, if_pos c2]; done)
      have hre2 : (ro, sz, op, kd, tk, la, li, bt, mn) = (mk_begin (ro, sz, op, kd, tk, la, li, bt, mn) x1).2 := by
        first | rfl | (simp only [mk_begin, if_neg c1, if_pos c2]; done) | (simp [mk_begin, if_neg c1, if_pos c2]; done)
      exact W.zret (v := 0) (ty := .boolean) hx hb hr rfl (fun t ht hW => ⟨⟨0, (ro, sz, op, kd, tk, la, li, bt, mn), rfl, ⟨hres, hre2⟩, by show va_P D vwCl _ t.heap; rw [ht]; exact hP⟩, hS.F ht⟩) hS.2.2 dX1_begin_35
    · refine lv_aload_n hx hb dX1_begin_9 rfl (lv_at hl 0 rfl) ?_
      refine va_get (D := D) (ci := 1) (v := .int sz) (C := RX1) (T := TX1) (N := 9) hx hb hts hin hown hK hP 0 rfl rfl 1 (by decide) lk23 (fun _ h9 => h9) rfl dX1_begin_10 ?_
      refine lv_aload_n hx hb dX1_begin_13 rfl (lv_at hl 0 rfl) ?_
      refine va_get (D := D) (ci := 1) (v := .int kd) (C := RX1) (T := TX1) (N := 9) hx hb hts hin hown hK hP 0 rfl rfl 3 (by decide) lk13 (fun _ h9 => h9) rfl dX1_begin_14 ?_
      refine lv_if_lt (tgt := 24) hx hb dX1_begin_17 (by decide) (fun c3 => ?_) (fun c3 => ?_)
      · refine lv_iconst (v := 0) hx hb dX1_begin_24 (by decide) ?_
        refine lv_iadd hx hb dX1_begin_25 ?_
        refine lv_topi (fun t4 et4 => ?_)
        refine lv_iconst (v := 2) hx hb dX1_begin_26 (by decide) ?_
        refine lv_iadd hx hb dX1_begin_27 ?_
        refine lv_topi (fun t5 et5 => ?_)
        refine lv_sipush (v := 3000) hx hb dX1_begin_28 (by decide) ?_
        refine lv_icmp_le (tgt := 36) hx hb dX1_begin_31 (by decide) (fun c6 => ?_) (fun c6 => ?_)
        · refine lv_aload_n hx hb dX1_begin_36 rfl (lv_at hl 0 rfl) ?_
          refine lv_iload_n hx hb dX1_begin_37 rfl (lv_at hl 1 rfl) ?_
          refine kk_mutV (cs := mkW cR cY m0 m1 m2) (ci := 1) (q0 := 0) (rest := []) ⟨hx, hb, hml, hown, hts⟩ (cM_start l D cR cY m0 m1 m2 ro sz op kd tk la li bt mn x1 (fun _ => mk_inA hz (by have h := c6; rw [et5, et4] at h; exact h)) (fun h => absurd c3 h)) (cwV 1 hts gX1_begin_X1_start rfl rfl rfl (by decide +kernel) ⟨Nat.le_of_ble_eq_true rfl, Nat.le_of_ble_eq_true rfl⟩) hK hP hD hS rfl rfl rfl hl.1 rfl (Nat.le_of_ble_eq_true rfl) dX1_begin_38 ⟨Nat.zero_le _, Nat.zero_le _⟩ (fun u7 H locs hu7 hP hS hzu7 hku7 => ?_)
          obtain ⟨ro7, sz7, op7, kd7, tk7, la7, li7, bt7, mn7⟩ := u7
          have eu7 : (ro7, sz7, op7, kd7, tk7, la7, li7, bt7, mn7) = mk_start (ro, sz, op, kd, tk, la, li, bt, mn) x1 := hu7
          have hD : va_D A (mkW cR cY m0 m1 m2 (ro7, sz7, op7, kd7, tk7, la7, li7, bt7, mn7)) := kk_D_same hD rfl
          refine lv_iconst (v := 1) hx hb dX1_begin_41 (by decide) ?_
          have hres : 1 = (mk_begin (ro, sz, op, kd, tk, la, li, bt, mn) x1).1 := by
            subst et5 et4
            first | rfl | (simp only [mk_begin, ← eu7, if_neg c1, if_neg c2, if_pos c3, if_pos c6]; done) | (simp [mk_begin, ← eu7, if_neg c1, if_neg c2, if_pos c3, if_pos c6]; done)
          have hre2 : (ro7, sz7, op7, kd7, tk7, la7, li7, bt7, mn7) = (mk_begin (ro, sz, op, kd, tk, la, li, bt, mn) x1).2 := by
            subst et5 et4
            first | rfl | (simp only [mk_begin, ← eu7, if_neg c1, if_neg c2, if_pos c3, if_pos c6]; done) | (simp [mk_begin, ← eu7, if_neg c1, if_neg c2, if_pos c3, if_pos c6]; done)
          exact W.zret (v := 1) (ty := .boolean) hx hb hr rfl (fun t ht hW => ⟨⟨1, (ro7, sz7, op7, kd7, tk7, la7, li7, bt7, mn7), rfl, ⟨hres, hre2⟩, by show va_P D vwCl _ t.heap; rw [ht]; exact hP⟩, hS.F ht⟩) hS.2.2 dX1_begin_42
        · refine lv_iconst (v := 0) hx hb dX1_begin_34 (by decide) ?_
          have hres : 0 = (mk_begin (ro, sz, op, kd, tk, la, li, bt, mn) x1).1 := by
            subst et5 et4
            first | rfl | (simp only [mk_begin, if_neg c1, if_neg c2, if_pos c3, if_neg c6]; done) | (simp [mk_begin, if_neg c1, if_neg c2, if_pos c3, if_neg c6]; done)
          have hre2 : (ro, sz, op, kd, tk, la, li, bt, mn) = (mk_begin (ro, sz, op, kd, tk, la, li, bt, mn) x1).2 := by
            subst et5 et4
            first | rfl | (simp only [mk_begin, if_neg c1, if_neg c2, if_pos c3, if_neg c6]; done) | (simp [mk_begin, if_neg c1, if_neg c2, if_pos c3, if_neg c6]; done)
          exact W.zret (v := 0) (ty := .boolean) hx hb hr rfl (fun t ht hW => ⟨⟨0, (ro, sz, op, kd, tk, la, li, bt, mn), rfl, ⟨hres, hre2⟩, by show va_P D vwCl _ t.heap; rw [ht]; exact hP⟩, hS.F ht⟩) hS.2.2 dX1_begin_35
      · refine lv_iconst (v := 1) hx hb dX1_begin_20 (by decide) ?_
        refine lv_goto (tgt := 25) hx hb dX1_begin_21 (by decide) ?_
        refine lv_iadd hx hb dX1_begin_25 ?_
        refine lv_topi (fun t8 et8 => ?_)
        refine lv_iconst (v := 2) hx hb dX1_begin_26 (by decide) ?_
        refine lv_iadd hx hb dX1_begin_27 ?_
        refine lv_topi (fun t9 et9 => ?_)
        refine lv_sipush (v := 3000) hx hb dX1_begin_28 (by decide) ?_
        refine lv_icmp_le (tgt := 36) hx hb dX1_begin_31 (by decide) (fun c10 => ?_) (fun c10 => ?_)
        · refine lv_aload_n hx hb dX1_begin_36 rfl (lv_at hl 0 rfl) ?_
          refine lv_iload_n hx hb dX1_begin_37 rfl (lv_at hl 1 rfl) ?_
          refine kk_mutV (cs := mkW cR cY m0 m1 m2) (ci := 1) (q0 := 0) (rest := []) ⟨hx, hb, hml, hown, hts⟩ (cM_start l D cR cY m0 m1 m2 ro sz op kd tk la li bt mn x1 (fun h => absurd h c3) (fun _ => mk_inB hz (by have h := c10; rw [et9, et8] at h; exact h))) (cwV 1 hts gX1_begin_X1_start rfl rfl rfl (by decide +kernel) ⟨Nat.le_of_ble_eq_true rfl, Nat.le_of_ble_eq_true rfl⟩) hK hP hD hS rfl rfl rfl hl.1 rfl (Nat.le_of_ble_eq_true rfl) dX1_begin_38 ⟨Nat.zero_le _, Nat.zero_le _⟩ (fun u11 H locs hu11 hP hS hzu11 hku11 => ?_)
          obtain ⟨ro11, sz11, op11, kd11, tk11, la11, li11, bt11, mn11⟩ := u11
          have eu11 : (ro11, sz11, op11, kd11, tk11, la11, li11, bt11, mn11) = mk_start (ro, sz, op, kd, tk, la, li, bt, mn) x1 := hu11
          have hD : va_D A (mkW cR cY m0 m1 m2 (ro11, sz11, op11, kd11, tk11, la11, li11, bt11, mn11)) := kk_D_same hD rfl
          refine lv_iconst (v := 1) hx hb dX1_begin_41 (by decide) ?_
          have hres : 1 = (mk_begin (ro, sz, op, kd, tk, la, li, bt, mn) x1).1 := by
            subst et9 et8
            first | rfl | (simp only [mk_begin, ← eu11, if_neg c1, if_neg c2, if_neg c3, if_pos c10]; done) | (simp [mk_begin, ← eu11, if_neg c1, if_neg c2, if_neg c3, if_pos c10]; done)
          have hre2 : (ro11, sz11, op11, kd11, tk11, la11, li11, bt11, mn11) = (mk_begin (ro, sz, op, kd, tk, la, li, bt, mn) x1).2 := by
            subst et9 et8
            first | rfl | (simp only [mk_begin, ← eu11, if_neg c1, if_neg c2, if_neg c3, if_pos c10]; done) | (simp [mk_begin, ← eu11, if_neg c1, if_neg c2, if_neg c3, if_pos c10]; done)
          exact W.zret (v := 1) (ty := .boolean) hx hb hr rfl (fun t ht hW => ⟨⟨1, (ro11, sz11, op11, kd11, tk11, la11, li11, bt11, mn11), rfl, ⟨hres, hre2⟩, by show va_P D vwCl _ t.heap; rw [ht]; exact hP⟩, hS.F ht⟩) hS.2.2 dX1_begin_42
        · refine lv_iconst (v := 0) hx hb dX1_begin_34 (by decide) ?_
          have hres : 0 = (mk_begin (ro, sz, op, kd, tk, la, li, bt, mn) x1).1 := by
            subst et9 et8
            first | rfl | (simp only [mk_begin, if_neg c1, if_neg c2, if_neg c3, if_neg c10]; done) | (simp [mk_begin, if_neg c1, if_neg c2, if_neg c3, if_neg c10]; done)
          have hre2 : (ro, sz, op, kd, tk, la, li, bt, mn) = (mk_begin (ro, sz, op, kd, tk, la, li, bt, mn) x1).2 := by
            subst et9 et8
            first | rfl | (simp only [mk_begin, if_neg c1, if_neg c2, if_neg c3, if_neg c10]; done) | (simp [mk_begin, if_neg c1, if_neg c2, if_neg c3, if_neg c10]; done)
          exact W.zret (v := 0) (ty := .boolean) hx hb hr rfl (fun t ht hW => ⟨⟨0, (ro, sz, op, kd, tk, la, li, bt, mn), rfl, ⟨hres, hre2⟩, by show va_P D vwCl _ t.heap; rw [ht]; exact hP⟩, hS.F ht⟩) hS.2.2 dX1_begin_35
set_option maxHeartbeats 4000000 in
set_option maxRecDepth 100000 in
theorem cM_end (l : Launch) (D : va_G) (cR cY : ClassId) (m0 m1 m2 : Nat) (ro : Nat → Int32) (sz op kd tk la li : Int32) (bt : Nat → Int32) (mn : Int32)  (hz : ¬ kd < 0 → vp_in sz 3000) : mkI l yX1_end wsX1_end ({ frames := 1, cells := 0, slots := 0, locals := 20 }) D cR cY m0 m1 m2 (ro, sz, op, kd, tk, la, li, bt, mn) [] (mk_end (ro, sz, op, kd, tk, la, li, bt, mn)).1 (mk_end (ro, sz, op, kd, tk, la, li, bt, mn)).2 := by
  refine kk_of (cc := cX1_end) (maxL := 2) (ret := (some .int)) (by decide) rfl (Nat.le_of_ble_eq_true rfl) ?_
  intro p e s m below meth c ls hx hb hr hts hown hlocks hml hnm hP hK hD hl
  have hown : s.vm.findClass RX1 = some m.cls := hown
  have hl : lv_has ls 2 [(0, .ref m0)] := hl
  have hin : ∀ w ∈ wsX10, w ∈ wsX1_end := by decide +kernel
  have lk13 := hts (.fieldLink RX1 13 "EventLineDeskModel" "kind" "I") (by decide +kernel)
  generalize hAe : kk_A (mkW cR cY m0 m1 m2 (ro, sz, op, kd, tk, la, li, bt, mn)) = A at hD ⊢
  have hS : va_S A s.heap s.heap [] := va_S.rf
  refine lv_aload_n hx hb dX1_end_0 rfl (lv_at hl 0 rfl) ?_
  refine va_get (D := D) (ci := 1) (v := .int kd) (C := RX1) (T := TX1) (N := 9) hx hb hts hin hown hK hP 0 rfl rfl 3 (by decide) lk13 (fun _ h9 => h9) rfl dX1_end_1 ?_
  refine lv_istore_n (lv' := [(1, .int kd), (0, .ref m0)]) hx hb dX1_end_4 rfl hl (by decide) rfl (fun ls hl => ?_)
  refine lv_aload_n hx hb dX1_end_5 rfl (lv_at hl 1 rfl) ?_
  refine va_get (D := D) (ci := 1) (v := .int kd) (C := RX1) (T := TX1) (N := 9) hx hb hts hin hown hK hP 0 rfl rfl 3 (by decide) lk13 (fun _ h9 => h9) rfl dX1_end_6 ?_
  refine lv_if_lt (tgt := 16) hx hb dX1_end_9 (by decide) (fun c1 => ?_) (fun c1 => ?_)
  · refine lv_iload_n hx hb dX1_end_16 rfl (lv_at hl 0 rfl) ?_
    have hres : kd = (mk_end (ro, sz, op, kd, tk, la, li, bt, mn)).1 := by
      first | rfl | (simp only [mk_end, if_pos c1]; done) | (simp [mk_end, if_pos c1]; done)
    have hre2 : (ro, sz, op, kd, tk, la, li, bt, mn) = (mk_end (ro, sz, op, kd, tk, la, li, bt, mn)).2 := by
      first | rfl | (simp only [mk_end, if_pos c1]; done) | (simp [mk_end, if_pos c1]; done)
    exact W.iret (v := kd) hx hb hr (fun t ht hW => ⟨⟨kd, (ro, sz, op, kd, tk, la, li, bt, mn), rfl, ⟨hres, hre2⟩, by show va_P D vwCl _ t.heap; rw [ht]; exact hP⟩, hS.F ht⟩) hS.2.2 dX1_end_17
  · refine lv_aload_n hx hb dX1_end_12 rfl (lv_at hl 1 rfl) ?_
    refine kk_mutV (cs := mkW cR cY m0 m1 m2) (ci := 1) (q0 := 0) (rest := []) ⟨hx, hb, hml, hown, hts⟩ (cM_close l D cR cY m0 m1 m2 ro sz op kd tk la li bt mn (hz c1)) (cwV 0 hts gX1_end_X1_close rfl rfl rfl (by decide +kernel) ⟨Nat.le_of_ble_eq_true rfl, Nat.le_of_ble_eq_true rfl⟩) hK hP hD hS rfl rfl rfl hl.1 rfl (Nat.le_of_ble_eq_true rfl) dX1_end_13 ⟨Nat.zero_le _, Nat.zero_le _⟩ (fun u2 H locs hu2 hP hS hzu2 hku2 => ?_)
    obtain ⟨ro2, sz2, op2, kd2, tk2, la2, li2, bt2, mn2⟩ := u2
    have eu2 : (ro2, sz2, op2, kd2, tk2, la2, li2, bt2, mn2) = mk_close (ro, sz, op, kd, tk, la, li, bt, mn) := hu2
    have hD : va_D A (mkW cR cY m0 m1 m2 (ro2, sz2, op2, kd2, tk2, la2, li2, bt2, mn2)) := kk_D_same hD rfl
    refine lv_iload_n hx hb dX1_end_16 rfl (lv_at hl 0 rfl) ?_
    have hres : kd = (mk_end (ro, sz, op, kd, tk, la, li, bt, mn)).1 := by
      first | rfl | (simp only [mk_end, ← eu2, if_neg c1]; done) | (simp [mk_end, ← eu2, if_neg c1]; done)
    have hre2 : (ro2, sz2, op2, kd2, tk2, la2, li2, bt2, mn2) = (mk_end (ro, sz, op, kd, tk, la, li, bt, mn)).2 := by
      first | rfl | (simp only [mk_end, ← eu2, if_neg c1]; done) | (simp [mk_end, ← eu2, if_neg c1]; done)
    exact W.iret (v := kd) hx hb hr (fun t ht hW => ⟨⟨kd, (ro2, sz2, op2, kd2, tk2, la2, li2, bt2, mn2), rfl, ⟨hres, hre2⟩, by show va_P D vwCl _ t.heap; rw [ht]; exact hP⟩, hS.F ht⟩) hS.2.2 dX1_end_17
set_option maxHeartbeats 4000000 in
set_option maxRecDepth 100000 in
theorem cM_mark (l : Launch) (D : va_G) (cR cY : ClassId) (m0 m1 m2 : Nat) (ro : Nat → Int32) (sz op kd tk la li : Int32) (bt : Nat → Int32) (mn : Int32)  : mkR l yX1_mark wsX1_mark ({ frames := 0, cells := 0, slots := 0, locals := 0 }) D cR cY m0 m1 m2 (ro, sz, op, kd, tk, la, li, bt, mn) [] (mk_mark (ro, sz, op, kd, tk, la, li, bt, mn)) := by
  refine kk_of (cc := cX1_mark) (maxL := 1) (ret := (some .int)) (by decide) rfl (Nat.le_of_ble_eq_true rfl) ?_
  intro p e s m below meth c ls hx hb hr hts hown hlocks hml hnm hP hK hD hl
  have hown : s.vm.findClass RX1 = some m.cls := hown
  have hl : lv_has ls 1 [(0, .ref m0)] := hl
  have hin : ∀ w ∈ wsX10, w ∈ wsX1_mark := by decide +kernel
  have lk13 := hts (.fieldLink RX1 13 "EventLineDeskModel" "kind" "I") (by decide +kernel)
  have lk50 := hts (.fieldLink RX1 50 "EventLineDeskModel" "taken" "I") (by decide +kernel)
  have lk23 := hts (.fieldLink RX1 23 "EventLineDeskModel" "size" "I") (by decide +kernel)
  refine lv_aload_n hx hb dX1_mark_0 rfl (lv_at hl 0 rfl) ?_
  refine va_get (D := D) (ci := 1) (v := .int kd) (C := RX1) (T := TX1) (N := 9) hx hb hts hin hown hK hP 0 rfl rfl 3 (by decide) lk13 (fun _ h9 => h9) rfl dX1_mark_1 ?_
  refine lv_if_lt (tgt := 11) hx hb dX1_mark_4 (by decide) (fun c1 => ?_) (fun c1 => ?_)
  · refine lv_aload_n hx hb dX1_mark_11 rfl (lv_at hl 0 rfl) ?_
    refine va_get (D := D) (ci := 1) (v := .int tk) (C := RX1) (T := TX1) (N := 9) hx hb hts hin hown hK hP 0 rfl rfl 4 (by decide) lk50 (fun _ h9 => h9) rfl dX1_mark_12 ?_
    refine lv_aload_n hx hb dX1_mark_15 rfl (lv_at hl 0 rfl) ?_
    refine va_get (D := D) (ci := 1) (v := .int sz) (C := RX1) (T := TX1) (N := 9) hx hb hts hin hown hK hP 0 rfl rfl 1 (by decide) lk23 (fun _ h9 => h9) rfl dX1_mark_16 ?_
    refine lv_iadd hx hb dX1_mark_19 ?_
    refine lv_topi (fun t2 et2 => ?_)
    have hres : t2 = mk_mark (ro, sz, op, kd, tk, la, li, bt, mn) := by
      subst et2
      first | rfl | (simp only [mk_mark, if_pos c1]; done) | (simp [mk_mark, if_pos c1]; done)
    exact W.iret (v := t2) hx hb hr (fun t ht hW => ⟨congrArg (fun z => Outcome.returned (some (Value.int z))) hres, ht⟩) (fun q h => absurd h List.not_mem_nil) dX1_mark_20
  · refine lv_iconst (v := (-1)) hx hb dX1_mark_7 (by decide) ?_
    refine lv_goto (tgt := 20) hx hb dX1_mark_8 (by decide) ?_
    have hres : (-1) = mk_mark (ro, sz, op, kd, tk, la, li, bt, mn) := by
      first | rfl | (simp only [mk_mark, if_neg c1]; done) | (simp [mk_mark, if_neg c1]; done)
    exact W.iret (v := (-1)) hx hb hr (fun t ht hW => ⟨congrArg (fun z => Outcome.returned (some (Value.int z))) hres, ht⟩) (fun q h => absurd h List.not_mem_nil) dX1_mark_20
set_option maxHeartbeats 4000000 in
set_option maxRecDepth 100000 in
theorem cM_back (l : Launch) (D : va_G) (cR cY : ClassId) (m0 m1 m2 : Nat) (ro : Nat → Int32) (sz op kd tk la li : Int32) (bt : Nat → Int32) (mn : Int32) (x1 : Int32) (hz : mk_ok sz) : mkI l yX1_back wsX1_back ({ frames := 0, cells := 0, slots := 0, locals := 0 }) D cR cY m0 m1 m2 (ro, sz, op, kd, tk, la, li, bt, mn) [.int x1] (mk_back (ro, sz, op, kd, tk, la, li, bt, mn) x1).1 (mk_back (ro, sz, op, kd, tk, la, li, bt, mn) x1).2 := by
  refine kk_of (cc := cX1_back) (maxL := 4) (ret := (some .boolean)) (by decide) rfl (Nat.le_of_ble_eq_true rfl) ?_
  intro p e s m below meth c ls hx hb hr hts hown hlocks hml hnm hP hK hD hl
  have hown : s.vm.findClass RX1 = some m.cls := hown
  have hl : lv_has ls 4 [(0, .ref m0), (1, .int x1)] := hl
  have hin : ∀ w ∈ wsX10, w ∈ wsX1_back := by decide +kernel
  have lk50 := hts (.fieldLink RX1 50 "EventLineDeskModel" "taken" "I") (by decide +kernel)
  have lk23 := hts (.fieldLink RX1 23 "EventLineDeskModel" "size" "I") (by decide +kernel)
  have lk7 := hts (.fieldLink RX1 7 "EventLineDeskModel" "row" "[I") (by decide +kernel)
  have lk17 := hts (.fieldLink RX1 17 "EventLineDeskModel" "last" "I") (by decide +kernel)
  have lk26 := hts (.fieldLink RX1 26 "EventLineDeskModel" "open" "I") (by decide +kernel)
  have lk13 := hts (.fieldLink RX1 13 "EventLineDeskModel" "kind" "I") (by decide +kernel)
  generalize hAe : kk_A (mkW cR cY m0 m1 m2 (ro, sz, op, kd, tk, la, li, bt, mn)) = A at hD ⊢
  have hS : va_S A s.heap s.heap [] := va_S.rf
  refine lv_iload_n hx hb dX1_back_0 rfl (lv_at hl 1 rfl) ?_
  refine lv_aload_n hx hb dX1_back_1 rfl (lv_at hl 0 rfl) ?_
  refine va_get (D := D) (ci := 1) (v := .int tk) (C := RX1) (T := TX1) (N := 9) hx hb hts hin hown hK hP 0 rfl rfl 4 (by decide) lk50 (fun _ h9 => h9) rfl dX1_back_2 ?_
  refine lv_isub hx hb dX1_back_5 ?_
  refine lv_topi (fun t1 et1 => ?_)
  refine lv_istore_n (lv' := [(2, .int t1), (0, .ref m0), (1, .int x1)]) hx hb dX1_back_6 rfl hl (by decide) rfl (fun ls hl => ?_)
  refine lv_iload_n hx hb dX1_back_7 rfl (lv_at hl 0 rfl) ?_
  refine lv_if_lt (tgt := 19) hx hb dX1_back_8 (by decide) (fun c2 => ?_) (fun c2 => ?_)
  · refine lv_iconst (v := 0) hx hb dX1_back_19 (by decide) ?_
    have hres : 0 = (mk_back (ro, sz, op, kd, tk, la, li, bt, mn) x1).1 := by
      subst et1
      first | rfl | (simp only [mk_back, mk_back2, mk_b2, if_pos c2]; done) | (simp [mk_back, mk_back2, mk_b2, if_pos c2]; done)
    have hre2 : (ro, sz, op, kd, tk, la, li, bt, mn) = (mk_back (ro, sz, op, kd, tk, la, li, bt, mn) x1).2 := by
      subst et1
      first | rfl | (simp only [mk_back, mk_back2, mk_b2, if_pos c2]; done) | (simp [mk_back, mk_back2, mk_b2, if_pos c2]; done)
    exact W.zret (v := 0) (ty := .boolean) hx hb hr rfl (fun t ht hW => ⟨⟨0, (ro, sz, op, kd, tk, la, li, bt, mn), rfl, ⟨hres, hre2⟩, by show va_P D vwCl _ t.heap; rw [ht]; exact hP⟩, hS.F ht⟩) hS.2.2 dX1_back_20
  · refine lv_iload_n hx hb dX1_back_11 rfl (lv_at hl 0 rfl) ?_
    refine lv_aload_n hx hb dX1_back_12 rfl (lv_at hl 1 rfl) ?_
    refine va_get (D := D) (ci := 1) (v := .int sz) (C := RX1) (T := TX1) (N := 9) hx hb hts hin hown hK hP 0 rfl rfl 1 (by decide) lk23 (fun _ h9 => h9) rfl dX1_back_13 ?_
    refine lv_icmp_le (tgt := 21) hx hb dX1_back_16 (by decide) (fun c3 => ?_) (fun c3 => ?_)
    · refine lv_iload_n hx hb dX1_back_21 rfl (lv_at hl 0 rfl) ?_
      refine lv_if_le (tgt := 36) hx hb dX1_back_22 (by decide) (fun c4 => ?_) (fun c4 => ?_)
      · refine lv_aload_n hx hb dX1_back_36 rfl (lv_at hl 1 rfl) ?_
        refine va_get (D := D) (ci := 1) (v := .int la) (C := RX1) (T := TX1) (N := 9) hx hb hts hin hown hK hP 0 rfl rfl 5 (by decide) lk17 (fun _ h9 => h9) rfl dX1_back_37 ?_
        refine lv_istore_n (lv' := [(3, .int la), (2, .int t1), (0, .ref m0), (1, .int x1)]) hx hb dX1_back_40 rfl hl (by decide) rfl (fun ls hl => ?_)
        refine lv_iload_n hx hb dX1_back_41 rfl (lv_at hl 0 rfl) ?_
        refine lv_bipush (v := 10) hx hb dX1_back_42 (by decide) ?_
        refine lv_icmp_eq (tgt := 49) hx hb dX1_back_44 (by decide) (fun c5 => ?_) (fun c5 => ?_)
        · refine lv_aload_n hx hb dX1_back_49 rfl (lv_at hl 2 rfl) ?_
          refine lv_iload_n hx hb dX1_back_50 rfl (lv_at hl 1 rfl) ?_
          refine va_put (D := D) (ci := 1) (v := .int t1) (ty := .int) (C := RX1) (T := TX1) (N := 9) hx hb hts hin tyX1 tyX1_ok nmX1 hown hK hP hD hS 0 rfl rfl 1 (by decide) lk23 (fun _ h9 => h9) rfl (by decide +kernel) rfl rfl (Nat.le_of_ble_eq_true rfl) dX1_back_51 (fun H locs hP hD hS => ?_)
          have hP : va_P D vwCl (mkW cR cY m0 m1 m2 (ro, t1, op, kd, tk, la, li, bt, mn)) H := hP
          have hD : va_D A (mkW cR cY m0 m1 m2 (ro, t1, op, kd, tk, la, li, bt, mn)) := hD
          refine lv_aload_n hx hb dX1_back_54 rfl (lv_at hl 2 rfl) ?_
          refine lv_iconst (v := 0) hx hb dX1_back_55 (by decide) ?_
          refine va_put (D := D) (ci := 1) (v := .int 0) (ty := .int) (C := RX1) (T := TX1) (N := 9) hx hb hts hin tyX1 tyX1_ok nmX1 hown hK hP hD hS 0 rfl rfl 2 (by decide) lk26 (fun _ h9 => h9) rfl (by decide +kernel) rfl rfl (Nat.le_of_ble_eq_true rfl) dX1_back_56 (fun H locs hP hD hS => ?_)
          have hP : va_P D vwCl (mkW cR cY m0 m1 m2 (ro, t1, 0, kd, tk, la, li, bt, mn)) H := hP
          have hD : va_D A (mkW cR cY m0 m1 m2 (ro, t1, 0, kd, tk, la, li, bt, mn)) := hD
          refine lv_aload_n hx hb dX1_back_59 rfl (lv_at hl 2 rfl) ?_
          refine lv_iconst (v := (-1)) hx hb dX1_back_60 (by decide) ?_
          refine va_put (D := D) (ci := 1) (v := .int (-1)) (ty := .int) (C := RX1) (T := TX1) (N := 9) hx hb hts hin tyX1 tyX1_ok nmX1 hown hK hP hD hS 0 rfl rfl 3 (by decide) lk13 (fun _ h9 => h9) rfl (by decide +kernel) rfl rfl (Nat.le_of_ble_eq_true rfl) dX1_back_61 (fun H locs hP hD hS => ?_)
          have hP : va_P D vwCl (mkW cR cY m0 m1 m2 (ro, t1, 0, (-1), tk, la, li, bt, mn)) H := hP
          have hD : va_D A (mkW cR cY m0 m1 m2 (ro, t1, 0, (-1), tk, la, li, bt, mn)) := hD
          refine lv_iconst (v := 1) hx hb dX1_back_64 (by decide) ?_
          have hres : 1 = (mk_back (ro, sz, op, kd, tk, la, li, bt, mn) x1).1 := by
            subst et1
            first | rfl | (simp only [mk_back, mk_back2, mk_b2, if_neg c2, if_pos c3, if_pos c4, if_pos c5]; done) | (simp [mk_back, mk_back2, mk_b2, if_neg c2, if_pos c3, if_pos c4, if_pos c5]; done)
          have hre2 : (ro, t1, 0, (-1), tk, la, li, bt, mn) = (mk_back (ro, sz, op, kd, tk, la, li, bt, mn) x1).2 := by
            subst et1
            first | rfl | (simp only [mk_back, mk_back2, mk_b2, if_neg c2, if_pos c3, if_pos c4, if_pos c5]; done) | (simp [mk_back, mk_back2, mk_b2, if_neg c2, if_pos c3, if_pos c4, if_pos c5]; done)
          exact W.zret (v := 1) (ty := .boolean) hx hb hr rfl (fun t ht hW => ⟨⟨1, (ro, t1, 0, (-1), tk, la, li, bt, mn), rfl, ⟨hres, hre2⟩, by show va_P D vwCl _ t.heap; rw [ht]; exact hP⟩, hS.F ht⟩) hS.2.2 dX1_back_65
        · refine lv_iconst (v := 0) hx hb dX1_back_47 (by decide) ?_
          have hres : 0 = (mk_back (ro, sz, op, kd, tk, la, li, bt, mn) x1).1 := by
            subst et1
            first | rfl | (simp only [mk_back, mk_back2, mk_b2, if_neg c2, if_pos c3, if_pos c4, if_neg c5]; done) | (simp [mk_back, mk_back2, mk_b2, if_neg c2, if_pos c3, if_pos c4, if_neg c5]; done)
          have hre2 : (ro, sz, op, kd, tk, la, li, bt, mn) = (mk_back (ro, sz, op, kd, tk, la, li, bt, mn) x1).2 := by
            subst et1
            first | rfl | (simp only [mk_back, mk_back2, mk_b2, if_neg c2, if_pos c3, if_pos c4, if_neg c5]; done) | (simp [mk_back, mk_back2, mk_b2, if_neg c2, if_pos c3, if_pos c4, if_neg c5]; done)
          exact W.zret (v := 0) (ty := .boolean) hx hb hr rfl (fun t ht hW => ⟨⟨0, (ro, sz, op, kd, tk, la, li, bt, mn), rfl, ⟨hres, hre2⟩, by show va_P D vwCl _ t.heap; rw [ht]; exact hP⟩, hS.F ht⟩) hS.2.2 dX1_back_48
      · refine lv_aload_n hx hb dX1_back_25 rfl (lv_at hl 1 rfl) ?_
        refine va_get (D := D) (ci := 1) (v := .ref m1) (C := RX1) (T := TX1) (N := 9) hx hb hts hin hown hK hP 0 rfl rfl 0 (by decide) lk7 (fun _ h9 => h9) rfl dX1_back_26 ?_
        refine lv_iload_n hx hb dX1_back_29 rfl (lv_at hl 0 rfl) ?_
        refine lv_iconst (v := 1) hx hb dX1_back_30 (by decide) ?_
        refine lv_isub hx hb dX1_back_31 ?_
        refine lv_topi (fun t6 et6 => ?_)
        refine va_iald hx hb hK hP 1 0 rfl rfl (by rw [et6]; exact mk_inK hz c3 c4) dX1_back_32 ?_
        refine lv_topi (fun t7 et7 => ?_)
        refine lv_goto (tgt := 40) hx hb dX1_back_33 (by decide) ?_
        refine lv_istore_n (lv' := [(3, .int t7), (2, .int t1), (0, .ref m0), (1, .int x1)]) hx hb dX1_back_40 rfl hl (by decide) rfl (fun ls hl => ?_)
        refine lv_iload_n hx hb dX1_back_41 rfl (lv_at hl 0 rfl) ?_
        refine lv_bipush (v := 10) hx hb dX1_back_42 (by decide) ?_
        refine lv_icmp_eq (tgt := 49) hx hb dX1_back_44 (by decide) (fun c8 => ?_) (fun c8 => ?_)
        · refine lv_aload_n hx hb dX1_back_49 rfl (lv_at hl 2 rfl) ?_
          refine lv_iload_n hx hb dX1_back_50 rfl (lv_at hl 1 rfl) ?_
          refine va_put (D := D) (ci := 1) (v := .int t1) (ty := .int) (C := RX1) (T := TX1) (N := 9) hx hb hts hin tyX1 tyX1_ok nmX1 hown hK hP hD hS 0 rfl rfl 1 (by decide) lk23 (fun _ h9 => h9) rfl (by decide +kernel) rfl rfl (Nat.le_of_ble_eq_true rfl) dX1_back_51 (fun H locs hP hD hS => ?_)
          have hP : va_P D vwCl (mkW cR cY m0 m1 m2 (ro, t1, op, kd, tk, la, li, bt, mn)) H := hP
          have hD : va_D A (mkW cR cY m0 m1 m2 (ro, t1, op, kd, tk, la, li, bt, mn)) := hD
          refine lv_aload_n hx hb dX1_back_54 rfl (lv_at hl 2 rfl) ?_
          refine lv_iconst (v := 0) hx hb dX1_back_55 (by decide) ?_
          refine va_put (D := D) (ci := 1) (v := .int 0) (ty := .int) (C := RX1) (T := TX1) (N := 9) hx hb hts hin tyX1 tyX1_ok nmX1 hown hK hP hD hS 0 rfl rfl 2 (by decide) lk26 (fun _ h9 => h9) rfl (by decide +kernel) rfl rfl (Nat.le_of_ble_eq_true rfl) dX1_back_56 (fun H locs hP hD hS => ?_)
          have hP : va_P D vwCl (mkW cR cY m0 m1 m2 (ro, t1, 0, kd, tk, la, li, bt, mn)) H := hP
          have hD : va_D A (mkW cR cY m0 m1 m2 (ro, t1, 0, kd, tk, la, li, bt, mn)) := hD
          refine lv_aload_n hx hb dX1_back_59 rfl (lv_at hl 2 rfl) ?_
          refine lv_iconst (v := (-1)) hx hb dX1_back_60 (by decide) ?_
          refine va_put (D := D) (ci := 1) (v := .int (-1)) (ty := .int) (C := RX1) (T := TX1) (N := 9) hx hb hts hin tyX1 tyX1_ok nmX1 hown hK hP hD hS 0 rfl rfl 3 (by decide) lk13 (fun _ h9 => h9) rfl (by decide +kernel) rfl rfl (Nat.le_of_ble_eq_true rfl) dX1_back_61 (fun H locs hP hD hS => ?_)
          have hP : va_P D vwCl (mkW cR cY m0 m1 m2 (ro, t1, 0, (-1), tk, la, li, bt, mn)) H := hP
          have hD : va_D A (mkW cR cY m0 m1 m2 (ro, t1, 0, (-1), tk, la, li, bt, mn)) := hD
          refine lv_iconst (v := 1) hx hb dX1_back_64 (by decide) ?_
          have hres : 1 = (mk_back (ro, sz, op, kd, tk, la, li, bt, mn) x1).1 := by
            subst et7 et6 et1
            first | rfl | (simp only [mk_back, mk_back2, mk_b2, if_neg c2, if_pos c3, if_neg c4, if_pos c8]; done) | (simp [mk_back, mk_back2, mk_b2, if_neg c2, if_pos c3, if_neg c4, if_pos c8]; done)
          have hre2 : (ro, t1, 0, (-1), tk, la, li, bt, mn) = (mk_back (ro, sz, op, kd, tk, la, li, bt, mn) x1).2 := by
            subst et7 et6 et1
            first | rfl | (simp only [mk_back, mk_back2, mk_b2, if_neg c2, if_pos c3, if_neg c4, if_pos c8]; done) | (simp [mk_back, mk_back2, mk_b2, if_neg c2, if_pos c3, if_neg c4, if_pos c8]; done)
          exact W.zret (v := 1) (ty := .boolean) hx hb hr rfl (fun t ht hW => ⟨⟨1, (ro, t1, 0, (-1), tk, la, li, bt, mn), rfl, ⟨hres, hre2⟩, by show va_P D vwCl _ t.heap; rw [ht]; exact hP⟩, hS.F ht⟩) hS.2.2 dX1_back_65
        · refine lv_iconst (v := 0) hx hb dX1_back_47 (by decide) ?_
          have hres : 0 = (mk_back (ro, sz, op, kd, tk, la, li, bt, mn) x1).1 := by
            subst et7 et6 et1
            first | rfl | (simp only [mk_back, mk_back2, mk_b2, if_neg c2, if_pos c3, if_neg c4, if_neg c8]; done) | (simp [mk_back, mk_back2, mk_b2, if_neg c2, if_pos c3, if_neg c4, if_neg c8]; done)
          have hre2 : (ro, sz, op, kd, tk, la, li, bt, mn) = (mk_back (ro, sz, op, kd, tk, la, li, bt, mn) x1).2 := by
            subst et7 et6 et1
            first | rfl | (simp only [mk_back, mk_back2, mk_b2, if_neg c2, if_pos c3, if_neg c4, if_neg c8]; done) | (simp [mk_back, mk_back2, mk_b2, if_neg c2, if_pos c3, if_neg c4, if_neg c8]; done)
          exact W.zret (v := 0) (ty := .boolean) hx hb hr rfl (fun t ht hW => ⟨⟨0, (ro, sz, op, kd, tk, la, li, bt, mn), rfl, ⟨hres, hre2⟩, by show va_P D vwCl _ t.heap; rw [ht]; exact hP⟩, hS.F ht⟩) hS.2.2 dX1_back_48
    · refine lv_iconst (v := 0) hx hb dX1_back_19 (by decide) ?_
      have hres : 0 = (mk_back (ro, sz, op, kd, tk, la, li, bt, mn) x1).1 := by
        subst et1
        first | rfl | (simp only [mk_back, mk_back2, mk_b2, if_neg c2, if_neg c3]; done) | (simp [mk_back, mk_back2, mk_b2, if_neg c2, if_neg c3]; done)
      have hre2 : (ro, sz, op, kd, tk, la, li, bt, mn) = (mk_back (ro, sz, op, kd, tk, la, li, bt, mn) x1).2 := by
        subst et1
        first | rfl | (simp only [mk_back, mk_back2, mk_b2, if_neg c2, if_neg c3]; done) | (simp [mk_back, mk_back2, mk_b2, if_neg c2, if_neg c3]; done)
      exact W.zret (v := 0) (ty := .boolean) hx hb hr rfl (fun t ht hW => ⟨⟨0, (ro, sz, op, kd, tk, la, li, bt, mn), rfl, ⟨hres, hre2⟩, by show va_P D vwCl _ t.heap; rw [ht]; exact hP⟩, hS.F ht⟩) hS.2.2 dX1_back_20
end
section
set_option maxHeartbeats 4000000 in
set_option maxRecDepth 100000 in
theorem cM_code (l : Launch) (D : va_G) (cR cY : ClassId) (m0 m1 m2 : Nat) (ro : Nat → Int32) (sz op kd tk la li : Int32) (bt : Nat → Int32) (mn : Int32) (x1 : Int32) : mkI l yX1_code wsX1_code ({ frames := 0, cells := 0, slots := 0, locals := 0 }) D cR cY m0 m1 m2 (ro, sz, op, kd, tk, la, li, bt, mn) [.int x1] (mk_code (ro, sz, op, kd, tk, la, li, bt, mn) x1).1 (mk_code (ro, sz, op, kd, tk, la, li, bt, mn) x1).2 := by
  refine kk_of (cc := cX1_code) (maxL := 4) (ret := (some .boolean)) (by decide) rfl (Nat.le_of_ble_eq_true rfl) ?_
  intro p e s m below meth c ls hx hb hr hts hown hlocks hml hnm hP hK hD hl
  have hown : s.vm.findClass RX1 = some m.cls := hown
  have hl : lv_has ls 4 [(0, .ref m0), (1, .int x1)] := hl
  have hin : ∀ w ∈ wsX10, w ∈ wsX1_code := by decide +kernel
  have lk33 := hts (.fieldLink RX1 33 "EventLineDeskModel" "many" "I") (by decide +kernel)
  have lk20 := hts (.fieldLink RX1 20 "EventLineDeskModel" "bytes" "[I") (by decide +kernel)
  generalize hAe : kk_A (mkW cR cY m0 m1 m2 (ro, sz, op, kd, tk, la, li, bt, mn)) = A at hD ⊢
  have hS : va_S A s.heap s.heap [] := va_S.rf
  refine lv_iload_n hx hb dX1_code_0 rfl (lv_at hl 1 rfl) ?_
  refine lv_if_lt (tgt := 22) hx hb dX1_code_1 (by decide) (fun c1 => ?_) (fun c1 => ?_)
  · refine lv_iconst (v := 0) hx hb dX1_code_22 (by decide) ?_
    have hres : 0 = (mk_code (ro, sz, op, kd, tk, la, li, bt, mn) x1).1 := by
      first | rfl | (simp only [mk_code, mk_c3, mk_cm, mk_sb, mk_by1, mk_by2, mk_by3, mk_by4, mk_c4, mk_rem, if_pos c1]; done) | (simp [mk_code, mk_c3, mk_cm, mk_sb, mk_by1, mk_by2, mk_by3, mk_by4, mk_c4, mk_rem, if_pos c1]; done)
    have hre2 : (ro, sz, op, kd, tk, la, li, bt, mn) = (mk_code (ro, sz, op, kd, tk, la, li, bt, mn) x1).2 := by
      first | rfl | (simp only [mk_code, mk_c3, mk_cm, mk_sb, mk_by1, mk_by2, mk_by3, mk_by4, mk_c4, mk_rem, if_pos c1]; done) | (simp [mk_code, mk_c3, mk_cm, mk_sb, mk_by1, mk_by2, mk_by3, mk_by4, mk_c4, mk_rem, if_pos c1]; done)
    exact W.zret (v := 0) (ty := .boolean) hx hb hr rfl (fun t ht hW => ⟨⟨0, (ro, sz, op, kd, tk, la, li, bt, mn), rfl, ⟨hres, hre2⟩, by show va_P D vwCl _ t.heap; rw [ht]; exact hP⟩, hS.F ht⟩) hS.2.2 dX1_code_23
  · refine lv_iload_n hx hb dX1_code_4 rfl (lv_at hl 1 rfl) ?_
    refine lv_ldc (v := 1114111) hx hb hown (hts (.constant RX1 29 (1114111)) (by decide +kernel)) dX1_code_5 ?_
    refine lv_icmp_gt (tgt := 22) hx hb dX1_code_7 (by decide) (fun c2 => ?_) (fun c2 => ?_)
    · refine lv_iconst (v := 0) hx hb dX1_code_22 (by decide) ?_
      have hres : 0 = (mk_code (ro, sz, op, kd, tk, la, li, bt, mn) x1).1 := by
        first | rfl | (simp only [mk_code, mk_c3, mk_cm, mk_sb, mk_by1, mk_by2, mk_by3, mk_by4, mk_c4, mk_rem, if_neg c1, if_pos c2]; done) | (simp [mk_code, mk_c3, mk_cm, mk_sb, mk_by1, mk_by2, mk_by3, mk_by4, mk_c4, mk_rem, if_neg c1, if_pos c2]; done)
      have hre2 : (ro, sz, op, kd, tk, la, li, bt, mn) = (mk_code (ro, sz, op, kd, tk, la, li, bt, mn) x1).2 := by
        first | rfl | (simp only [mk_code, mk_c3, mk_cm, mk_sb, mk_by1, mk_by2, mk_by3, mk_by4, mk_c4, mk_rem, if_neg c1, if_pos c2]; done) | (simp [mk_code, mk_c3, mk_cm, mk_sb, mk_by1, mk_by2, mk_by3, mk_by4, mk_c4, mk_rem, if_neg c1, if_pos c2]; done)
      exact W.zret (v := 0) (ty := .boolean) hx hb hr rfl (fun t ht hW => ⟨⟨0, (ro, sz, op, kd, tk, la, li, bt, mn), rfl, ⟨hres, hre2⟩, by show va_P D vwCl _ t.heap; rw [ht]; exact hP⟩, hS.F ht⟩) hS.2.2 dX1_code_23
    · refine lv_iload_n hx hb dX1_code_10 rfl (lv_at hl 1 rfl) ?_
      refine lv_ldc (v := 55296) hx hb hown (hts (.constant RX1 30 (55296)) (by decide +kernel)) dX1_code_11 ?_
      refine lv_icmp_lt (tgt := 24) hx hb dX1_code_13 (by decide) (fun c3 => ?_) (fun c3 => ?_)
      · refine lv_aload_n hx hb dX1_code_24 rfl (lv_at hl 0 rfl) ?_
        refine lv_iload_n hx hb dX1_code_25 rfl (lv_at hl 1 rfl) ?_
        refine lv_sipush (v := 128) hx hb dX1_code_26 (by decide) ?_
        refine lv_icmp_ge (tgt := 36) hx hb dX1_code_29 (by decide) (fun c4 => ?_) (fun c4 => ?_)
        · refine lv_iload_n hx hb dX1_code_36 rfl (lv_at hl 1 rfl) ?_
          refine lv_sipush (v := 2048) hx hb dX1_code_37 (by decide) ?_
          refine lv_icmp_ge (tgt := 47) hx hb dX1_code_40 (by decide) (fun c5 => ?_) (fun c5 => ?_)
          · refine lv_iload_n hx hb dX1_code_47 rfl (lv_at hl 1 rfl) ?_
            refine lv_ldc (v := 65536) hx hb hown (hts (.constant RX1 32 (65536)) (by decide +kernel)) dX1_code_48 ?_
            refine lv_icmp_ge (tgt := 57) hx hb dX1_code_50 (by decide) (fun c6 => ?_) (fun c6 => ?_)
            · refine lv_iconst (v := 4) hx hb dX1_code_57 (by decide) ?_
              refine va_put (D := D) (ci := 1) (v := .int 4) (ty := .int) (C := RX1) (T := TX1) (N := 9) hx hb hts hin tyX1 tyX1_ok nmX1 hown hK hP hD hS 0 rfl rfl 8 (by decide) lk33 (fun _ h9 => h9) rfl (by decide +kernel) rfl rfl (Nat.le_of_ble_eq_true rfl) dX1_code_58 (fun H locs hP hD hS => ?_)
              have hP : va_P D vwCl (mkW cR cY m0 m1 m2 (ro, sz, op, kd, tk, la, li, bt, 4)) H := hP
              have hD : va_D A (mkW cR cY m0 m1 m2 (ro, sz, op, kd, tk, la, li, bt, 4)) := hD
              refine lv_iload_n hx hb dX1_code_61 rfl (lv_at hl 1 rfl) ?_
              refine lv_istore_n (lv' := [(2, .int x1), (0, .ref m0), (1, .int x1)]) hx hb dX1_code_62 rfl hl (by decide) rfl (fun ls hl => ?_)
              refine lv_aload_n hx hb dX1_code_63 rfl (lv_at hl 1 rfl) ?_
              refine va_get (D := D) (ci := 1) (v := .int 4) (C := RX1) (T := TX1) (N := 9) hx hb hts hin hown hK hP 0 rfl rfl 8 (by decide) lk33 (fun _ h9 => h9) rfl dX1_code_64 ?_
              refine lv_iconst (v := 1) hx hb dX1_code_67 (by decide) ?_
              refine lv_isub hx hb dX1_code_68 ?_
              refine lv_topi (fun t7 et7 => ?_)
              obtain rfl : t7 = 3 := by rw [et7]; decide
              refine lv_istore_n (lv' := [(3, .int 3), (2, .int x1), (0, .ref m0), (1, .int x1)]) hx hb dX1_code_69 rfl hl (by decide) rfl (fun ls hl => ?_)
              refine lv_iload_n hx hb dX1_code_70 rfl (lv_at hl 0 rfl) ?_
              refine lv_if_le (tgt := 99) hx hb dX1_code_71 (by decide) (fun c8 => ?_) (fun c8 => ?_)
              · exact absurd c8 (by decide)
              · refine lv_aload_n hx hb dX1_code_74 rfl (lv_at hl 2 rfl) ?_
                refine va_get (D := D) (ci := 1) (v := .ref m2) (C := RX1) (T := TX1) (N := 9) hx hb hts hin hown hK hP 0 rfl rfl 7 (by decide) lk20 (fun _ h9 => h9) rfl dX1_code_75 ?_
                refine lv_iload_n hx hb dX1_code_78 rfl (lv_at hl 0 rfl) ?_
                refine lv_sipush (v := 128) hx hb dX1_code_79 (by decide) ?_
                refine lv_iload_n hx hb dX1_code_82 rfl (lv_at hl 1 rfl) ?_
                refine lv_bipush (v := 64) hx hb dX1_code_83 (by decide) ?_
                refine lv_irem hx hb dX1_code_85 (by decide) ?_
                refine lv_topi (fun t9 et9 => ?_)
                refine lv_iadd hx hb dX1_code_86 ?_
                refine lv_topi (fun t10 et10 => ?_)
                refine va_iast hx hb hK hP hD hS 2 1 rfl rfl (show ¬ ((3 : Int32) < 0 ∨ 4 ≤ (3 : Int32).toNatClampNeg) from by decide) dX1_code_87 (fun H locs hP hD hS => ?_)
                obtain ⟨g11, eg11⟩ : ∃ y : Nat → Int32, y = upd bt (3 : Int32).toNatClampNeg t10 := ⟨_, rfl⟩
                have hP : va_P D vwCl (mkW cR cY m0 m1 m2 (ro, sz, op, kd, tk, la, li, g11, 4)) H := by rw [eg11]; exact hP
                have hD : va_D A (mkW cR cY m0 m1 m2 (ro, sz, op, kd, tk, la, li, g11, 4)) := kk_D_same hD rfl
                refine lv_iload_n hx hb dX1_code_88 rfl (lv_at hl 1 rfl) ?_
                refine lv_bipush (v := 64) hx hb dX1_code_89 (by decide) ?_
                refine lv_idiv hx hb dX1_code_91 (by decide) ?_
                refine lv_topi (fun t12 et12 => ?_)
                refine lv_istore_n (lv' := [(2, .int t12), (3, .int 3), (0, .ref m0), (1, .int x1)]) hx hb dX1_code_92 rfl hl (by decide) rfl (fun ls hl => ?_)
                refine lv_iinc (v := 2) (lv' := [(3, .int 2), (2, .int t12), (0, .ref m0), (1, .int x1)]) hx hb dX1_code_93 hl (k := 1) rfl (by decide) (by decide) rfl (fun ls hl => ?_)
                refine lv_goto (tgt := 70) hx hb dX1_code_96 (by decide) ?_
                refine lv_iload_n hx hb dX1_code_70 rfl (lv_at hl 0 rfl) ?_
                refine lv_if_le (tgt := 99) hx hb dX1_code_71 (by decide) (fun c14 => ?_) (fun c14 => ?_)
                · exact absurd c14 (by decide)
                · refine lv_aload_n hx hb dX1_code_74 rfl (lv_at hl 2 rfl) ?_
                  refine va_get (D := D) (ci := 1) (v := .ref m2) (C := RX1) (T := TX1) (N := 9) hx hb hts hin hown hK hP 0 rfl rfl 7 (by decide) lk20 (fun _ h9 => h9) rfl dX1_code_75 ?_
                  refine lv_iload_n hx hb dX1_code_78 rfl (lv_at hl 0 rfl) ?_
                  refine lv_sipush (v := 128) hx hb dX1_code_79 (by decide) ?_
                  refine lv_iload_n hx hb dX1_code_82 rfl (lv_at hl 1 rfl) ?_
                  refine lv_bipush (v := 64) hx hb dX1_code_83 (by decide) ?_
                  refine lv_irem hx hb dX1_code_85 (by decide) ?_
                  refine lv_topi (fun t15 et15 => ?_)
                  refine lv_iadd hx hb dX1_code_86 ?_
                  refine lv_topi (fun t16 et16 => ?_)
                  refine va_iast hx hb hK hP hD hS 2 1 rfl rfl (show ¬ ((2 : Int32) < 0 ∨ 4 ≤ (2 : Int32).toNatClampNeg) from by decide) dX1_code_87 (fun H locs hP hD hS => ?_)
                  obtain ⟨g17, eg17⟩ : ∃ y : Nat → Int32, y = upd g11 (2 : Int32).toNatClampNeg t16 := ⟨_, rfl⟩
                  have hP : va_P D vwCl (mkW cR cY m0 m1 m2 (ro, sz, op, kd, tk, la, li, g17, 4)) H := by rw [eg17]; exact hP
                  have hD : va_D A (mkW cR cY m0 m1 m2 (ro, sz, op, kd, tk, la, li, g17, 4)) := kk_D_same hD rfl
                  refine lv_iload_n hx hb dX1_code_88 rfl (lv_at hl 1 rfl) ?_
                  refine lv_bipush (v := 64) hx hb dX1_code_89 (by decide) ?_
                  refine lv_idiv hx hb dX1_code_91 (by decide) ?_
                  refine lv_topi (fun t18 et18 => ?_)
                  refine lv_istore_n (lv' := [(2, .int t18), (3, .int 2), (0, .ref m0), (1, .int x1)]) hx hb dX1_code_92 rfl hl (by decide) rfl (fun ls hl => ?_)
                  refine lv_iinc (v := 1) (lv' := [(3, .int 1), (2, .int t18), (0, .ref m0), (1, .int x1)]) hx hb dX1_code_93 hl (k := 1) rfl (by decide) (by decide) rfl (fun ls hl => ?_)
                  refine lv_goto (tgt := 70) hx hb dX1_code_96 (by decide) ?_
                  refine lv_iload_n hx hb dX1_code_70 rfl (lv_at hl 0 rfl) ?_
                  refine lv_if_le (tgt := 99) hx hb dX1_code_71 (by decide) (fun c20 => ?_) (fun c20 => ?_)
                  · exact absurd c20 (by decide)
                  · refine lv_aload_n hx hb dX1_code_74 rfl (lv_at hl 2 rfl) ?_
                    refine va_get (D := D) (ci := 1) (v := .ref m2) (C := RX1) (T := TX1) (N := 9) hx hb hts hin hown hK hP 0 rfl rfl 7 (by decide) lk20 (fun _ h9 => h9) rfl dX1_code_75 ?_
                    refine lv_iload_n hx hb dX1_code_78 rfl (lv_at hl 0 rfl) ?_
                    refine lv_sipush (v := 128) hx hb dX1_code_79 (by decide) ?_
                    refine lv_iload_n hx hb dX1_code_82 rfl (lv_at hl 1 rfl) ?_
                    refine lv_bipush (v := 64) hx hb dX1_code_83 (by decide) ?_
                    refine lv_irem hx hb dX1_code_85 (by decide) ?_
                    refine lv_topi (fun t21 et21 => ?_)
                    refine lv_iadd hx hb dX1_code_86 ?_
                    refine lv_topi (fun t22 et22 => ?_)
                    refine va_iast hx hb hK hP hD hS 2 1 rfl rfl (show ¬ ((1 : Int32) < 0 ∨ 4 ≤ (1 : Int32).toNatClampNeg) from by decide) dX1_code_87 (fun H locs hP hD hS => ?_)
                    obtain ⟨g23, eg23⟩ : ∃ y : Nat → Int32, y = upd g17 (1 : Int32).toNatClampNeg t22 := ⟨_, rfl⟩
                    have hP : va_P D vwCl (mkW cR cY m0 m1 m2 (ro, sz, op, kd, tk, la, li, g23, 4)) H := by rw [eg23]; exact hP
                    have hD : va_D A (mkW cR cY m0 m1 m2 (ro, sz, op, kd, tk, la, li, g23, 4)) := kk_D_same hD rfl
                    refine lv_iload_n hx hb dX1_code_88 rfl (lv_at hl 1 rfl) ?_
                    refine lv_bipush (v := 64) hx hb dX1_code_89 (by decide) ?_
                    refine lv_idiv hx hb dX1_code_91 (by decide) ?_
                    refine lv_topi (fun t24 et24 => ?_)
                    refine lv_istore_n (lv' := [(2, .int t24), (3, .int 1), (0, .ref m0), (1, .int x1)]) hx hb dX1_code_92 rfl hl (by decide) rfl (fun ls hl => ?_)
                    refine lv_iinc (v := 0) (lv' := [(3, .int 0), (2, .int t24), (0, .ref m0), (1, .int x1)]) hx hb dX1_code_93 hl (k := 1) rfl (by decide) (by decide) rfl (fun ls hl => ?_)
                    refine lv_goto (tgt := 70) hx hb dX1_code_96 (by decide) ?_
                    refine lv_iload_n hx hb dX1_code_70 rfl (lv_at hl 0 rfl) ?_
                    refine lv_if_le (tgt := 99) hx hb dX1_code_71 (by decide) (fun c26 => ?_) (fun c26 => ?_)
                    · refine lv_aload_n hx hb dX1_code_99 rfl (lv_at hl 2 rfl) ?_
                      refine va_get (D := D) (ci := 1) (v := .ref m2) (C := RX1) (T := TX1) (N := 9) hx hb hts hin hown hK hP 0 rfl rfl 7 (by decide) lk20 (fun _ h9 => h9) rfl dX1_code_100 ?_
                      refine lv_iconst (v := 0) hx hb dX1_code_103 (by decide) ?_
                      refine lv_aload_n hx hb dX1_code_104 rfl (lv_at hl 2 rfl) ?_
                      refine va_get (D := D) (ci := 1) (v := .int 4) (C := RX1) (T := TX1) (N := 9) hx hb hts hin hown hK hP 0 rfl rfl 8 (by decide) lk33 (fun _ h9 => h9) rfl dX1_code_105 ?_
                      refine lv_iconst (v := 1) hx hb dX1_code_108 (by decide) ?_
                      refine lv_icmp_ne (tgt := 116) hx hb dX1_code_109 (by decide) (fun c27 => ?_) (fun c27 => ?_)
                      · refine lv_aload_n hx hb dX1_code_116 rfl (lv_at hl 2 rfl) ?_
                        refine va_get (D := D) (ci := 1) (v := .int 4) (C := RX1) (T := TX1) (N := 9) hx hb hts hin hown hK hP 0 rfl rfl 8 (by decide) lk33 (fun _ h9 => h9) rfl dX1_code_117 ?_
                        refine lv_iconst (v := 2) hx hb dX1_code_120 (by decide) ?_
                        refine lv_icmp_ne (tgt := 132) hx hb dX1_code_121 (by decide) (fun c28 => ?_) (fun c28 => ?_)
                        · refine lv_aload_n hx hb dX1_code_132 rfl (lv_at hl 2 rfl) ?_
                          refine va_get (D := D) (ci := 1) (v := .int 4) (C := RX1) (T := TX1) (N := 9) hx hb hts hin hown hK hP 0 rfl rfl 8 (by decide) lk33 (fun _ h9 => h9) rfl dX1_code_133 ?_
                          refine lv_iconst (v := 3) hx hb dX1_code_136 (by decide) ?_
                          refine lv_icmp_ne (tgt := 148) hx hb dX1_code_137 (by decide) (fun c29 => ?_) (fun c29 => ?_)
                          · refine lv_sipush (v := 240) hx hb dX1_code_148 (by decide) ?_
                            refine lv_iload_n hx hb dX1_code_151 rfl (lv_at hl 1 rfl) ?_
                            refine lv_iadd hx hb dX1_code_152 ?_
                            refine lv_topi (fun t30 et30 => ?_)
                            refine va_iast hx hb hK hP hD hS 2 1 rfl rfl (show ¬ ((0 : Int32) < 0 ∨ 4 ≤ (0 : Int32).toNatClampNeg) from by decide) dX1_code_153 (fun H locs hP hD hS => ?_)
                            obtain ⟨g31, eg31⟩ : ∃ y : Nat → Int32, y = upd g23 (0 : Int32).toNatClampNeg t30 := ⟨_, rfl⟩
                            have hP : va_P D vwCl (mkW cR cY m0 m1 m2 (ro, sz, op, kd, tk, la, li, g31, 4)) H := by rw [eg31]; exact hP
                            have hD : va_D A (mkW cR cY m0 m1 m2 (ro, sz, op, kd, tk, la, li, g31, 4)) := kk_D_same hD rfl
                            refine lv_iload_n hx hb dX1_code_154 rfl (lv_at hl 3 rfl) ?_
                            refine lv_bipush (v := 92) hx hb dX1_code_155 (by decide) ?_
                            refine lv_icmp_ne (tgt := 165) hx hb dX1_code_157 (by decide) (fun c32 => ?_) (fun c32 => ?_)
                            · refine lv_iload_n hx hb dX1_code_165 rfl (lv_at hl 3 rfl) ?_
                              refine lv_bipush (v := 10) hx hb dX1_code_166 (by decide) ?_
                              refine lv_icmp_ne (tgt := 176) hx hb dX1_code_168 (by decide) (fun c33 => ?_) (fun c33 => ?_)
                              · refine lv_iload_n hx hb dX1_code_176 rfl (lv_at hl 3 rfl) ?_
                                refine lv_bipush (v := 9) hx hb dX1_code_177 (by decide) ?_
                                refine lv_icmp_ne (tgt := 187) hx hb dX1_code_179 (by decide) (fun c34 => ?_) (fun c34 => ?_)
                                · refine lv_iload_n hx hb dX1_code_187 rfl (lv_at hl 3 rfl) ?_
                                  refine lv_bipush (v := 13) hx hb dX1_code_188 (by decide) ?_
                                  refine lv_icmp_ne (tgt := 198) hx hb dX1_code_190 (by decide) (fun c35 => ?_) (fun c35 => ?_)
                                  · refine lv_iconst (v := 0) hx hb dX1_code_198 (by decide) ?_
                                    refine lv_istore_n (lv' := [(3, .int 0), (2, .int t24), (0, .ref m0), (1, .int x1)]) hx hb dX1_code_199 rfl hl (by decide) rfl (fun ls hl => ?_)
                                    refine lv_iload_n hx hb dX1_code_200 rfl (lv_at hl 0 rfl) ?_
                                    refine lv_if_le (tgt := 224) hx hb dX1_code_201 (by decide) (fun c36 => ?_) (fun c36 => ?_)
                                    · refine lv_iconst (v := 1) hx hb dX1_code_224 (by decide) ?_
                                      have hres : 1 = (mk_code (ro, sz, op, kd, tk, la, li, bt, mn) x1).1 := by
                                        subst eg31 et30 et24 eg23 et22 et21 et18 eg17 et16 et15 et12 eg11 et10 et9
                                        first | rfl | (simp only [mk_code, mk_c3, mk_cm, mk_sb, mk_by1, mk_by2, mk_by3, mk_by4, mk_c4, mk_rem, if_neg c1, if_neg c2, if_pos c3, if_pos c4, if_pos c5, if_pos c6, if_pos c32, if_pos c33, if_pos c34, if_pos c35]; done) | (simp [mk_code, mk_c3, mk_cm, mk_sb, mk_by1, mk_by2, mk_by3, mk_by4, mk_c4, mk_rem, if_neg c1, if_neg c2, if_pos c3, if_pos c4, if_pos c5, if_pos c6, if_pos c32, if_pos c33, if_pos c34, if_pos c35]; done)
                                      have hre2 : (ro, sz, op, kd, tk, la, li, g31, 4) = (mk_code (ro, sz, op, kd, tk, la, li, bt, mn) x1).2 := by
                                        subst eg31 et30 et24 eg23 et22 et21 et18 eg17 et16 et15 et12 eg11 et10 et9
                                        first | rfl | (simp only [mk_code, mk_c3, mk_cm, mk_sb, mk_by1, mk_by2, mk_by3, mk_by4, mk_c4, mk_rem, if_neg c1, if_neg c2, if_pos c3, if_pos c4, if_pos c5, if_pos c6, if_pos c32, if_pos c33, if_pos c34, if_pos c35]; done) | (simp [mk_code, mk_c3, mk_cm, mk_sb, mk_by1, mk_by2, mk_by3, mk_by4, mk_c4, mk_rem, if_neg c1, if_neg c2, if_pos c3, if_pos c4, if_pos c5, if_pos c6, if_pos c32, if_pos c33, if_pos c34, if_pos c35]; done)
                                      exact W.zret (v := 1) (ty := .boolean) hx hb hr rfl (fun t ht hW => ⟨⟨1, (ro, sz, op, kd, tk, la, li, g31, 4), rfl, ⟨hres, hre2⟩, by show va_P D vwCl _ t.heap; rw [ht]; exact hP⟩, hS.F ht⟩) hS.2.2 dX1_code_225
                                    · exact absurd c36 (by decide)
                                  · refine lv_bipush (v := 114) hx hb dX1_code_193 (by decide) ?_
                                    refine lv_goto (tgt := 199) hx hb dX1_code_195 (by decide) ?_
                                    refine lv_istore_n (lv' := [(3, .int 114), (2, .int t24), (0, .ref m0), (1, .int x1)]) hx hb dX1_code_199 rfl hl (by decide) rfl (fun ls hl => ?_)
                                    refine lv_iload_n hx hb dX1_code_200 rfl (lv_at hl 0 rfl) ?_
                                    refine lv_if_le (tgt := 224) hx hb dX1_code_201 (by decide) (fun c37 => ?_) (fun c37 => ?_)
                                    · exact absurd c37 (by decide)
                                    · refine lv_aload_n hx hb dX1_code_204 rfl (lv_at hl 2 rfl) ?_
                                      refine lv_iconst (v := 2) hx hb dX1_code_205 (by decide) ?_
                                      refine va_put (D := D) (ci := 1) (v := .int 2) (ty := .int) (C := RX1) (T := TX1) (N := 9) hx hb hts hin tyX1 tyX1_ok nmX1 hown hK hP hD hS 0 rfl rfl 8 (by decide) lk33 (fun _ h9 => h9) rfl (by decide +kernel) rfl rfl (Nat.le_of_ble_eq_true rfl) dX1_code_206 (fun H locs hP hD hS => ?_)
                                      have hP : va_P D vwCl (mkW cR cY m0 m1 m2 (ro, sz, op, kd, tk, la, li, g31, 2)) H := hP
                                      have hD : va_D A (mkW cR cY m0 m1 m2 (ro, sz, op, kd, tk, la, li, g31, 2)) := hD
                                      refine lv_aload_n hx hb dX1_code_209 rfl (lv_at hl 2 rfl) ?_
                                      refine va_get (D := D) (ci := 1) (v := .ref m2) (C := RX1) (T := TX1) (N := 9) hx hb hts hin hown hK hP 0 rfl rfl 7 (by decide) lk20 (fun _ h9 => h9) rfl dX1_code_210 ?_
                                      refine lv_iconst (v := 0) hx hb dX1_code_213 (by decide) ?_
                                      refine lv_bipush (v := 92) hx hb dX1_code_214 (by decide) ?_
                                      refine va_iast hx hb hK hP hD hS 2 1 rfl rfl (show ¬ ((0 : Int32) < 0 ∨ 4 ≤ (0 : Int32).toNatClampNeg) from by decide) dX1_code_216 (fun H locs hP hD hS => ?_)
                                      obtain ⟨g38, eg38⟩ : ∃ y : Nat → Int32, y = upd g31 (0 : Int32).toNatClampNeg (92 : Int32) := ⟨_, rfl⟩
                                      have hP : va_P D vwCl (mkW cR cY m0 m1 m2 (ro, sz, op, kd, tk, la, li, g38, 2)) H := by rw [eg38]; exact hP
                                      have hD : va_D A (mkW cR cY m0 m1 m2 (ro, sz, op, kd, tk, la, li, g38, 2)) := kk_D_same hD rfl
                                      refine lv_aload_n hx hb dX1_code_217 rfl (lv_at hl 2 rfl) ?_
                                      refine va_get (D := D) (ci := 1) (v := .ref m2) (C := RX1) (T := TX1) (N := 9) hx hb hts hin hown hK hP 0 rfl rfl 7 (by decide) lk20 (fun _ h9 => h9) rfl dX1_code_218 ?_
                                      refine lv_iconst (v := 1) hx hb dX1_code_221 (by decide) ?_
                                      refine lv_iload_n hx hb dX1_code_222 rfl (lv_at hl 0 rfl) ?_
                                      refine va_iast hx hb hK hP hD hS 2 1 rfl rfl (show ¬ ((1 : Int32) < 0 ∨ 4 ≤ (1 : Int32).toNatClampNeg) from by decide) dX1_code_223 (fun H locs hP hD hS => ?_)
                                      obtain ⟨g39, eg39⟩ : ∃ y : Nat → Int32, y = upd g38 (1 : Int32).toNatClampNeg (114 : Int32) := ⟨_, rfl⟩
                                      have hP : va_P D vwCl (mkW cR cY m0 m1 m2 (ro, sz, op, kd, tk, la, li, g39, 2)) H := by rw [eg39]; exact hP
                                      have hD : va_D A (mkW cR cY m0 m1 m2 (ro, sz, op, kd, tk, la, li, g39, 2)) := kk_D_same hD rfl
                                      refine lv_iconst (v := 1) hx hb dX1_code_224 (by decide) ?_
                                      have hres : 1 = (mk_code (ro, sz, op, kd, tk, la, li, bt, mn) x1).1 := by
                                        subst eg39 eg38 eg31 et30 et24 eg23 et22 et21 et18 eg17 et16 et15 et12 eg11 et10 et9
                                        first | rfl | (simp only [mk_code, mk_c3, mk_cm, mk_sb, mk_by1, mk_by2, mk_by3, mk_by4, mk_c4, mk_rem, if_neg c1, if_neg c2, if_pos c3, if_pos c4, if_pos c5, if_pos c6, if_pos c32, if_pos c33, if_pos c34, if_neg (not_not_intro c35)]; done) | (simp [mk_code, mk_c3, mk_cm, mk_sb, mk_by1, mk_by2, mk_by3, mk_by4, mk_c4, mk_rem, if_neg c1, if_neg c2, if_pos c3, if_pos c4, if_pos c5, if_pos c6, if_pos c32, if_pos c33, if_pos c34, if_neg (not_not_intro c35)]; done)
                                      have hre2 : (ro, sz, op, kd, tk, la, li, g39, 2) = (mk_code (ro, sz, op, kd, tk, la, li, bt, mn) x1).2 := by
                                        subst eg39 eg38 eg31 et30 et24 eg23 et22 et21 et18 eg17 et16 et15 et12 eg11 et10 et9
                                        first | rfl | (simp only [mk_code, mk_c3, mk_cm, mk_sb, mk_by1, mk_by2, mk_by3, mk_by4, mk_c4, mk_rem, if_neg c1, if_neg c2, if_pos c3, if_pos c4, if_pos c5, if_pos c6, if_pos c32, if_pos c33, if_pos c34, if_neg (not_not_intro c35)]; done) | (simp [mk_code, mk_c3, mk_cm, mk_sb, mk_by1, mk_by2, mk_by3, mk_by4, mk_c4, mk_rem, if_neg c1, if_neg c2, if_pos c3, if_pos c4, if_pos c5, if_pos c6, if_pos c32, if_pos c33, if_pos c34, if_neg (not_not_intro c35)]; done)
                                      exact W.zret (v := 1) (ty := .boolean) hx hb hr rfl (fun t ht hW => ⟨⟨1, (ro, sz, op, kd, tk, la, li, g39, 2), rfl, ⟨hres, hre2⟩, by show va_P D vwCl _ t.heap; rw [ht]; exact hP⟩, hS.F ht⟩) hS.2.2 dX1_code_225
                                · refine lv_bipush (v := 116) hx hb dX1_code_182 (by decide) ?_
                                  refine lv_goto (tgt := 199) hx hb dX1_code_184 (by decide) ?_
                                  refine lv_istore_n (lv' := [(3, .int 116), (2, .int t24), (0, .ref m0), (1, .int x1)]) hx hb dX1_code_199 rfl hl (by decide) rfl (fun ls hl => ?_)
                                  refine lv_iload_n hx hb dX1_code_200 rfl (lv_at hl 0 rfl) ?_
                                  refine lv_if_le (tgt := 224) hx hb dX1_code_201 (by decide) (fun c40 => ?_) (fun c40 => ?_)
                                  · exact absurd c40 (by decide)
                                  · refine lv_aload_n hx hb dX1_code_204 rfl (lv_at hl 2 rfl) ?_
                                    refine lv_iconst (v := 2) hx hb dX1_code_205 (by decide) ?_
                                    refine va_put (D := D) (ci := 1) (v := .int 2) (ty := .int) (C := RX1) (T := TX1) (N := 9) hx hb hts hin tyX1 tyX1_ok nmX1 hown hK hP hD hS 0 rfl rfl 8 (by decide) lk33 (fun _ h9 => h9) rfl (by decide +kernel) rfl rfl (Nat.le_of_ble_eq_true rfl) dX1_code_206 (fun H locs hP hD hS => ?_)
                                    have hP : va_P D vwCl (mkW cR cY m0 m1 m2 (ro, sz, op, kd, tk, la, li, g31, 2)) H := hP
                                    have hD : va_D A (mkW cR cY m0 m1 m2 (ro, sz, op, kd, tk, la, li, g31, 2)) := hD
                                    refine lv_aload_n hx hb dX1_code_209 rfl (lv_at hl 2 rfl) ?_
                                    refine va_get (D := D) (ci := 1) (v := .ref m2) (C := RX1) (T := TX1) (N := 9) hx hb hts hin hown hK hP 0 rfl rfl 7 (by decide) lk20 (fun _ h9 => h9) rfl dX1_code_210 ?_
                                    refine lv_iconst (v := 0) hx hb dX1_code_213 (by decide) ?_
                                    refine lv_bipush (v := 92) hx hb dX1_code_214 (by decide) ?_
                                    refine va_iast hx hb hK hP hD hS 2 1 rfl rfl (show ¬ ((0 : Int32) < 0 ∨ 4 ≤ (0 : Int32).toNatClampNeg) from by decide) dX1_code_216 (fun H locs hP hD hS => ?_)
                                    obtain ⟨g41, eg41⟩ : ∃ y : Nat → Int32, y = upd g31 (0 : Int32).toNatClampNeg (92 : Int32) := ⟨_, rfl⟩
                                    have hP : va_P D vwCl (mkW cR cY m0 m1 m2 (ro, sz, op, kd, tk, la, li, g41, 2)) H := by rw [eg41]; exact hP
                                    have hD : va_D A (mkW cR cY m0 m1 m2 (ro, sz, op, kd, tk, la, li, g41, 2)) := kk_D_same hD rfl
                                    refine lv_aload_n hx hb dX1_code_217 rfl (lv_at hl 2 rfl) ?_
                                    refine va_get (D := D) (ci := 1) (v := .ref m2) (C := RX1) (T := TX1) (N := 9) hx hb hts hin hown hK hP 0 rfl rfl 7 (by decide) lk20 (fun _ h9 => h9) rfl dX1_code_218 ?_
                                    refine lv_iconst (v := 1) hx hb dX1_code_221 (by decide) ?_
                                    refine lv_iload_n hx hb dX1_code_222 rfl (lv_at hl 0 rfl) ?_
                                    refine va_iast hx hb hK hP hD hS 2 1 rfl rfl (show ¬ ((1 : Int32) < 0 ∨ 4 ≤ (1 : Int32).toNatClampNeg) from by decide) dX1_code_223 (fun H locs hP hD hS => ?_)
                                    obtain ⟨g42, eg42⟩ : ∃ y : Nat → Int32, y = upd g41 (1 : Int32).toNatClampNeg (116 : Int32) := ⟨_, rfl⟩
                                    have hP : va_P D vwCl (mkW cR cY m0 m1 m2 (ro, sz, op, kd, tk, la, li, g42, 2)) H := by rw [eg42]; exact hP
                                    have hD : va_D A (mkW cR cY m0 m1 m2 (ro, sz, op, kd, tk, la, li, g42, 2)) := kk_D_same hD rfl
                                    refine lv_iconst (v := 1) hx hb dX1_code_224 (by decide) ?_
                                    have hres : 1 = (mk_code (ro, sz, op, kd, tk, la, li, bt, mn) x1).1 := by
                                      subst eg42 eg41 eg31 et30 et24 eg23 et22 et21 et18 eg17 et16 et15 et12 eg11 et10 et9
                                      first | rfl | (simp only [mk_code, mk_c3, mk_cm, mk_sb, mk_by1, mk_by2, mk_by3, mk_by4, mk_c4, mk_rem, if_neg c1, if_neg c2, if_pos c3, if_pos c4, if_pos c5, if_pos c6, if_pos c32, if_pos c33, if_neg (not_not_intro c34)]; done) | (simp [mk_code, mk_c3, mk_cm, mk_sb, mk_by1, mk_by2, mk_by3, mk_by4, mk_c4, mk_rem, if_neg c1, if_neg c2, if_pos c3, if_pos c4, if_pos c5, if_pos c6, if_pos c32, if_pos c33, if_neg (not_not_intro c34)]; done)
                                    have hre2 : (ro, sz, op, kd, tk, la, li, g42, 2) = (mk_code (ro, sz, op, kd, tk, la, li, bt, mn) x1).2 := by
                                      subst eg42 eg41 eg31 et30 et24 eg23 et22 et21 et18 eg17 et16 et15 et12 eg11 et10 et9
                                      first | rfl | (simp only [mk_code, mk_c3, mk_cm, mk_sb, mk_by1, mk_by2, mk_by3, mk_by4, mk_c4, mk_rem, if_neg c1, if_neg c2, if_pos c3, if_pos c4, if_pos c5, if_pos c6, if_pos c32, if_pos c33, if_neg (not_not_intro c34)]; done) | (simp [mk_code, mk_c3, mk_cm, mk_sb, mk_by1, mk_by2, mk_by3, mk_by4, mk_c4, mk_rem, if_neg c1, if_neg c2, if_pos c3, if_pos c4, if_pos c5, if_pos c6, if_pos c32, if_pos c33, if_neg (not_not_intro c34)]; done)
                                    exact W.zret (v := 1) (ty := .boolean) hx hb hr rfl (fun t ht hW => ⟨⟨1, (ro, sz, op, kd, tk, la, li, g42, 2), rfl, ⟨hres, hre2⟩, by show va_P D vwCl _ t.heap; rw [ht]; exact hP⟩, hS.F ht⟩) hS.2.2 dX1_code_225
                              · refine lv_bipush (v := 110) hx hb dX1_code_171 (by decide) ?_
                                refine lv_goto (tgt := 199) hx hb dX1_code_173 (by decide) ?_
                                refine lv_istore_n (lv' := [(3, .int 110), (2, .int t24), (0, .ref m0), (1, .int x1)]) hx hb dX1_code_199 rfl hl (by decide) rfl (fun ls hl => ?_)
                                refine lv_iload_n hx hb dX1_code_200 rfl (lv_at hl 0 rfl) ?_
                                refine lv_if_le (tgt := 224) hx hb dX1_code_201 (by decide) (fun c43 => ?_) (fun c43 => ?_)
                                · exact absurd c43 (by decide)
                                · refine lv_aload_n hx hb dX1_code_204 rfl (lv_at hl 2 rfl) ?_
                                  refine lv_iconst (v := 2) hx hb dX1_code_205 (by decide) ?_
                                  refine va_put (D := D) (ci := 1) (v := .int 2) (ty := .int) (C := RX1) (T := TX1) (N := 9) hx hb hts hin tyX1 tyX1_ok nmX1 hown hK hP hD hS 0 rfl rfl 8 (by decide) lk33 (fun _ h9 => h9) rfl (by decide +kernel) rfl rfl (Nat.le_of_ble_eq_true rfl) dX1_code_206 (fun H locs hP hD hS => ?_)
                                  have hP : va_P D vwCl (mkW cR cY m0 m1 m2 (ro, sz, op, kd, tk, la, li, g31, 2)) H := hP
                                  have hD : va_D A (mkW cR cY m0 m1 m2 (ro, sz, op, kd, tk, la, li, g31, 2)) := hD
                                  refine lv_aload_n hx hb dX1_code_209 rfl (lv_at hl 2 rfl) ?_
                                  refine va_get (D := D) (ci := 1) (v := .ref m2) (C := RX1) (T := TX1) (N := 9) hx hb hts hin hown hK hP 0 rfl rfl 7 (by decide) lk20 (fun _ h9 => h9) rfl dX1_code_210 ?_
                                  refine lv_iconst (v := 0) hx hb dX1_code_213 (by decide) ?_
                                  refine lv_bipush (v := 92) hx hb dX1_code_214 (by decide) ?_
                                  refine va_iast hx hb hK hP hD hS 2 1 rfl rfl (show ¬ ((0 : Int32) < 0 ∨ 4 ≤ (0 : Int32).toNatClampNeg) from by decide) dX1_code_216 (fun H locs hP hD hS => ?_)
                                  obtain ⟨g44, eg44⟩ : ∃ y : Nat → Int32, y = upd g31 (0 : Int32).toNatClampNeg (92 : Int32) := ⟨_, rfl⟩
                                  have hP : va_P D vwCl (mkW cR cY m0 m1 m2 (ro, sz, op, kd, tk, la, li, g44, 2)) H := by rw [eg44]; exact hP
                                  have hD : va_D A (mkW cR cY m0 m1 m2 (ro, sz, op, kd, tk, la, li, g44, 2)) := kk_D_same hD rfl
                                  refine lv_aload_n hx hb dX1_code_217 rfl (lv_at hl 2 rfl) ?_
                                  refine va_get (D := D) (ci := 1) (v := .ref m2) (C := RX1) (T := TX1) (N := 9) hx hb hts hin hown hK hP 0 rfl rfl 7 (by decide) lk20 (fun _ h9 => h9) rfl dX1_code_218 ?_
                                  refine lv_iconst (v := 1) hx hb dX1_code_221 (by decide) ?_
                                  refine lv_iload_n hx hb dX1_code_222 rfl (lv_at hl 0 rfl) ?_
                                  refine va_iast hx hb hK hP hD hS 2 1 rfl rfl (show ¬ ((1 : Int32) < 0 ∨ 4 ≤ (1 : Int32).toNatClampNeg) from by decide) dX1_code_223 (fun H locs hP hD hS => ?_)
                                  obtain ⟨g45, eg45⟩ : ∃ y : Nat → Int32, y = upd g44 (1 : Int32).toNatClampNeg (110 : Int32) := ⟨_, rfl⟩
                                  have hP : va_P D vwCl (mkW cR cY m0 m1 m2 (ro, sz, op, kd, tk, la, li, g45, 2)) H := by rw [eg45]; exact hP
                                  have hD : va_D A (mkW cR cY m0 m1 m2 (ro, sz, op, kd, tk, la, li, g45, 2)) := kk_D_same hD rfl
                                  refine lv_iconst (v := 1) hx hb dX1_code_224 (by decide) ?_
                                  have hres : 1 = (mk_code (ro, sz, op, kd, tk, la, li, bt, mn) x1).1 := by
                                    subst eg45 eg44 eg31 et30 et24 eg23 et22 et21 et18 eg17 et16 et15 et12 eg11 et10 et9
                                    first | rfl | (simp only [mk_code, mk_c3, mk_cm, mk_sb, mk_by1, mk_by2, mk_by3, mk_by4, mk_c4, mk_rem, if_neg c1, if_neg c2, if_pos c3, if_pos c4, if_pos c5, if_pos c6, if_pos c32, if_neg (not_not_intro c33)]; done) | (simp [mk_code, mk_c3, mk_cm, mk_sb, mk_by1, mk_by2, mk_by3, mk_by4, mk_c4, mk_rem, if_neg c1, if_neg c2, if_pos c3, if_pos c4, if_pos c5, if_pos c6, if_pos c32, if_neg (not_not_intro c33)]; done)
                                  have hre2 : (ro, sz, op, kd, tk, la, li, g45, 2) = (mk_code (ro, sz, op, kd, tk, la, li, bt, mn) x1).2 := by
                                    subst eg45 eg44 eg31 et30 et24 eg23 et22 et21 et18 eg17 et16 et15 et12 eg11 et10 et9
                                    first | rfl | (simp only [mk_code, mk_c3, mk_cm, mk_sb, mk_by1, mk_by2, mk_by3, mk_by4, mk_c4, mk_rem, if_neg c1, if_neg c2, if_pos c3, if_pos c4, if_pos c5, if_pos c6, if_pos c32, if_neg (not_not_intro c33)]; done) | (simp [mk_code, mk_c3, mk_cm, mk_sb, mk_by1, mk_by2, mk_by3, mk_by4, mk_c4, mk_rem, if_neg c1, if_neg c2, if_pos c3, if_pos c4, if_pos c5, if_pos c6, if_pos c32, if_neg (not_not_intro c33)]; done)
                                  exact W.zret (v := 1) (ty := .boolean) hx hb hr rfl (fun t ht hW => ⟨⟨1, (ro, sz, op, kd, tk, la, li, g45, 2), rfl, ⟨hres, hre2⟩, by show va_P D vwCl _ t.heap; rw [ht]; exact hP⟩, hS.F ht⟩) hS.2.2 dX1_code_225
                            · refine lv_bipush (v := 92) hx hb dX1_code_160 (by decide) ?_
                              refine lv_goto (tgt := 199) hx hb dX1_code_162 (by decide) ?_
                              refine lv_istore_n (lv' := [(3, .int 92), (2, .int t24), (0, .ref m0), (1, .int x1)]) hx hb dX1_code_199 rfl hl (by decide) rfl (fun ls hl => ?_)
                              refine lv_iload_n hx hb dX1_code_200 rfl (lv_at hl 0 rfl) ?_
                              refine lv_if_le (tgt := 224) hx hb dX1_code_201 (by decide) (fun c46 => ?_) (fun c46 => ?_)
                              · exact absurd c46 (by decide)
                              · refine lv_aload_n hx hb dX1_code_204 rfl (lv_at hl 2 rfl) ?_
                                refine lv_iconst (v := 2) hx hb dX1_code_205 (by decide) ?_
                                refine va_put (D := D) (ci := 1) (v := .int 2) (ty := .int) (C := RX1) (T := TX1) (N := 9) hx hb hts hin tyX1 tyX1_ok nmX1 hown hK hP hD hS 0 rfl rfl 8 (by decide) lk33 (fun _ h9 => h9) rfl (by decide +kernel) rfl rfl (Nat.le_of_ble_eq_true rfl) dX1_code_206 (fun H locs hP hD hS => ?_)
                                have hP : va_P D vwCl (mkW cR cY m0 m1 m2 (ro, sz, op, kd, tk, la, li, g31, 2)) H := hP
                                have hD : va_D A (mkW cR cY m0 m1 m2 (ro, sz, op, kd, tk, la, li, g31, 2)) := hD
                                refine lv_aload_n hx hb dX1_code_209 rfl (lv_at hl 2 rfl) ?_
                                refine va_get (D := D) (ci := 1) (v := .ref m2) (C := RX1) (T := TX1) (N := 9) hx hb hts hin hown hK hP 0 rfl rfl 7 (by decide) lk20 (fun _ h9 => h9) rfl dX1_code_210 ?_
                                refine lv_iconst (v := 0) hx hb dX1_code_213 (by decide) ?_
                                refine lv_bipush (v := 92) hx hb dX1_code_214 (by decide) ?_
                                refine va_iast hx hb hK hP hD hS 2 1 rfl rfl (show ¬ ((0 : Int32) < 0 ∨ 4 ≤ (0 : Int32).toNatClampNeg) from by decide) dX1_code_216 (fun H locs hP hD hS => ?_)
                                obtain ⟨g47, eg47⟩ : ∃ y : Nat → Int32, y = upd g31 (0 : Int32).toNatClampNeg (92 : Int32) := ⟨_, rfl⟩
                                have hP : va_P D vwCl (mkW cR cY m0 m1 m2 (ro, sz, op, kd, tk, la, li, g47, 2)) H := by rw [eg47]; exact hP
                                have hD : va_D A (mkW cR cY m0 m1 m2 (ro, sz, op, kd, tk, la, li, g47, 2)) := kk_D_same hD rfl
                                refine lv_aload_n hx hb dX1_code_217 rfl (lv_at hl 2 rfl) ?_
                                refine va_get (D := D) (ci := 1) (v := .ref m2) (C := RX1) (T := TX1) (N := 9) hx hb hts hin hown hK hP 0 rfl rfl 7 (by decide) lk20 (fun _ h9 => h9) rfl dX1_code_218 ?_
                                refine lv_iconst (v := 1) hx hb dX1_code_221 (by decide) ?_
                                refine lv_iload_n hx hb dX1_code_222 rfl (lv_at hl 0 rfl) ?_
                                refine va_iast hx hb hK hP hD hS 2 1 rfl rfl (show ¬ ((1 : Int32) < 0 ∨ 4 ≤ (1 : Int32).toNatClampNeg) from by decide) dX1_code_223 (fun H locs hP hD hS => ?_)
                                obtain ⟨g48, eg48⟩ : ∃ y : Nat → Int32, y = upd g47 (1 : Int32).toNatClampNeg (92 : Int32) := ⟨_, rfl⟩
                                have hP : va_P D vwCl (mkW cR cY m0 m1 m2 (ro, sz, op, kd, tk, la, li, g48, 2)) H := by rw [eg48]; exact hP
                                have hD : va_D A (mkW cR cY m0 m1 m2 (ro, sz, op, kd, tk, la, li, g48, 2)) := kk_D_same hD rfl
                                refine lv_iconst (v := 1) hx hb dX1_code_224 (by decide) ?_
                                have hres : 1 = (mk_code (ro, sz, op, kd, tk, la, li, bt, mn) x1).1 := by
                                  subst eg48 eg47 eg31 et30 et24 eg23 et22 et21 et18 eg17 et16 et15 et12 eg11 et10 et9
                                  first | rfl | (simp only [mk_code, mk_c3, mk_cm, mk_sb, mk_by1, mk_by2, mk_by3, mk_by4, mk_c4, mk_rem, if_neg c1, if_neg c2, if_pos c3, if_pos c4, if_pos c5, if_pos c6, if_neg (not_not_intro c32)]; done) | (simp [mk_code, mk_c3, mk_cm, mk_sb, mk_by1, mk_by2, mk_by3, mk_by4, mk_c4, mk_rem, if_neg c1, if_neg c2, if_pos c3, if_pos c4, if_pos c5, if_pos c6, if_neg (not_not_intro c32)]; done)
                                have hre2 : (ro, sz, op, kd, tk, la, li, g48, 2) = (mk_code (ro, sz, op, kd, tk, la, li, bt, mn) x1).2 := by
                                  subst eg48 eg47 eg31 et30 et24 eg23 et22 et21 et18 eg17 et16 et15 et12 eg11 et10 et9
                                  first | rfl | (simp only [mk_code, mk_c3, mk_cm, mk_sb, mk_by1, mk_by2, mk_by3, mk_by4, mk_c4, mk_rem, if_neg c1, if_neg c2, if_pos c3, if_pos c4, if_pos c5, if_pos c6, if_neg (not_not_intro c32)]; done) | (simp [mk_code, mk_c3, mk_cm, mk_sb, mk_by1, mk_by2, mk_by3, mk_by4, mk_c4, mk_rem, if_neg c1, if_neg c2, if_pos c3, if_pos c4, if_pos c5, if_pos c6, if_neg (not_not_intro c32)]; done)
                                exact W.zret (v := 1) (ty := .boolean) hx hb hr rfl (fun t ht hW => ⟨⟨1, (ro, sz, op, kd, tk, la, li, g48, 2), rfl, ⟨hres, hre2⟩, by show va_P D vwCl _ t.heap; rw [ht]; exact hP⟩, hS.F ht⟩) hS.2.2 dX1_code_225
                          · exact absurd c29 (by decide)
                        · exact absurd c28 (by decide)
                      · exact absurd c27 (by decide)
                    · exact absurd c26 (by decide)
            · refine lv_iconst (v := 3) hx hb dX1_code_53 (by decide) ?_
              refine lv_goto (tgt := 58) hx hb dX1_code_54 (by decide) ?_
              refine va_put (D := D) (ci := 1) (v := .int 3) (ty := .int) (C := RX1) (T := TX1) (N := 9) hx hb hts hin tyX1 tyX1_ok nmX1 hown hK hP hD hS 0 rfl rfl 8 (by decide) lk33 (fun _ h9 => h9) rfl (by decide +kernel) rfl rfl (Nat.le_of_ble_eq_true rfl) dX1_code_58 (fun H locs hP hD hS => ?_)
              have hP : va_P D vwCl (mkW cR cY m0 m1 m2 (ro, sz, op, kd, tk, la, li, bt, 3)) H := hP
              have hD : va_D A (mkW cR cY m0 m1 m2 (ro, sz, op, kd, tk, la, li, bt, 3)) := hD
              refine lv_iload_n hx hb dX1_code_61 rfl (lv_at hl 1 rfl) ?_
              refine lv_istore_n (lv' := [(2, .int x1), (0, .ref m0), (1, .int x1)]) hx hb dX1_code_62 rfl hl (by decide) rfl (fun ls hl => ?_)
              refine lv_aload_n hx hb dX1_code_63 rfl (lv_at hl 1 rfl) ?_
              refine va_get (D := D) (ci := 1) (v := .int 3) (C := RX1) (T := TX1) (N := 9) hx hb hts hin hown hK hP 0 rfl rfl 8 (by decide) lk33 (fun _ h9 => h9) rfl dX1_code_64 ?_
              refine lv_iconst (v := 1) hx hb dX1_code_67 (by decide) ?_
              refine lv_isub hx hb dX1_code_68 ?_
              refine lv_topi (fun t49 et49 => ?_)
              obtain rfl : t49 = 2 := by rw [et49]; decide
              refine lv_istore_n (lv' := [(3, .int 2), (2, .int x1), (0, .ref m0), (1, .int x1)]) hx hb dX1_code_69 rfl hl (by decide) rfl (fun ls hl => ?_)
              refine lv_iload_n hx hb dX1_code_70 rfl (lv_at hl 0 rfl) ?_
              refine lv_if_le (tgt := 99) hx hb dX1_code_71 (by decide) (fun c50 => ?_) (fun c50 => ?_)
              · exact absurd c50 (by decide)
              · refine lv_aload_n hx hb dX1_code_74 rfl (lv_at hl 2 rfl) ?_
                refine va_get (D := D) (ci := 1) (v := .ref m2) (C := RX1) (T := TX1) (N := 9) hx hb hts hin hown hK hP 0 rfl rfl 7 (by decide) lk20 (fun _ h9 => h9) rfl dX1_code_75 ?_
                refine lv_iload_n hx hb dX1_code_78 rfl (lv_at hl 0 rfl) ?_
                refine lv_sipush (v := 128) hx hb dX1_code_79 (by decide) ?_
                refine lv_iload_n hx hb dX1_code_82 rfl (lv_at hl 1 rfl) ?_
                refine lv_bipush (v := 64) hx hb dX1_code_83 (by decide) ?_
                refine lv_irem hx hb dX1_code_85 (by decide) ?_
                refine lv_topi (fun t51 et51 => ?_)
                refine lv_iadd hx hb dX1_code_86 ?_
                refine lv_topi (fun t52 et52 => ?_)
                refine va_iast hx hb hK hP hD hS 2 1 rfl rfl (show ¬ ((2 : Int32) < 0 ∨ 4 ≤ (2 : Int32).toNatClampNeg) from by decide) dX1_code_87 (fun H locs hP hD hS => ?_)
                obtain ⟨g53, eg53⟩ : ∃ y : Nat → Int32, y = upd bt (2 : Int32).toNatClampNeg t52 := ⟨_, rfl⟩
                have hP : va_P D vwCl (mkW cR cY m0 m1 m2 (ro, sz, op, kd, tk, la, li, g53, 3)) H := by rw [eg53]; exact hP
                have hD : va_D A (mkW cR cY m0 m1 m2 (ro, sz, op, kd, tk, la, li, g53, 3)) := kk_D_same hD rfl
                refine lv_iload_n hx hb dX1_code_88 rfl (lv_at hl 1 rfl) ?_
                refine lv_bipush (v := 64) hx hb dX1_code_89 (by decide) ?_
                refine lv_idiv hx hb dX1_code_91 (by decide) ?_
                refine lv_topi (fun t54 et54 => ?_)
                refine lv_istore_n (lv' := [(2, .int t54), (3, .int 2), (0, .ref m0), (1, .int x1)]) hx hb dX1_code_92 rfl hl (by decide) rfl (fun ls hl => ?_)
                refine lv_iinc (v := 1) (lv' := [(3, .int 1), (2, .int t54), (0, .ref m0), (1, .int x1)]) hx hb dX1_code_93 hl (k := 1) rfl (by decide) (by decide) rfl (fun ls hl => ?_)
                refine lv_goto (tgt := 70) hx hb dX1_code_96 (by decide) ?_
                refine lv_iload_n hx hb dX1_code_70 rfl (lv_at hl 0 rfl) ?_
                refine lv_if_le (tgt := 99) hx hb dX1_code_71 (by decide) (fun c56 => ?_) (fun c56 => ?_)
                · exact absurd c56 (by decide)
                · refine lv_aload_n hx hb dX1_code_74 rfl (lv_at hl 2 rfl) ?_
                  refine va_get (D := D) (ci := 1) (v := .ref m2) (C := RX1) (T := TX1) (N := 9) hx hb hts hin hown hK hP 0 rfl rfl 7 (by decide) lk20 (fun _ h9 => h9) rfl dX1_code_75 ?_
                  refine lv_iload_n hx hb dX1_code_78 rfl (lv_at hl 0 rfl) ?_
                  refine lv_sipush (v := 128) hx hb dX1_code_79 (by decide) ?_
                  refine lv_iload_n hx hb dX1_code_82 rfl (lv_at hl 1 rfl) ?_
                  refine lv_bipush (v := 64) hx hb dX1_code_83 (by decide) ?_
                  refine lv_irem hx hb dX1_code_85 (by decide) ?_
                  refine lv_topi (fun t57 et57 => ?_)
                  refine lv_iadd hx hb dX1_code_86 ?_
                  refine lv_topi (fun t58 et58 => ?_)
                  refine va_iast hx hb hK hP hD hS 2 1 rfl rfl (show ¬ ((1 : Int32) < 0 ∨ 4 ≤ (1 : Int32).toNatClampNeg) from by decide) dX1_code_87 (fun H locs hP hD hS => ?_)
                  obtain ⟨g59, eg59⟩ : ∃ y : Nat → Int32, y = upd g53 (1 : Int32).toNatClampNeg t58 := ⟨_, rfl⟩
                  have hP : va_P D vwCl (mkW cR cY m0 m1 m2 (ro, sz, op, kd, tk, la, li, g59, 3)) H := by rw [eg59]; exact hP
                  have hD : va_D A (mkW cR cY m0 m1 m2 (ro, sz, op, kd, tk, la, li, g59, 3)) := kk_D_same hD rfl
                  refine lv_iload_n hx hb dX1_code_88 rfl (lv_at hl 1 rfl) ?_
                  refine lv_bipush (v := 64) hx hb dX1_code_89 (by decide) ?_
                  refine lv_idiv hx hb dX1_code_91 (by decide) ?_
                  refine lv_topi (fun t60 et60 => ?_)
                  refine lv_istore_n (lv' := [(2, .int t60), (3, .int 1), (0, .ref m0), (1, .int x1)]) hx hb dX1_code_92 rfl hl (by decide) rfl (fun ls hl => ?_)
                  refine lv_iinc (v := 0) (lv' := [(3, .int 0), (2, .int t60), (0, .ref m0), (1, .int x1)]) hx hb dX1_code_93 hl (k := 1) rfl (by decide) (by decide) rfl (fun ls hl => ?_)
                  refine lv_goto (tgt := 70) hx hb dX1_code_96 (by decide) ?_
                  refine lv_iload_n hx hb dX1_code_70 rfl (lv_at hl 0 rfl) ?_
                  refine lv_if_le (tgt := 99) hx hb dX1_code_71 (by decide) (fun c62 => ?_) (fun c62 => ?_)
                  · refine lv_aload_n hx hb dX1_code_99 rfl (lv_at hl 2 rfl) ?_
                    refine va_get (D := D) (ci := 1) (v := .ref m2) (C := RX1) (T := TX1) (N := 9) hx hb hts hin hown hK hP 0 rfl rfl 7 (by decide) lk20 (fun _ h9 => h9) rfl dX1_code_100 ?_
                    refine lv_iconst (v := 0) hx hb dX1_code_103 (by decide) ?_
                    refine lv_aload_n hx hb dX1_code_104 rfl (lv_at hl 2 rfl) ?_
                    refine va_get (D := D) (ci := 1) (v := .int 3) (C := RX1) (T := TX1) (N := 9) hx hb hts hin hown hK hP 0 rfl rfl 8 (by decide) lk33 (fun _ h9 => h9) rfl dX1_code_105 ?_
                    refine lv_iconst (v := 1) hx hb dX1_code_108 (by decide) ?_
                    refine lv_icmp_ne (tgt := 116) hx hb dX1_code_109 (by decide) (fun c63 => ?_) (fun c63 => ?_)
                    · refine lv_aload_n hx hb dX1_code_116 rfl (lv_at hl 2 rfl) ?_
                      refine va_get (D := D) (ci := 1) (v := .int 3) (C := RX1) (T := TX1) (N := 9) hx hb hts hin hown hK hP 0 rfl rfl 8 (by decide) lk33 (fun _ h9 => h9) rfl dX1_code_117 ?_
                      refine lv_iconst (v := 2) hx hb dX1_code_120 (by decide) ?_
                      refine lv_icmp_ne (tgt := 132) hx hb dX1_code_121 (by decide) (fun c64 => ?_) (fun c64 => ?_)
                      · refine lv_aload_n hx hb dX1_code_132 rfl (lv_at hl 2 rfl) ?_
                        refine va_get (D := D) (ci := 1) (v := .int 3) (C := RX1) (T := TX1) (N := 9) hx hb hts hin hown hK hP 0 rfl rfl 8 (by decide) lk33 (fun _ h9 => h9) rfl dX1_code_133 ?_
                        refine lv_iconst (v := 3) hx hb dX1_code_136 (by decide) ?_
                        refine lv_icmp_ne (tgt := 148) hx hb dX1_code_137 (by decide) (fun c65 => ?_) (fun c65 => ?_)
                        · exact absurd c65 (by decide)
                        · refine lv_sipush (v := 224) hx hb dX1_code_140 (by decide) ?_
                          refine lv_iload_n hx hb dX1_code_143 rfl (lv_at hl 1 rfl) ?_
                          refine lv_iadd hx hb dX1_code_144 ?_
                          refine lv_topi (fun t66 et66 => ?_)
                          refine lv_goto (tgt := 153) hx hb dX1_code_145 (by decide) ?_
                          refine va_iast hx hb hK hP hD hS 2 1 rfl rfl (show ¬ ((0 : Int32) < 0 ∨ 4 ≤ (0 : Int32).toNatClampNeg) from by decide) dX1_code_153 (fun H locs hP hD hS => ?_)
                          obtain ⟨g67, eg67⟩ : ∃ y : Nat → Int32, y = upd g59 (0 : Int32).toNatClampNeg t66 := ⟨_, rfl⟩
                          have hP : va_P D vwCl (mkW cR cY m0 m1 m2 (ro, sz, op, kd, tk, la, li, g67, 3)) H := by rw [eg67]; exact hP
                          have hD : va_D A (mkW cR cY m0 m1 m2 (ro, sz, op, kd, tk, la, li, g67, 3)) := kk_D_same hD rfl
                          refine lv_iload_n hx hb dX1_code_154 rfl (lv_at hl 3 rfl) ?_
                          refine lv_bipush (v := 92) hx hb dX1_code_155 (by decide) ?_
                          refine lv_icmp_ne (tgt := 165) hx hb dX1_code_157 (by decide) (fun c68 => ?_) (fun c68 => ?_)
                          · refine lv_iload_n hx hb dX1_code_165 rfl (lv_at hl 3 rfl) ?_
                            refine lv_bipush (v := 10) hx hb dX1_code_166 (by decide) ?_
                            refine lv_icmp_ne (tgt := 176) hx hb dX1_code_168 (by decide) (fun c69 => ?_) (fun c69 => ?_)
                            · refine lv_iload_n hx hb dX1_code_176 rfl (lv_at hl 3 rfl) ?_
                              refine lv_bipush (v := 9) hx hb dX1_code_177 (by decide) ?_
                              refine lv_icmp_ne (tgt := 187) hx hb dX1_code_179 (by decide) (fun c70 => ?_) (fun c70 => ?_)
                              · refine lv_iload_n hx hb dX1_code_187 rfl (lv_at hl 3 rfl) ?_
                                refine lv_bipush (v := 13) hx hb dX1_code_188 (by decide) ?_
                                refine lv_icmp_ne (tgt := 198) hx hb dX1_code_190 (by decide) (fun c71 => ?_) (fun c71 => ?_)
                                · refine lv_iconst (v := 0) hx hb dX1_code_198 (by decide) ?_
                                  refine lv_istore_n (lv' := [(3, .int 0), (2, .int t60), (0, .ref m0), (1, .int x1)]) hx hb dX1_code_199 rfl hl (by decide) rfl (fun ls hl => ?_)
                                  refine lv_iload_n hx hb dX1_code_200 rfl (lv_at hl 0 rfl) ?_
                                  refine lv_if_le (tgt := 224) hx hb dX1_code_201 (by decide) (fun c72 => ?_) (fun c72 => ?_)
                                  · refine lv_iconst (v := 1) hx hb dX1_code_224 (by decide) ?_
                                    have hres : 1 = (mk_code (ro, sz, op, kd, tk, la, li, bt, mn) x1).1 := by
                                      subst eg67 et66 et60 eg59 et58 et57 et54 eg53 et52 et51
                                      first | rfl | (simp only [mk_code, mk_c3, mk_cm, mk_sb, mk_by1, mk_by2, mk_by3, mk_by4, mk_c4, mk_rem, if_neg c1, if_neg c2, if_pos c3, if_pos c4, if_pos c5, if_neg c6, if_pos c68, if_pos c69, if_pos c70, if_pos c71]; done) | (simp [mk_code, mk_c3, mk_cm, mk_sb, mk_by1, mk_by2, mk_by3, mk_by4, mk_c4, mk_rem, if_neg c1, if_neg c2, if_pos c3, if_pos c4, if_pos c5, if_neg c6, if_pos c68, if_pos c69, if_pos c70, if_pos c71]; done)
                                    have hre2 : (ro, sz, op, kd, tk, la, li, g67, 3) = (mk_code (ro, sz, op, kd, tk, la, li, bt, mn) x1).2 := by
                                      subst eg67 et66 et60 eg59 et58 et57 et54 eg53 et52 et51
                                      first | rfl | (simp only [mk_code, mk_c3, mk_cm, mk_sb, mk_by1, mk_by2, mk_by3, mk_by4, mk_c4, mk_rem, if_neg c1, if_neg c2, if_pos c3, if_pos c4, if_pos c5, if_neg c6, if_pos c68, if_pos c69, if_pos c70, if_pos c71]; done) | (simp [mk_code, mk_c3, mk_cm, mk_sb, mk_by1, mk_by2, mk_by3, mk_by4, mk_c4, mk_rem, if_neg c1, if_neg c2, if_pos c3, if_pos c4, if_pos c5, if_neg c6, if_pos c68, if_pos c69, if_pos c70, if_pos c71]; done)
                                    exact W.zret (v := 1) (ty := .boolean) hx hb hr rfl (fun t ht hW => ⟨⟨1, (ro, sz, op, kd, tk, la, li, g67, 3), rfl, ⟨hres, hre2⟩, by show va_P D vwCl _ t.heap; rw [ht]; exact hP⟩, hS.F ht⟩) hS.2.2 dX1_code_225
                                  · exact absurd c72 (by decide)
                                · refine lv_bipush (v := 114) hx hb dX1_code_193 (by decide) ?_
                                  refine lv_goto (tgt := 199) hx hb dX1_code_195 (by decide) ?_
                                  refine lv_istore_n (lv' := [(3, .int 114), (2, .int t60), (0, .ref m0), (1, .int x1)]) hx hb dX1_code_199 rfl hl (by decide) rfl (fun ls hl => ?_)
                                  refine lv_iload_n hx hb dX1_code_200 rfl (lv_at hl 0 rfl) ?_
                                  refine lv_if_le (tgt := 224) hx hb dX1_code_201 (by decide) (fun c73 => ?_) (fun c73 => ?_)
                                  · exact absurd c73 (by decide)
                                  · refine lv_aload_n hx hb dX1_code_204 rfl (lv_at hl 2 rfl) ?_
                                    refine lv_iconst (v := 2) hx hb dX1_code_205 (by decide) ?_
                                    refine va_put (D := D) (ci := 1) (v := .int 2) (ty := .int) (C := RX1) (T := TX1) (N := 9) hx hb hts hin tyX1 tyX1_ok nmX1 hown hK hP hD hS 0 rfl rfl 8 (by decide) lk33 (fun _ h9 => h9) rfl (by decide +kernel) rfl rfl (Nat.le_of_ble_eq_true rfl) dX1_code_206 (fun H locs hP hD hS => ?_)
                                    have hP : va_P D vwCl (mkW cR cY m0 m1 m2 (ro, sz, op, kd, tk, la, li, g67, 2)) H := hP
                                    have hD : va_D A (mkW cR cY m0 m1 m2 (ro, sz, op, kd, tk, la, li, g67, 2)) := hD
                                    refine lv_aload_n hx hb dX1_code_209 rfl (lv_at hl 2 rfl) ?_
                                    refine va_get (D := D) (ci := 1) (v := .ref m2) (C := RX1) (T := TX1) (N := 9) hx hb hts hin hown hK hP 0 rfl rfl 7 (by decide) lk20 (fun _ h9 => h9) rfl dX1_code_210 ?_
                                    refine lv_iconst (v := 0) hx hb dX1_code_213 (by decide) ?_
                                    refine lv_bipush (v := 92) hx hb dX1_code_214 (by decide) ?_
                                    refine va_iast hx hb hK hP hD hS 2 1 rfl rfl (show ¬ ((0 : Int32) < 0 ∨ 4 ≤ (0 : Int32).toNatClampNeg) from by decide) dX1_code_216 (fun H locs hP hD hS => ?_)
                                    obtain ⟨g74, eg74⟩ : ∃ y : Nat → Int32, y = upd g67 (0 : Int32).toNatClampNeg (92 : Int32) := ⟨_, rfl⟩
                                    have hP : va_P D vwCl (mkW cR cY m0 m1 m2 (ro, sz, op, kd, tk, la, li, g74, 2)) H := by rw [eg74]; exact hP
                                    have hD : va_D A (mkW cR cY m0 m1 m2 (ro, sz, op, kd, tk, la, li, g74, 2)) := kk_D_same hD rfl
                                    refine lv_aload_n hx hb dX1_code_217 rfl (lv_at hl 2 rfl) ?_
                                    refine va_get (D := D) (ci := 1) (v := .ref m2) (C := RX1) (T := TX1) (N := 9) hx hb hts hin hown hK hP 0 rfl rfl 7 (by decide) lk20 (fun _ h9 => h9) rfl dX1_code_218 ?_
                                    refine lv_iconst (v := 1) hx hb dX1_code_221 (by decide) ?_
                                    refine lv_iload_n hx hb dX1_code_222 rfl (lv_at hl 0 rfl) ?_
                                    refine va_iast hx hb hK hP hD hS 2 1 rfl rfl (show ¬ ((1 : Int32) < 0 ∨ 4 ≤ (1 : Int32).toNatClampNeg) from by decide) dX1_code_223 (fun H locs hP hD hS => ?_)
                                    obtain ⟨g75, eg75⟩ : ∃ y : Nat → Int32, y = upd g74 (1 : Int32).toNatClampNeg (114 : Int32) := ⟨_, rfl⟩
                                    have hP : va_P D vwCl (mkW cR cY m0 m1 m2 (ro, sz, op, kd, tk, la, li, g75, 2)) H := by rw [eg75]; exact hP
                                    have hD : va_D A (mkW cR cY m0 m1 m2 (ro, sz, op, kd, tk, la, li, g75, 2)) := kk_D_same hD rfl
                                    refine lv_iconst (v := 1) hx hb dX1_code_224 (by decide) ?_
                                    have hres : 1 = (mk_code (ro, sz, op, kd, tk, la, li, bt, mn) x1).1 := by
                                      subst eg75 eg74 eg67 et66 et60 eg59 et58 et57 et54 eg53 et52 et51
                                      first | rfl | (simp only [mk_code, mk_c3, mk_cm, mk_sb, mk_by1, mk_by2, mk_by3, mk_by4, mk_c4, mk_rem, if_neg c1, if_neg c2, if_pos c3, if_pos c4, if_pos c5, if_neg c6, if_pos c68, if_pos c69, if_pos c70, if_neg (not_not_intro c71)]; done) | (simp [mk_code, mk_c3, mk_cm, mk_sb, mk_by1, mk_by2, mk_by3, mk_by4, mk_c4, mk_rem, if_neg c1, if_neg c2, if_pos c3, if_pos c4, if_pos c5, if_neg c6, if_pos c68, if_pos c69, if_pos c70, if_neg (not_not_intro c71)]; done)
                                    have hre2 : (ro, sz, op, kd, tk, la, li, g75, 2) = (mk_code (ro, sz, op, kd, tk, la, li, bt, mn) x1).2 := by
                                      subst eg75 eg74 eg67 et66 et60 eg59 et58 et57 et54 eg53 et52 et51
                                      first | rfl | (simp only [mk_code, mk_c3, mk_cm, mk_sb, mk_by1, mk_by2, mk_by3, mk_by4, mk_c4, mk_rem, if_neg c1, if_neg c2, if_pos c3, if_pos c4, if_pos c5, if_neg c6, if_pos c68, if_pos c69, if_pos c70, if_neg (not_not_intro c71)]; done) | (simp [mk_code, mk_c3, mk_cm, mk_sb, mk_by1, mk_by2, mk_by3, mk_by4, mk_c4, mk_rem, if_neg c1, if_neg c2, if_pos c3, if_pos c4, if_pos c5, if_neg c6, if_pos c68, if_pos c69, if_pos c70, if_neg (not_not_intro c71)]; done)
                                    exact W.zret (v := 1) (ty := .boolean) hx hb hr rfl (fun t ht hW => ⟨⟨1, (ro, sz, op, kd, tk, la, li, g75, 2), rfl, ⟨hres, hre2⟩, by show va_P D vwCl _ t.heap; rw [ht]; exact hP⟩, hS.F ht⟩) hS.2.2 dX1_code_225
                              · refine lv_bipush (v := 116) hx hb dX1_code_182 (by decide) ?_
                                refine lv_goto (tgt := 199) hx hb dX1_code_184 (by decide) ?_
                                refine lv_istore_n (lv' := [(3, .int 116), (2, .int t60), (0, .ref m0), (1, .int x1)]) hx hb dX1_code_199 rfl hl (by decide) rfl (fun ls hl => ?_)
                                refine lv_iload_n hx hb dX1_code_200 rfl (lv_at hl 0 rfl) ?_
                                refine lv_if_le (tgt := 224) hx hb dX1_code_201 (by decide) (fun c76 => ?_) (fun c76 => ?_)
                                · exact absurd c76 (by decide)
                                · refine lv_aload_n hx hb dX1_code_204 rfl (lv_at hl 2 rfl) ?_
                                  refine lv_iconst (v := 2) hx hb dX1_code_205 (by decide) ?_
                                  refine va_put (D := D) (ci := 1) (v := .int 2) (ty := .int) (C := RX1) (T := TX1) (N := 9) hx hb hts hin tyX1 tyX1_ok nmX1 hown hK hP hD hS 0 rfl rfl 8 (by decide) lk33 (fun _ h9 => h9) rfl (by decide +kernel) rfl rfl (Nat.le_of_ble_eq_true rfl) dX1_code_206 (fun H locs hP hD hS => ?_)
                                  have hP : va_P D vwCl (mkW cR cY m0 m1 m2 (ro, sz, op, kd, tk, la, li, g67, 2)) H := hP
                                  have hD : va_D A (mkW cR cY m0 m1 m2 (ro, sz, op, kd, tk, la, li, g67, 2)) := hD
                                  refine lv_aload_n hx hb dX1_code_209 rfl (lv_at hl 2 rfl) ?_
                                  refine va_get (D := D) (ci := 1) (v := .ref m2) (C := RX1) (T := TX1) (N := 9) hx hb hts hin hown hK hP 0 rfl rfl 7 (by decide) lk20 (fun _ h9 => h9) rfl dX1_code_210 ?_
                                  refine lv_iconst (v := 0) hx hb dX1_code_213 (by decide) ?_
                                  refine lv_bipush (v := 92) hx hb dX1_code_214 (by decide) ?_
                                  refine va_iast hx hb hK hP hD hS 2 1 rfl rfl (show ¬ ((0 : Int32) < 0 ∨ 4 ≤ (0 : Int32).toNatClampNeg) from by decide) dX1_code_216 (fun H locs hP hD hS => ?_)
                                  obtain ⟨g77, eg77⟩ : ∃ y : Nat → Int32, y = upd g67 (0 : Int32).toNatClampNeg (92 : Int32) := ⟨_, rfl⟩
                                  have hP : va_P D vwCl (mkW cR cY m0 m1 m2 (ro, sz, op, kd, tk, la, li, g77, 2)) H := by rw [eg77]; exact hP
                                  have hD : va_D A (mkW cR cY m0 m1 m2 (ro, sz, op, kd, tk, la, li, g77, 2)) := kk_D_same hD rfl
                                  refine lv_aload_n hx hb dX1_code_217 rfl (lv_at hl 2 rfl) ?_
                                  refine va_get (D := D) (ci := 1) (v := .ref m2) (C := RX1) (T := TX1) (N := 9) hx hb hts hin hown hK hP 0 rfl rfl 7 (by decide) lk20 (fun _ h9 => h9) rfl dX1_code_218 ?_
                                  refine lv_iconst (v := 1) hx hb dX1_code_221 (by decide) ?_
                                  refine lv_iload_n hx hb dX1_code_222 rfl (lv_at hl 0 rfl) ?_
                                  refine va_iast hx hb hK hP hD hS 2 1 rfl rfl (show ¬ ((1 : Int32) < 0 ∨ 4 ≤ (1 : Int32).toNatClampNeg) from by decide) dX1_code_223 (fun H locs hP hD hS => ?_)
                                  obtain ⟨g78, eg78⟩ : ∃ y : Nat → Int32, y = upd g77 (1 : Int32).toNatClampNeg (116 : Int32) := ⟨_, rfl⟩
                                  have hP : va_P D vwCl (mkW cR cY m0 m1 m2 (ro, sz, op, kd, tk, la, li, g78, 2)) H := by rw [eg78]; exact hP
                                  have hD : va_D A (mkW cR cY m0 m1 m2 (ro, sz, op, kd, tk, la, li, g78, 2)) := kk_D_same hD rfl
                                  refine lv_iconst (v := 1) hx hb dX1_code_224 (by decide) ?_
                                  have hres : 1 = (mk_code (ro, sz, op, kd, tk, la, li, bt, mn) x1).1 := by
                                    subst eg78 eg77 eg67 et66 et60 eg59 et58 et57 et54 eg53 et52 et51
                                    first | rfl | (simp only [mk_code, mk_c3, mk_cm, mk_sb, mk_by1, mk_by2, mk_by3, mk_by4, mk_c4, mk_rem, if_neg c1, if_neg c2, if_pos c3, if_pos c4, if_pos c5, if_neg c6, if_pos c68, if_pos c69, if_neg (not_not_intro c70)]; done) | (simp [mk_code, mk_c3, mk_cm, mk_sb, mk_by1, mk_by2, mk_by3, mk_by4, mk_c4, mk_rem, if_neg c1, if_neg c2, if_pos c3, if_pos c4, if_pos c5, if_neg c6, if_pos c68, if_pos c69, if_neg (not_not_intro c70)]; done)
                                  have hre2 : (ro, sz, op, kd, tk, la, li, g78, 2) = (mk_code (ro, sz, op, kd, tk, la, li, bt, mn) x1).2 := by
                                    subst eg78 eg77 eg67 et66 et60 eg59 et58 et57 et54 eg53 et52 et51
                                    first | rfl | (simp only [mk_code, mk_c3, mk_cm, mk_sb, mk_by1, mk_by2, mk_by3, mk_by4, mk_c4, mk_rem, if_neg c1, if_neg c2, if_pos c3, if_pos c4, if_pos c5, if_neg c6, if_pos c68, if_pos c69, if_neg (not_not_intro c70)]; done) | (simp [mk_code, mk_c3, mk_cm, mk_sb, mk_by1, mk_by2, mk_by3, mk_by4, mk_c4, mk_rem, if_neg c1, if_neg c2, if_pos c3, if_pos c4, if_pos c5, if_neg c6, if_pos c68, if_pos c69, if_neg (not_not_intro c70)]; done)
                                  exact W.zret (v := 1) (ty := .boolean) hx hb hr rfl (fun t ht hW => ⟨⟨1, (ro, sz, op, kd, tk, la, li, g78, 2), rfl, ⟨hres, hre2⟩, by show va_P D vwCl _ t.heap; rw [ht]; exact hP⟩, hS.F ht⟩) hS.2.2 dX1_code_225
                            · refine lv_bipush (v := 110) hx hb dX1_code_171 (by decide) ?_
                              refine lv_goto (tgt := 199) hx hb dX1_code_173 (by decide) ?_
                              refine lv_istore_n (lv' := [(3, .int 110), (2, .int t60), (0, .ref m0), (1, .int x1)]) hx hb dX1_code_199 rfl hl (by decide) rfl (fun ls hl => ?_)
                              refine lv_iload_n hx hb dX1_code_200 rfl (lv_at hl 0 rfl) ?_
                              refine lv_if_le (tgt := 224) hx hb dX1_code_201 (by decide) (fun c79 => ?_) (fun c79 => ?_)
                              · exact absurd c79 (by decide)
                              · refine lv_aload_n hx hb dX1_code_204 rfl (lv_at hl 2 rfl) ?_
                                refine lv_iconst (v := 2) hx hb dX1_code_205 (by decide) ?_
                                refine va_put (D := D) (ci := 1) (v := .int 2) (ty := .int) (C := RX1) (T := TX1) (N := 9) hx hb hts hin tyX1 tyX1_ok nmX1 hown hK hP hD hS 0 rfl rfl 8 (by decide) lk33 (fun _ h9 => h9) rfl (by decide +kernel) rfl rfl (Nat.le_of_ble_eq_true rfl) dX1_code_206 (fun H locs hP hD hS => ?_)
                                have hP : va_P D vwCl (mkW cR cY m0 m1 m2 (ro, sz, op, kd, tk, la, li, g67, 2)) H := hP
                                have hD : va_D A (mkW cR cY m0 m1 m2 (ro, sz, op, kd, tk, la, li, g67, 2)) := hD
                                refine lv_aload_n hx hb dX1_code_209 rfl (lv_at hl 2 rfl) ?_
                                refine va_get (D := D) (ci := 1) (v := .ref m2) (C := RX1) (T := TX1) (N := 9) hx hb hts hin hown hK hP 0 rfl rfl 7 (by decide) lk20 (fun _ h9 => h9) rfl dX1_code_210 ?_
                                refine lv_iconst (v := 0) hx hb dX1_code_213 (by decide) ?_
                                refine lv_bipush (v := 92) hx hb dX1_code_214 (by decide) ?_
                                refine va_iast hx hb hK hP hD hS 2 1 rfl rfl (show ¬ ((0 : Int32) < 0 ∨ 4 ≤ (0 : Int32).toNatClampNeg) from by decide) dX1_code_216 (fun H locs hP hD hS => ?_)
                                obtain ⟨g80, eg80⟩ : ∃ y : Nat → Int32, y = upd g67 (0 : Int32).toNatClampNeg (92 : Int32) := ⟨_, rfl⟩
                                have hP : va_P D vwCl (mkW cR cY m0 m1 m2 (ro, sz, op, kd, tk, la, li, g80, 2)) H := by rw [eg80]; exact hP
                                have hD : va_D A (mkW cR cY m0 m1 m2 (ro, sz, op, kd, tk, la, li, g80, 2)) := kk_D_same hD rfl
                                refine lv_aload_n hx hb dX1_code_217 rfl (lv_at hl 2 rfl) ?_
                                refine va_get (D := D) (ci := 1) (v := .ref m2) (C := RX1) (T := TX1) (N := 9) hx hb hts hin hown hK hP 0 rfl rfl 7 (by decide) lk20 (fun _ h9 => h9) rfl dX1_code_218 ?_
                                refine lv_iconst (v := 1) hx hb dX1_code_221 (by decide) ?_
                                refine lv_iload_n hx hb dX1_code_222 rfl (lv_at hl 0 rfl) ?_
                                refine va_iast hx hb hK hP hD hS 2 1 rfl rfl (show ¬ ((1 : Int32) < 0 ∨ 4 ≤ (1 : Int32).toNatClampNeg) from by decide) dX1_code_223 (fun H locs hP hD hS => ?_)
                                obtain ⟨g81, eg81⟩ : ∃ y : Nat → Int32, y = upd g80 (1 : Int32).toNatClampNeg (110 : Int32) := ⟨_, rfl⟩
                                have hP : va_P D vwCl (mkW cR cY m0 m1 m2 (ro, sz, op, kd, tk, la, li, g81, 2)) H := by rw [eg81]; exact hP
                                have hD : va_D A (mkW cR cY m0 m1 m2 (ro, sz, op, kd, tk, la, li, g81, 2)) := kk_D_same hD rfl
                                refine lv_iconst (v := 1) hx hb dX1_code_224 (by decide) ?_
                                have hres : 1 = (mk_code (ro, sz, op, kd, tk, la, li, bt, mn) x1).1 := by
                                  subst eg81 eg80 eg67 et66 et60 eg59 et58 et57 et54 eg53 et52 et51
                                  first | rfl | (simp only [mk_code, mk_c3, mk_cm, mk_sb, mk_by1, mk_by2, mk_by3, mk_by4, mk_c4, mk_rem, if_neg c1, if_neg c2, if_pos c3, if_pos c4, if_pos c5, if_neg c6, if_pos c68, if_neg (not_not_intro c69)]; done) | (simp [mk_code, mk_c3, mk_cm, mk_sb, mk_by1, mk_by2, mk_by3, mk_by4, mk_c4, mk_rem, if_neg c1, if_neg c2, if_pos c3, if_pos c4, if_pos c5, if_neg c6, if_pos c68, if_neg (not_not_intro c69)]; done)
                                have hre2 : (ro, sz, op, kd, tk, la, li, g81, 2) = (mk_code (ro, sz, op, kd, tk, la, li, bt, mn) x1).2 := by
                                  subst eg81 eg80 eg67 et66 et60 eg59 et58 et57 et54 eg53 et52 et51
                                  first | rfl | (simp only [mk_code, mk_c3, mk_cm, mk_sb, mk_by1, mk_by2, mk_by3, mk_by4, mk_c4, mk_rem, if_neg c1, if_neg c2, if_pos c3, if_pos c4, if_pos c5, if_neg c6, if_pos c68, if_neg (not_not_intro c69)]; done) | (simp [mk_code, mk_c3, mk_cm, mk_sb, mk_by1, mk_by2, mk_by3, mk_by4, mk_c4, mk_rem, if_neg c1, if_neg c2, if_pos c3, if_pos c4, if_pos c5, if_neg c6, if_pos c68, if_neg (not_not_intro c69)]; done)
                                exact W.zret (v := 1) (ty := .boolean) hx hb hr rfl (fun t ht hW => ⟨⟨1, (ro, sz, op, kd, tk, la, li, g81, 2), rfl, ⟨hres, hre2⟩, by show va_P D vwCl _ t.heap; rw [ht]; exact hP⟩, hS.F ht⟩) hS.2.2 dX1_code_225
                          · refine lv_bipush (v := 92) hx hb dX1_code_160 (by decide) ?_
                            refine lv_goto (tgt := 199) hx hb dX1_code_162 (by decide) ?_
                            refine lv_istore_n (lv' := [(3, .int 92), (2, .int t60), (0, .ref m0), (1, .int x1)]) hx hb dX1_code_199 rfl hl (by decide) rfl (fun ls hl => ?_)
                            refine lv_iload_n hx hb dX1_code_200 rfl (lv_at hl 0 rfl) ?_
                            refine lv_if_le (tgt := 224) hx hb dX1_code_201 (by decide) (fun c82 => ?_) (fun c82 => ?_)
                            · exact absurd c82 (by decide)
                            · refine lv_aload_n hx hb dX1_code_204 rfl (lv_at hl 2 rfl) ?_
                              refine lv_iconst (v := 2) hx hb dX1_code_205 (by decide) ?_
                              refine va_put (D := D) (ci := 1) (v := .int 2) (ty := .int) (C := RX1) (T := TX1) (N := 9) hx hb hts hin tyX1 tyX1_ok nmX1 hown hK hP hD hS 0 rfl rfl 8 (by decide) lk33 (fun _ h9 => h9) rfl (by decide +kernel) rfl rfl (Nat.le_of_ble_eq_true rfl) dX1_code_206 (fun H locs hP hD hS => ?_)
                              have hP : va_P D vwCl (mkW cR cY m0 m1 m2 (ro, sz, op, kd, tk, la, li, g67, 2)) H := hP
                              have hD : va_D A (mkW cR cY m0 m1 m2 (ro, sz, op, kd, tk, la, li, g67, 2)) := hD
                              refine lv_aload_n hx hb dX1_code_209 rfl (lv_at hl 2 rfl) ?_
                              refine va_get (D := D) (ci := 1) (v := .ref m2) (C := RX1) (T := TX1) (N := 9) hx hb hts hin hown hK hP 0 rfl rfl 7 (by decide) lk20 (fun _ h9 => h9) rfl dX1_code_210 ?_
                              refine lv_iconst (v := 0) hx hb dX1_code_213 (by decide) ?_
                              refine lv_bipush (v := 92) hx hb dX1_code_214 (by decide) ?_
                              refine va_iast hx hb hK hP hD hS 2 1 rfl rfl (show ¬ ((0 : Int32) < 0 ∨ 4 ≤ (0 : Int32).toNatClampNeg) from by decide) dX1_code_216 (fun H locs hP hD hS => ?_)
                              obtain ⟨g83, eg83⟩ : ∃ y : Nat → Int32, y = upd g67 (0 : Int32).toNatClampNeg (92 : Int32) := ⟨_, rfl⟩
                              have hP : va_P D vwCl (mkW cR cY m0 m1 m2 (ro, sz, op, kd, tk, la, li, g83, 2)) H := by rw [eg83]; exact hP
                              have hD : va_D A (mkW cR cY m0 m1 m2 (ro, sz, op, kd, tk, la, li, g83, 2)) := kk_D_same hD rfl
                              refine lv_aload_n hx hb dX1_code_217 rfl (lv_at hl 2 rfl) ?_
                              refine va_get (D := D) (ci := 1) (v := .ref m2) (C := RX1) (T := TX1) (N := 9) hx hb hts hin hown hK hP 0 rfl rfl 7 (by decide) lk20 (fun _ h9 => h9) rfl dX1_code_218 ?_
                              refine lv_iconst (v := 1) hx hb dX1_code_221 (by decide) ?_
                              refine lv_iload_n hx hb dX1_code_222 rfl (lv_at hl 0 rfl) ?_
                              refine va_iast hx hb hK hP hD hS 2 1 rfl rfl (show ¬ ((1 : Int32) < 0 ∨ 4 ≤ (1 : Int32).toNatClampNeg) from by decide) dX1_code_223 (fun H locs hP hD hS => ?_)
                              obtain ⟨g84, eg84⟩ : ∃ y : Nat → Int32, y = upd g83 (1 : Int32).toNatClampNeg (92 : Int32) := ⟨_, rfl⟩
                              have hP : va_P D vwCl (mkW cR cY m0 m1 m2 (ro, sz, op, kd, tk, la, li, g84, 2)) H := by rw [eg84]; exact hP
                              have hD : va_D A (mkW cR cY m0 m1 m2 (ro, sz, op, kd, tk, la, li, g84, 2)) := kk_D_same hD rfl
                              refine lv_iconst (v := 1) hx hb dX1_code_224 (by decide) ?_
                              have hres : 1 = (mk_code (ro, sz, op, kd, tk, la, li, bt, mn) x1).1 := by
                                subst eg84 eg83 eg67 et66 et60 eg59 et58 et57 et54 eg53 et52 et51
                                first | rfl | (simp only [mk_code, mk_c3, mk_cm, mk_sb, mk_by1, mk_by2, mk_by3, mk_by4, mk_c4, mk_rem, if_neg c1, if_neg c2, if_pos c3, if_pos c4, if_pos c5, if_neg c6, if_neg (not_not_intro c68)]; done) | (simp [mk_code, mk_c3, mk_cm, mk_sb, mk_by1, mk_by2, mk_by3, mk_by4, mk_c4, mk_rem, if_neg c1, if_neg c2, if_pos c3, if_pos c4, if_pos c5, if_neg c6, if_neg (not_not_intro c68)]; done)
                              have hre2 : (ro, sz, op, kd, tk, la, li, g84, 2) = (mk_code (ro, sz, op, kd, tk, la, li, bt, mn) x1).2 := by
                                subst eg84 eg83 eg67 et66 et60 eg59 et58 et57 et54 eg53 et52 et51
                                first | rfl | (simp only [mk_code, mk_c3, mk_cm, mk_sb, mk_by1, mk_by2, mk_by3, mk_by4, mk_c4, mk_rem, if_neg c1, if_neg c2, if_pos c3, if_pos c4, if_pos c5, if_neg c6, if_neg (not_not_intro c68)]; done) | (simp [mk_code, mk_c3, mk_cm, mk_sb, mk_by1, mk_by2, mk_by3, mk_by4, mk_c4, mk_rem, if_neg c1, if_neg c2, if_pos c3, if_pos c4, if_pos c5, if_neg c6, if_neg (not_not_intro c68)]; done)
                              exact W.zret (v := 1) (ty := .boolean) hx hb hr rfl (fun t ht hW => ⟨⟨1, (ro, sz, op, kd, tk, la, li, g84, 2), rfl, ⟨hres, hre2⟩, by show va_P D vwCl _ t.heap; rw [ht]; exact hP⟩, hS.F ht⟩) hS.2.2 dX1_code_225
                      · exact absurd c64 (by decide)
                    · exact absurd c63 (by decide)
                  · exact absurd c62 (by decide)
          · refine lv_iconst (v := 2) hx hb dX1_code_43 (by decide) ?_
            refine lv_goto (tgt := 58) hx hb dX1_code_44 (by decide) ?_
            refine va_put (D := D) (ci := 1) (v := .int 2) (ty := .int) (C := RX1) (T := TX1) (N := 9) hx hb hts hin tyX1 tyX1_ok nmX1 hown hK hP hD hS 0 rfl rfl 8 (by decide) lk33 (fun _ h9 => h9) rfl (by decide +kernel) rfl rfl (Nat.le_of_ble_eq_true rfl) dX1_code_58 (fun H locs hP hD hS => ?_)
            have hP : va_P D vwCl (mkW cR cY m0 m1 m2 (ro, sz, op, kd, tk, la, li, bt, 2)) H := hP
            have hD : va_D A (mkW cR cY m0 m1 m2 (ro, sz, op, kd, tk, la, li, bt, 2)) := hD
            refine lv_iload_n hx hb dX1_code_61 rfl (lv_at hl 1 rfl) ?_
            refine lv_istore_n (lv' := [(2, .int x1), (0, .ref m0), (1, .int x1)]) hx hb dX1_code_62 rfl hl (by decide) rfl (fun ls hl => ?_)
            refine lv_aload_n hx hb dX1_code_63 rfl (lv_at hl 1 rfl) ?_
            refine va_get (D := D) (ci := 1) (v := .int 2) (C := RX1) (T := TX1) (N := 9) hx hb hts hin hown hK hP 0 rfl rfl 8 (by decide) lk33 (fun _ h9 => h9) rfl dX1_code_64 ?_
            refine lv_iconst (v := 1) hx hb dX1_code_67 (by decide) ?_
            refine lv_isub hx hb dX1_code_68 ?_
            refine lv_topi (fun t85 et85 => ?_)
            obtain rfl : t85 = 1 := by rw [et85]; decide
            refine lv_istore_n (lv' := [(3, .int 1), (2, .int x1), (0, .ref m0), (1, .int x1)]) hx hb dX1_code_69 rfl hl (by decide) rfl (fun ls hl => ?_)
            refine lv_iload_n hx hb dX1_code_70 rfl (lv_at hl 0 rfl) ?_
            refine lv_if_le (tgt := 99) hx hb dX1_code_71 (by decide) (fun c86 => ?_) (fun c86 => ?_)
            · exact absurd c86 (by decide)
            · refine lv_aload_n hx hb dX1_code_74 rfl (lv_at hl 2 rfl) ?_
              refine va_get (D := D) (ci := 1) (v := .ref m2) (C := RX1) (T := TX1) (N := 9) hx hb hts hin hown hK hP 0 rfl rfl 7 (by decide) lk20 (fun _ h9 => h9) rfl dX1_code_75 ?_
              refine lv_iload_n hx hb dX1_code_78 rfl (lv_at hl 0 rfl) ?_
              refine lv_sipush (v := 128) hx hb dX1_code_79 (by decide) ?_
              refine lv_iload_n hx hb dX1_code_82 rfl (lv_at hl 1 rfl) ?_
              refine lv_bipush (v := 64) hx hb dX1_code_83 (by decide) ?_
              refine lv_irem hx hb dX1_code_85 (by decide) ?_
              refine lv_topi (fun t87 et87 => ?_)
              refine lv_iadd hx hb dX1_code_86 ?_
              refine lv_topi (fun t88 et88 => ?_)
              refine va_iast hx hb hK hP hD hS 2 1 rfl rfl (show ¬ ((1 : Int32) < 0 ∨ 4 ≤ (1 : Int32).toNatClampNeg) from by decide) dX1_code_87 (fun H locs hP hD hS => ?_)
              obtain ⟨g89, eg89⟩ : ∃ y : Nat → Int32, y = upd bt (1 : Int32).toNatClampNeg t88 := ⟨_, rfl⟩
              have hP : va_P D vwCl (mkW cR cY m0 m1 m2 (ro, sz, op, kd, tk, la, li, g89, 2)) H := by rw [eg89]; exact hP
              have hD : va_D A (mkW cR cY m0 m1 m2 (ro, sz, op, kd, tk, la, li, g89, 2)) := kk_D_same hD rfl
              refine lv_iload_n hx hb dX1_code_88 rfl (lv_at hl 1 rfl) ?_
              refine lv_bipush (v := 64) hx hb dX1_code_89 (by decide) ?_
              refine lv_idiv hx hb dX1_code_91 (by decide) ?_
              refine lv_topi (fun t90 et90 => ?_)
              refine lv_istore_n (lv' := [(2, .int t90), (3, .int 1), (0, .ref m0), (1, .int x1)]) hx hb dX1_code_92 rfl hl (by decide) rfl (fun ls hl => ?_)
              refine lv_iinc (v := 0) (lv' := [(3, .int 0), (2, .int t90), (0, .ref m0), (1, .int x1)]) hx hb dX1_code_93 hl (k := 1) rfl (by decide) (by decide) rfl (fun ls hl => ?_)
              refine lv_goto (tgt := 70) hx hb dX1_code_96 (by decide) ?_
              refine lv_iload_n hx hb dX1_code_70 rfl (lv_at hl 0 rfl) ?_
              refine lv_if_le (tgt := 99) hx hb dX1_code_71 (by decide) (fun c92 => ?_) (fun c92 => ?_)
              · refine lv_aload_n hx hb dX1_code_99 rfl (lv_at hl 2 rfl) ?_
                refine va_get (D := D) (ci := 1) (v := .ref m2) (C := RX1) (T := TX1) (N := 9) hx hb hts hin hown hK hP 0 rfl rfl 7 (by decide) lk20 (fun _ h9 => h9) rfl dX1_code_100 ?_
                refine lv_iconst (v := 0) hx hb dX1_code_103 (by decide) ?_
                refine lv_aload_n hx hb dX1_code_104 rfl (lv_at hl 2 rfl) ?_
                refine va_get (D := D) (ci := 1) (v := .int 2) (C := RX1) (T := TX1) (N := 9) hx hb hts hin hown hK hP 0 rfl rfl 8 (by decide) lk33 (fun _ h9 => h9) rfl dX1_code_105 ?_
                refine lv_iconst (v := 1) hx hb dX1_code_108 (by decide) ?_
                refine lv_icmp_ne (tgt := 116) hx hb dX1_code_109 (by decide) (fun c93 => ?_) (fun c93 => ?_)
                · refine lv_aload_n hx hb dX1_code_116 rfl (lv_at hl 2 rfl) ?_
                  refine va_get (D := D) (ci := 1) (v := .int 2) (C := RX1) (T := TX1) (N := 9) hx hb hts hin hown hK hP 0 rfl rfl 8 (by decide) lk33 (fun _ h9 => h9) rfl dX1_code_117 ?_
                  refine lv_iconst (v := 2) hx hb dX1_code_120 (by decide) ?_
                  refine lv_icmp_ne (tgt := 132) hx hb dX1_code_121 (by decide) (fun c94 => ?_) (fun c94 => ?_)
                  · exact absurd c94 (by decide)
                  · refine lv_sipush (v := 192) hx hb dX1_code_124 (by decide) ?_
                    refine lv_iload_n hx hb dX1_code_127 rfl (lv_at hl 1 rfl) ?_
                    refine lv_iadd hx hb dX1_code_128 ?_
                    refine lv_topi (fun t95 et95 => ?_)
                    refine lv_goto (tgt := 153) hx hb dX1_code_129 (by decide) ?_
                    refine va_iast hx hb hK hP hD hS 2 1 rfl rfl (show ¬ ((0 : Int32) < 0 ∨ 4 ≤ (0 : Int32).toNatClampNeg) from by decide) dX1_code_153 (fun H locs hP hD hS => ?_)
                    obtain ⟨g96, eg96⟩ : ∃ y : Nat → Int32, y = upd g89 (0 : Int32).toNatClampNeg t95 := ⟨_, rfl⟩
                    have hP : va_P D vwCl (mkW cR cY m0 m1 m2 (ro, sz, op, kd, tk, la, li, g96, 2)) H := by rw [eg96]; exact hP
                    have hD : va_D A (mkW cR cY m0 m1 m2 (ro, sz, op, kd, tk, la, li, g96, 2)) := kk_D_same hD rfl
                    refine lv_iload_n hx hb dX1_code_154 rfl (lv_at hl 3 rfl) ?_
                    refine lv_bipush (v := 92) hx hb dX1_code_155 (by decide) ?_
                    refine lv_icmp_ne (tgt := 165) hx hb dX1_code_157 (by decide) (fun c97 => ?_) (fun c97 => ?_)
                    · refine lv_iload_n hx hb dX1_code_165 rfl (lv_at hl 3 rfl) ?_
                      refine lv_bipush (v := 10) hx hb dX1_code_166 (by decide) ?_
                      refine lv_icmp_ne (tgt := 176) hx hb dX1_code_168 (by decide) (fun c98 => ?_) (fun c98 => ?_)
                      · refine lv_iload_n hx hb dX1_code_176 rfl (lv_at hl 3 rfl) ?_
                        refine lv_bipush (v := 9) hx hb dX1_code_177 (by decide) ?_
                        refine lv_icmp_ne (tgt := 187) hx hb dX1_code_179 (by decide) (fun c99 => ?_) (fun c99 => ?_)
                        · refine lv_iload_n hx hb dX1_code_187 rfl (lv_at hl 3 rfl) ?_
                          refine lv_bipush (v := 13) hx hb dX1_code_188 (by decide) ?_
                          refine lv_icmp_ne (tgt := 198) hx hb dX1_code_190 (by decide) (fun c100 => ?_) (fun c100 => ?_)
                          · refine lv_iconst (v := 0) hx hb dX1_code_198 (by decide) ?_
                            refine lv_istore_n (lv' := [(3, .int 0), (2, .int t90), (0, .ref m0), (1, .int x1)]) hx hb dX1_code_199 rfl hl (by decide) rfl (fun ls hl => ?_)
                            refine lv_iload_n hx hb dX1_code_200 rfl (lv_at hl 0 rfl) ?_
                            refine lv_if_le (tgt := 224) hx hb dX1_code_201 (by decide) (fun c101 => ?_) (fun c101 => ?_)
                            · refine lv_iconst (v := 1) hx hb dX1_code_224 (by decide) ?_
                              have hres : 1 = (mk_code (ro, sz, op, kd, tk, la, li, bt, mn) x1).1 := by
                                subst eg96 et95 et90 eg89 et88 et87
                                first | rfl | (simp only [mk_code, mk_c3, mk_cm, mk_sb, mk_by1, mk_by2, mk_by3, mk_by4, mk_c4, mk_rem, if_neg c1, if_neg c2, if_pos c3, if_pos c4, if_neg c5, if_pos c97, if_pos c98, if_pos c99, if_pos c100]; done) | (simp [mk_code, mk_c3, mk_cm, mk_sb, mk_by1, mk_by2, mk_by3, mk_by4, mk_c4, mk_rem, if_neg c1, if_neg c2, if_pos c3, if_pos c4, if_neg c5, if_pos c97, if_pos c98, if_pos c99, if_pos c100]; done)
                              have hre2 : (ro, sz, op, kd, tk, la, li, g96, 2) = (mk_code (ro, sz, op, kd, tk, la, li, bt, mn) x1).2 := by
                                subst eg96 et95 et90 eg89 et88 et87
                                first | rfl | (simp only [mk_code, mk_c3, mk_cm, mk_sb, mk_by1, mk_by2, mk_by3, mk_by4, mk_c4, mk_rem, if_neg c1, if_neg c2, if_pos c3, if_pos c4, if_neg c5, if_pos c97, if_pos c98, if_pos c99, if_pos c100]; done) | (simp [mk_code, mk_c3, mk_cm, mk_sb, mk_by1, mk_by2, mk_by3, mk_by4, mk_c4, mk_rem, if_neg c1, if_neg c2, if_pos c3, if_pos c4, if_neg c5, if_pos c97, if_pos c98, if_pos c99, if_pos c100]; done)
                              exact W.zret (v := 1) (ty := .boolean) hx hb hr rfl (fun t ht hW => ⟨⟨1, (ro, sz, op, kd, tk, la, li, g96, 2), rfl, ⟨hres, hre2⟩, by show va_P D vwCl _ t.heap; rw [ht]; exact hP⟩, hS.F ht⟩) hS.2.2 dX1_code_225
                            · exact absurd c101 (by decide)
                          · refine lv_bipush (v := 114) hx hb dX1_code_193 (by decide) ?_
                            refine lv_goto (tgt := 199) hx hb dX1_code_195 (by decide) ?_
                            refine lv_istore_n (lv' := [(3, .int 114), (2, .int t90), (0, .ref m0), (1, .int x1)]) hx hb dX1_code_199 rfl hl (by decide) rfl (fun ls hl => ?_)
                            refine lv_iload_n hx hb dX1_code_200 rfl (lv_at hl 0 rfl) ?_
                            refine lv_if_le (tgt := 224) hx hb dX1_code_201 (by decide) (fun c102 => ?_) (fun c102 => ?_)
                            · exact absurd c102 (by decide)
                            · refine lv_aload_n hx hb dX1_code_204 rfl (lv_at hl 2 rfl) ?_
                              refine lv_iconst (v := 2) hx hb dX1_code_205 (by decide) ?_
                              refine va_put (D := D) (ci := 1) (v := .int 2) (ty := .int) (C := RX1) (T := TX1) (N := 9) hx hb hts hin tyX1 tyX1_ok nmX1 hown hK hP hD hS 0 rfl rfl 8 (by decide) lk33 (fun _ h9 => h9) rfl (by decide +kernel) rfl rfl (Nat.le_of_ble_eq_true rfl) dX1_code_206 (fun H locs hP hD hS => ?_)
                              have hP : va_P D vwCl (mkW cR cY m0 m1 m2 (ro, sz, op, kd, tk, la, li, g96, 2)) H := hP
                              have hD : va_D A (mkW cR cY m0 m1 m2 (ro, sz, op, kd, tk, la, li, g96, 2)) := hD
                              refine lv_aload_n hx hb dX1_code_209 rfl (lv_at hl 2 rfl) ?_
                              refine va_get (D := D) (ci := 1) (v := .ref m2) (C := RX1) (T := TX1) (N := 9) hx hb hts hin hown hK hP 0 rfl rfl 7 (by decide) lk20 (fun _ h9 => h9) rfl dX1_code_210 ?_
                              refine lv_iconst (v := 0) hx hb dX1_code_213 (by decide) ?_
                              refine lv_bipush (v := 92) hx hb dX1_code_214 (by decide) ?_
                              refine va_iast hx hb hK hP hD hS 2 1 rfl rfl (show ¬ ((0 : Int32) < 0 ∨ 4 ≤ (0 : Int32).toNatClampNeg) from by decide) dX1_code_216 (fun H locs hP hD hS => ?_)
                              obtain ⟨g103, eg103⟩ : ∃ y : Nat → Int32, y = upd g96 (0 : Int32).toNatClampNeg (92 : Int32) := ⟨_, rfl⟩
                              have hP : va_P D vwCl (mkW cR cY m0 m1 m2 (ro, sz, op, kd, tk, la, li, g103, 2)) H := by rw [eg103]; exact hP
                              have hD : va_D A (mkW cR cY m0 m1 m2 (ro, sz, op, kd, tk, la, li, g103, 2)) := kk_D_same hD rfl
                              refine lv_aload_n hx hb dX1_code_217 rfl (lv_at hl 2 rfl) ?_
                              refine va_get (D := D) (ci := 1) (v := .ref m2) (C := RX1) (T := TX1) (N := 9) hx hb hts hin hown hK hP 0 rfl rfl 7 (by decide) lk20 (fun _ h9 => h9) rfl dX1_code_218 ?_
                              refine lv_iconst (v := 1) hx hb dX1_code_221 (by decide) ?_
                              refine lv_iload_n hx hb dX1_code_222 rfl (lv_at hl 0 rfl) ?_
                              refine va_iast hx hb hK hP hD hS 2 1 rfl rfl (show ¬ ((1 : Int32) < 0 ∨ 4 ≤ (1 : Int32).toNatClampNeg) from by decide) dX1_code_223 (fun H locs hP hD hS => ?_)
                              obtain ⟨g104, eg104⟩ : ∃ y : Nat → Int32, y = upd g103 (1 : Int32).toNatClampNeg (114 : Int32) := ⟨_, rfl⟩
                              have hP : va_P D vwCl (mkW cR cY m0 m1 m2 (ro, sz, op, kd, tk, la, li, g104, 2)) H := by rw [eg104]; exact hP
                              have hD : va_D A (mkW cR cY m0 m1 m2 (ro, sz, op, kd, tk, la, li, g104, 2)) := kk_D_same hD rfl
                              refine lv_iconst (v := 1) hx hb dX1_code_224 (by decide) ?_
                              have hres : 1 = (mk_code (ro, sz, op, kd, tk, la, li, bt, mn) x1).1 := by
                                subst eg104 eg103 eg96 et95 et90 eg89 et88 et87
                                first | rfl | (simp only [mk_code, mk_c3, mk_cm, mk_sb, mk_by1, mk_by2, mk_by3, mk_by4, mk_c4, mk_rem, if_neg c1, if_neg c2, if_pos c3, if_pos c4, if_neg c5, if_pos c97, if_pos c98, if_pos c99, if_neg (not_not_intro c100)]; done) | (simp [mk_code, mk_c3, mk_cm, mk_sb, mk_by1, mk_by2, mk_by3, mk_by4, mk_c4, mk_rem, if_neg c1, if_neg c2, if_pos c3, if_pos c4, if_neg c5, if_pos c97, if_pos c98, if_pos c99, if_neg (not_not_intro c100)]; done)
                              have hre2 : (ro, sz, op, kd, tk, la, li, g104, 2) = (mk_code (ro, sz, op, kd, tk, la, li, bt, mn) x1).2 := by
                                subst eg104 eg103 eg96 et95 et90 eg89 et88 et87
                                first | rfl | (simp only [mk_code, mk_c3, mk_cm, mk_sb, mk_by1, mk_by2, mk_by3, mk_by4, mk_c4, mk_rem, if_neg c1, if_neg c2, if_pos c3, if_pos c4, if_neg c5, if_pos c97, if_pos c98, if_pos c99, if_neg (not_not_intro c100)]; done) | (simp [mk_code, mk_c3, mk_cm, mk_sb, mk_by1, mk_by2, mk_by3, mk_by4, mk_c4, mk_rem, if_neg c1, if_neg c2, if_pos c3, if_pos c4, if_neg c5, if_pos c97, if_pos c98, if_pos c99, if_neg (not_not_intro c100)]; done)
                              exact W.zret (v := 1) (ty := .boolean) hx hb hr rfl (fun t ht hW => ⟨⟨1, (ro, sz, op, kd, tk, la, li, g104, 2), rfl, ⟨hres, hre2⟩, by show va_P D vwCl _ t.heap; rw [ht]; exact hP⟩, hS.F ht⟩) hS.2.2 dX1_code_225
                        · refine lv_bipush (v := 116) hx hb dX1_code_182 (by decide) ?_
                          refine lv_goto (tgt := 199) hx hb dX1_code_184 (by decide) ?_
                          refine lv_istore_n (lv' := [(3, .int 116), (2, .int t90), (0, .ref m0), (1, .int x1)]) hx hb dX1_code_199 rfl hl (by decide) rfl (fun ls hl => ?_)
                          refine lv_iload_n hx hb dX1_code_200 rfl (lv_at hl 0 rfl) ?_
                          refine lv_if_le (tgt := 224) hx hb dX1_code_201 (by decide) (fun c105 => ?_) (fun c105 => ?_)
                          · exact absurd c105 (by decide)
                          · refine lv_aload_n hx hb dX1_code_204 rfl (lv_at hl 2 rfl) ?_
                            refine lv_iconst (v := 2) hx hb dX1_code_205 (by decide) ?_
                            refine va_put (D := D) (ci := 1) (v := .int 2) (ty := .int) (C := RX1) (T := TX1) (N := 9) hx hb hts hin tyX1 tyX1_ok nmX1 hown hK hP hD hS 0 rfl rfl 8 (by decide) lk33 (fun _ h9 => h9) rfl (by decide +kernel) rfl rfl (Nat.le_of_ble_eq_true rfl) dX1_code_206 (fun H locs hP hD hS => ?_)
                            have hP : va_P D vwCl (mkW cR cY m0 m1 m2 (ro, sz, op, kd, tk, la, li, g96, 2)) H := hP
                            have hD : va_D A (mkW cR cY m0 m1 m2 (ro, sz, op, kd, tk, la, li, g96, 2)) := hD
                            refine lv_aload_n hx hb dX1_code_209 rfl (lv_at hl 2 rfl) ?_
                            refine va_get (D := D) (ci := 1) (v := .ref m2) (C := RX1) (T := TX1) (N := 9) hx hb hts hin hown hK hP 0 rfl rfl 7 (by decide) lk20 (fun _ h9 => h9) rfl dX1_code_210 ?_
                            refine lv_iconst (v := 0) hx hb dX1_code_213 (by decide) ?_
                            refine lv_bipush (v := 92) hx hb dX1_code_214 (by decide) ?_
                            refine va_iast hx hb hK hP hD hS 2 1 rfl rfl (show ¬ ((0 : Int32) < 0 ∨ 4 ≤ (0 : Int32).toNatClampNeg) from by decide) dX1_code_216 (fun H locs hP hD hS => ?_)
                            obtain ⟨g106, eg106⟩ : ∃ y : Nat → Int32, y = upd g96 (0 : Int32).toNatClampNeg (92 : Int32) := ⟨_, rfl⟩
                            have hP : va_P D vwCl (mkW cR cY m0 m1 m2 (ro, sz, op, kd, tk, la, li, g106, 2)) H := by rw [eg106]; exact hP
                            have hD : va_D A (mkW cR cY m0 m1 m2 (ro, sz, op, kd, tk, la, li, g106, 2)) := kk_D_same hD rfl
                            refine lv_aload_n hx hb dX1_code_217 rfl (lv_at hl 2 rfl) ?_
                            refine va_get (D := D) (ci := 1) (v := .ref m2) (C := RX1) (T := TX1) (N := 9) hx hb hts hin hown hK hP 0 rfl rfl 7 (by decide) lk20 (fun _ h9 => h9) rfl dX1_code_218 ?_
                            refine lv_iconst (v := 1) hx hb dX1_code_221 (by decide) ?_
                            refine lv_iload_n hx hb dX1_code_222 rfl (lv_at hl 0 rfl) ?_
                            refine va_iast hx hb hK hP hD hS 2 1 rfl rfl (show ¬ ((1 : Int32) < 0 ∨ 4 ≤ (1 : Int32).toNatClampNeg) from by decide) dX1_code_223 (fun H locs hP hD hS => ?_)
                            obtain ⟨g107, eg107⟩ : ∃ y : Nat → Int32, y = upd g106 (1 : Int32).toNatClampNeg (116 : Int32) := ⟨_, rfl⟩
                            have hP : va_P D vwCl (mkW cR cY m0 m1 m2 (ro, sz, op, kd, tk, la, li, g107, 2)) H := by rw [eg107]; exact hP
                            have hD : va_D A (mkW cR cY m0 m1 m2 (ro, sz, op, kd, tk, la, li, g107, 2)) := kk_D_same hD rfl
                            refine lv_iconst (v := 1) hx hb dX1_code_224 (by decide) ?_
                            have hres : 1 = (mk_code (ro, sz, op, kd, tk, la, li, bt, mn) x1).1 := by
                              subst eg107 eg106 eg96 et95 et90 eg89 et88 et87
                              first | rfl | (simp only [mk_code, mk_c3, mk_cm, mk_sb, mk_by1, mk_by2, mk_by3, mk_by4, mk_c4, mk_rem, if_neg c1, if_neg c2, if_pos c3, if_pos c4, if_neg c5, if_pos c97, if_pos c98, if_neg (not_not_intro c99)]; done) | (simp [mk_code, mk_c3, mk_cm, mk_sb, mk_by1, mk_by2, mk_by3, mk_by4, mk_c4, mk_rem, if_neg c1, if_neg c2, if_pos c3, if_pos c4, if_neg c5, if_pos c97, if_pos c98, if_neg (not_not_intro c99)]; done)
                            have hre2 : (ro, sz, op, kd, tk, la, li, g107, 2) = (mk_code (ro, sz, op, kd, tk, la, li, bt, mn) x1).2 := by
                              subst eg107 eg106 eg96 et95 et90 eg89 et88 et87
                              first | rfl | (simp only [mk_code, mk_c3, mk_cm, mk_sb, mk_by1, mk_by2, mk_by3, mk_by4, mk_c4, mk_rem, if_neg c1, if_neg c2, if_pos c3, if_pos c4, if_neg c5, if_pos c97, if_pos c98, if_neg (not_not_intro c99)]; done) | (simp [mk_code, mk_c3, mk_cm, mk_sb, mk_by1, mk_by2, mk_by3, mk_by4, mk_c4, mk_rem, if_neg c1, if_neg c2, if_pos c3, if_pos c4, if_neg c5, if_pos c97, if_pos c98, if_neg (not_not_intro c99)]; done)
                            exact W.zret (v := 1) (ty := .boolean) hx hb hr rfl (fun t ht hW => ⟨⟨1, (ro, sz, op, kd, tk, la, li, g107, 2), rfl, ⟨hres, hre2⟩, by show va_P D vwCl _ t.heap; rw [ht]; exact hP⟩, hS.F ht⟩) hS.2.2 dX1_code_225
                      · refine lv_bipush (v := 110) hx hb dX1_code_171 (by decide) ?_
                        refine lv_goto (tgt := 199) hx hb dX1_code_173 (by decide) ?_
                        refine lv_istore_n (lv' := [(3, .int 110), (2, .int t90), (0, .ref m0), (1, .int x1)]) hx hb dX1_code_199 rfl hl (by decide) rfl (fun ls hl => ?_)
                        refine lv_iload_n hx hb dX1_code_200 rfl (lv_at hl 0 rfl) ?_
                        refine lv_if_le (tgt := 224) hx hb dX1_code_201 (by decide) (fun c108 => ?_) (fun c108 => ?_)
                        · exact absurd c108 (by decide)
                        · refine lv_aload_n hx hb dX1_code_204 rfl (lv_at hl 2 rfl) ?_
                          refine lv_iconst (v := 2) hx hb dX1_code_205 (by decide) ?_
                          refine va_put (D := D) (ci := 1) (v := .int 2) (ty := .int) (C := RX1) (T := TX1) (N := 9) hx hb hts hin tyX1 tyX1_ok nmX1 hown hK hP hD hS 0 rfl rfl 8 (by decide) lk33 (fun _ h9 => h9) rfl (by decide +kernel) rfl rfl (Nat.le_of_ble_eq_true rfl) dX1_code_206 (fun H locs hP hD hS => ?_)
                          have hP : va_P D vwCl (mkW cR cY m0 m1 m2 (ro, sz, op, kd, tk, la, li, g96, 2)) H := hP
                          have hD : va_D A (mkW cR cY m0 m1 m2 (ro, sz, op, kd, tk, la, li, g96, 2)) := hD
                          refine lv_aload_n hx hb dX1_code_209 rfl (lv_at hl 2 rfl) ?_
                          refine va_get (D := D) (ci := 1) (v := .ref m2) (C := RX1) (T := TX1) (N := 9) hx hb hts hin hown hK hP 0 rfl rfl 7 (by decide) lk20 (fun _ h9 => h9) rfl dX1_code_210 ?_
                          refine lv_iconst (v := 0) hx hb dX1_code_213 (by decide) ?_
                          refine lv_bipush (v := 92) hx hb dX1_code_214 (by decide) ?_
                          refine va_iast hx hb hK hP hD hS 2 1 rfl rfl (show ¬ ((0 : Int32) < 0 ∨ 4 ≤ (0 : Int32).toNatClampNeg) from by decide) dX1_code_216 (fun H locs hP hD hS => ?_)
                          obtain ⟨g109, eg109⟩ : ∃ y : Nat → Int32, y = upd g96 (0 : Int32).toNatClampNeg (92 : Int32) := ⟨_, rfl⟩
                          have hP : va_P D vwCl (mkW cR cY m0 m1 m2 (ro, sz, op, kd, tk, la, li, g109, 2)) H := by rw [eg109]; exact hP
                          have hD : va_D A (mkW cR cY m0 m1 m2 (ro, sz, op, kd, tk, la, li, g109, 2)) := kk_D_same hD rfl
                          refine lv_aload_n hx hb dX1_code_217 rfl (lv_at hl 2 rfl) ?_
                          refine va_get (D := D) (ci := 1) (v := .ref m2) (C := RX1) (T := TX1) (N := 9) hx hb hts hin hown hK hP 0 rfl rfl 7 (by decide) lk20 (fun _ h9 => h9) rfl dX1_code_218 ?_
                          refine lv_iconst (v := 1) hx hb dX1_code_221 (by decide) ?_
                          refine lv_iload_n hx hb dX1_code_222 rfl (lv_at hl 0 rfl) ?_
                          refine va_iast hx hb hK hP hD hS 2 1 rfl rfl (show ¬ ((1 : Int32) < 0 ∨ 4 ≤ (1 : Int32).toNatClampNeg) from by decide) dX1_code_223 (fun H locs hP hD hS => ?_)
                          obtain ⟨g110, eg110⟩ : ∃ y : Nat → Int32, y = upd g109 (1 : Int32).toNatClampNeg (110 : Int32) := ⟨_, rfl⟩
                          have hP : va_P D vwCl (mkW cR cY m0 m1 m2 (ro, sz, op, kd, tk, la, li, g110, 2)) H := by rw [eg110]; exact hP
                          have hD : va_D A (mkW cR cY m0 m1 m2 (ro, sz, op, kd, tk, la, li, g110, 2)) := kk_D_same hD rfl
                          refine lv_iconst (v := 1) hx hb dX1_code_224 (by decide) ?_
                          have hres : 1 = (mk_code (ro, sz, op, kd, tk, la, li, bt, mn) x1).1 := by
                            subst eg110 eg109 eg96 et95 et90 eg89 et88 et87
                            first | rfl | (simp only [mk_code, mk_c3, mk_cm, mk_sb, mk_by1, mk_by2, mk_by3, mk_by4, mk_c4, mk_rem, if_neg c1, if_neg c2, if_pos c3, if_pos c4, if_neg c5, if_pos c97, if_neg (not_not_intro c98)]; done) | (simp [mk_code, mk_c3, mk_cm, mk_sb, mk_by1, mk_by2, mk_by3, mk_by4, mk_c4, mk_rem, if_neg c1, if_neg c2, if_pos c3, if_pos c4, if_neg c5, if_pos c97, if_neg (not_not_intro c98)]; done)
                          have hre2 : (ro, sz, op, kd, tk, la, li, g110, 2) = (mk_code (ro, sz, op, kd, tk, la, li, bt, mn) x1).2 := by
                            subst eg110 eg109 eg96 et95 et90 eg89 et88 et87
                            first | rfl | (simp only [mk_code, mk_c3, mk_cm, mk_sb, mk_by1, mk_by2, mk_by3, mk_by4, mk_c4, mk_rem, if_neg c1, if_neg c2, if_pos c3, if_pos c4, if_neg c5, if_pos c97, if_neg (not_not_intro c98)]; done) | (simp [mk_code, mk_c3, mk_cm, mk_sb, mk_by1, mk_by2, mk_by3, mk_by4, mk_c4, mk_rem, if_neg c1, if_neg c2, if_pos c3, if_pos c4, if_neg c5, if_pos c97, if_neg (not_not_intro c98)]; done)
                          exact W.zret (v := 1) (ty := .boolean) hx hb hr rfl (fun t ht hW => ⟨⟨1, (ro, sz, op, kd, tk, la, li, g110, 2), rfl, ⟨hres, hre2⟩, by show va_P D vwCl _ t.heap; rw [ht]; exact hP⟩, hS.F ht⟩) hS.2.2 dX1_code_225
                    · refine lv_bipush (v := 92) hx hb dX1_code_160 (by decide) ?_
                      refine lv_goto (tgt := 199) hx hb dX1_code_162 (by decide) ?_
                      refine lv_istore_n (lv' := [(3, .int 92), (2, .int t90), (0, .ref m0), (1, .int x1)]) hx hb dX1_code_199 rfl hl (by decide) rfl (fun ls hl => ?_)
                      refine lv_iload_n hx hb dX1_code_200 rfl (lv_at hl 0 rfl) ?_
                      refine lv_if_le (tgt := 224) hx hb dX1_code_201 (by decide) (fun c111 => ?_) (fun c111 => ?_)
                      · exact absurd c111 (by decide)
                      · refine lv_aload_n hx hb dX1_code_204 rfl (lv_at hl 2 rfl) ?_
                        refine lv_iconst (v := 2) hx hb dX1_code_205 (by decide) ?_
                        refine va_put (D := D) (ci := 1) (v := .int 2) (ty := .int) (C := RX1) (T := TX1) (N := 9) hx hb hts hin tyX1 tyX1_ok nmX1 hown hK hP hD hS 0 rfl rfl 8 (by decide) lk33 (fun _ h9 => h9) rfl (by decide +kernel) rfl rfl (Nat.le_of_ble_eq_true rfl) dX1_code_206 (fun H locs hP hD hS => ?_)
                        have hP : va_P D vwCl (mkW cR cY m0 m1 m2 (ro, sz, op, kd, tk, la, li, g96, 2)) H := hP
                        have hD : va_D A (mkW cR cY m0 m1 m2 (ro, sz, op, kd, tk, la, li, g96, 2)) := hD
                        refine lv_aload_n hx hb dX1_code_209 rfl (lv_at hl 2 rfl) ?_
                        refine va_get (D := D) (ci := 1) (v := .ref m2) (C := RX1) (T := TX1) (N := 9) hx hb hts hin hown hK hP 0 rfl rfl 7 (by decide) lk20 (fun _ h9 => h9) rfl dX1_code_210 ?_
                        refine lv_iconst (v := 0) hx hb dX1_code_213 (by decide) ?_
                        refine lv_bipush (v := 92) hx hb dX1_code_214 (by decide) ?_
                        refine va_iast hx hb hK hP hD hS 2 1 rfl rfl (show ¬ ((0 : Int32) < 0 ∨ 4 ≤ (0 : Int32).toNatClampNeg) from by decide) dX1_code_216 (fun H locs hP hD hS => ?_)
                        obtain ⟨g112, eg112⟩ : ∃ y : Nat → Int32, y = upd g96 (0 : Int32).toNatClampNeg (92 : Int32) := ⟨_, rfl⟩
                        have hP : va_P D vwCl (mkW cR cY m0 m1 m2 (ro, sz, op, kd, tk, la, li, g112, 2)) H := by rw [eg112]; exact hP
                        have hD : va_D A (mkW cR cY m0 m1 m2 (ro, sz, op, kd, tk, la, li, g112, 2)) := kk_D_same hD rfl
                        refine lv_aload_n hx hb dX1_code_217 rfl (lv_at hl 2 rfl) ?_
                        refine va_get (D := D) (ci := 1) (v := .ref m2) (C := RX1) (T := TX1) (N := 9) hx hb hts hin hown hK hP 0 rfl rfl 7 (by decide) lk20 (fun _ h9 => h9) rfl dX1_code_218 ?_
                        refine lv_iconst (v := 1) hx hb dX1_code_221 (by decide) ?_
                        refine lv_iload_n hx hb dX1_code_222 rfl (lv_at hl 0 rfl) ?_
                        refine va_iast hx hb hK hP hD hS 2 1 rfl rfl (show ¬ ((1 : Int32) < 0 ∨ 4 ≤ (1 : Int32).toNatClampNeg) from by decide) dX1_code_223 (fun H locs hP hD hS => ?_)
                        obtain ⟨g113, eg113⟩ : ∃ y : Nat → Int32, y = upd g112 (1 : Int32).toNatClampNeg (92 : Int32) := ⟨_, rfl⟩
                        have hP : va_P D vwCl (mkW cR cY m0 m1 m2 (ro, sz, op, kd, tk, la, li, g113, 2)) H := by rw [eg113]; exact hP
                        have hD : va_D A (mkW cR cY m0 m1 m2 (ro, sz, op, kd, tk, la, li, g113, 2)) := kk_D_same hD rfl
                        refine lv_iconst (v := 1) hx hb dX1_code_224 (by decide) ?_
                        have hres : 1 = (mk_code (ro, sz, op, kd, tk, la, li, bt, mn) x1).1 := by
                          subst eg113 eg112 eg96 et95 et90 eg89 et88 et87
                          first | rfl | (simp only [mk_code, mk_c3, mk_cm, mk_sb, mk_by1, mk_by2, mk_by3, mk_by4, mk_c4, mk_rem, if_neg c1, if_neg c2, if_pos c3, if_pos c4, if_neg c5, if_neg (not_not_intro c97)]; done) | (simp [mk_code, mk_c3, mk_cm, mk_sb, mk_by1, mk_by2, mk_by3, mk_by4, mk_c4, mk_rem, if_neg c1, if_neg c2, if_pos c3, if_pos c4, if_neg c5, if_neg (not_not_intro c97)]; done)
                        have hre2 : (ro, sz, op, kd, tk, la, li, g113, 2) = (mk_code (ro, sz, op, kd, tk, la, li, bt, mn) x1).2 := by
                          subst eg113 eg112 eg96 et95 et90 eg89 et88 et87
                          first | rfl | (simp only [mk_code, mk_c3, mk_cm, mk_sb, mk_by1, mk_by2, mk_by3, mk_by4, mk_c4, mk_rem, if_neg c1, if_neg c2, if_pos c3, if_pos c4, if_neg c5, if_neg (not_not_intro c97)]; done) | (simp [mk_code, mk_c3, mk_cm, mk_sb, mk_by1, mk_by2, mk_by3, mk_by4, mk_c4, mk_rem, if_neg c1, if_neg c2, if_pos c3, if_pos c4, if_neg c5, if_neg (not_not_intro c97)]; done)
                        exact W.zret (v := 1) (ty := .boolean) hx hb hr rfl (fun t ht hW => ⟨⟨1, (ro, sz, op, kd, tk, la, li, g113, 2), rfl, ⟨hres, hre2⟩, by show va_P D vwCl _ t.heap; rw [ht]; exact hP⟩, hS.F ht⟩) hS.2.2 dX1_code_225
                · exact absurd c93 (by decide)
              · exact absurd c92 (by decide)
        · refine lv_iconst (v := 1) hx hb dX1_code_32 (by decide) ?_
          refine lv_goto (tgt := 58) hx hb dX1_code_33 (by decide) ?_
          refine va_put (D := D) (ci := 1) (v := .int 1) (ty := .int) (C := RX1) (T := TX1) (N := 9) hx hb hts hin tyX1 tyX1_ok nmX1 hown hK hP hD hS 0 rfl rfl 8 (by decide) lk33 (fun _ h9 => h9) rfl (by decide +kernel) rfl rfl (Nat.le_of_ble_eq_true rfl) dX1_code_58 (fun H locs hP hD hS => ?_)
          have hP : va_P D vwCl (mkW cR cY m0 m1 m2 (ro, sz, op, kd, tk, la, li, bt, 1)) H := hP
          have hD : va_D A (mkW cR cY m0 m1 m2 (ro, sz, op, kd, tk, la, li, bt, 1)) := hD
          refine lv_iload_n hx hb dX1_code_61 rfl (lv_at hl 1 rfl) ?_
          refine lv_istore_n (lv' := [(2, .int x1), (0, .ref m0), (1, .int x1)]) hx hb dX1_code_62 rfl hl (by decide) rfl (fun ls hl => ?_)
          refine lv_aload_n hx hb dX1_code_63 rfl (lv_at hl 1 rfl) ?_
          refine va_get (D := D) (ci := 1) (v := .int 1) (C := RX1) (T := TX1) (N := 9) hx hb hts hin hown hK hP 0 rfl rfl 8 (by decide) lk33 (fun _ h9 => h9) rfl dX1_code_64 ?_
          refine lv_iconst (v := 1) hx hb dX1_code_67 (by decide) ?_
          refine lv_isub hx hb dX1_code_68 ?_
          refine lv_topi (fun t114 et114 => ?_)
          obtain rfl : t114 = 0 := by rw [et114]; decide
          refine lv_istore_n (lv' := [(3, .int 0), (2, .int x1), (0, .ref m0), (1, .int x1)]) hx hb dX1_code_69 rfl hl (by decide) rfl (fun ls hl => ?_)
          refine lv_iload_n hx hb dX1_code_70 rfl (lv_at hl 0 rfl) ?_
          refine lv_if_le (tgt := 99) hx hb dX1_code_71 (by decide) (fun c115 => ?_) (fun c115 => ?_)
          · refine lv_aload_n hx hb dX1_code_99 rfl (lv_at hl 2 rfl) ?_
            refine va_get (D := D) (ci := 1) (v := .ref m2) (C := RX1) (T := TX1) (N := 9) hx hb hts hin hown hK hP 0 rfl rfl 7 (by decide) lk20 (fun _ h9 => h9) rfl dX1_code_100 ?_
            refine lv_iconst (v := 0) hx hb dX1_code_103 (by decide) ?_
            refine lv_aload_n hx hb dX1_code_104 rfl (lv_at hl 2 rfl) ?_
            refine va_get (D := D) (ci := 1) (v := .int 1) (C := RX1) (T := TX1) (N := 9) hx hb hts hin hown hK hP 0 rfl rfl 8 (by decide) lk33 (fun _ h9 => h9) rfl dX1_code_105 ?_
            refine lv_iconst (v := 1) hx hb dX1_code_108 (by decide) ?_
            refine lv_icmp_ne (tgt := 116) hx hb dX1_code_109 (by decide) (fun c116 => ?_) (fun c116 => ?_)
            · exact absurd c116 (by decide)
            · refine lv_iload_n hx hb dX1_code_112 rfl (lv_at hl 1 rfl) ?_
              refine lv_goto (tgt := 153) hx hb dX1_code_113 (by decide) ?_
              refine va_iast hx hb hK hP hD hS 2 1 rfl rfl (show ¬ ((0 : Int32) < 0 ∨ 4 ≤ (0 : Int32).toNatClampNeg) from by decide) dX1_code_153 (fun H locs hP hD hS => ?_)
              obtain ⟨g117, eg117⟩ : ∃ y : Nat → Int32, y = upd bt (0 : Int32).toNatClampNeg x1 := ⟨_, rfl⟩
              have hP : va_P D vwCl (mkW cR cY m0 m1 m2 (ro, sz, op, kd, tk, la, li, g117, 1)) H := by rw [eg117]; exact hP
              have hD : va_D A (mkW cR cY m0 m1 m2 (ro, sz, op, kd, tk, la, li, g117, 1)) := kk_D_same hD rfl
              refine lv_iload_n hx hb dX1_code_154 rfl (lv_at hl 3 rfl) ?_
              refine lv_bipush (v := 92) hx hb dX1_code_155 (by decide) ?_
              refine lv_icmp_ne (tgt := 165) hx hb dX1_code_157 (by decide) (fun c118 => ?_) (fun c118 => ?_)
              · refine lv_iload_n hx hb dX1_code_165 rfl (lv_at hl 3 rfl) ?_
                refine lv_bipush (v := 10) hx hb dX1_code_166 (by decide) ?_
                refine lv_icmp_ne (tgt := 176) hx hb dX1_code_168 (by decide) (fun c119 => ?_) (fun c119 => ?_)
                · refine lv_iload_n hx hb dX1_code_176 rfl (lv_at hl 3 rfl) ?_
                  refine lv_bipush (v := 9) hx hb dX1_code_177 (by decide) ?_
                  refine lv_icmp_ne (tgt := 187) hx hb dX1_code_179 (by decide) (fun c120 => ?_) (fun c120 => ?_)
                  · refine lv_iload_n hx hb dX1_code_187 rfl (lv_at hl 3 rfl) ?_
                    refine lv_bipush (v := 13) hx hb dX1_code_188 (by decide) ?_
                    refine lv_icmp_ne (tgt := 198) hx hb dX1_code_190 (by decide) (fun c121 => ?_) (fun c121 => ?_)
                    · refine lv_iconst (v := 0) hx hb dX1_code_198 (by decide) ?_
                      refine lv_istore_n (lv' := [(3, .int 0), (2, .int x1), (0, .ref m0), (1, .int x1)]) hx hb dX1_code_199 rfl hl (by decide) rfl (fun ls hl => ?_)
                      refine lv_iload_n hx hb dX1_code_200 rfl (lv_at hl 0 rfl) ?_
                      refine lv_if_le (tgt := 224) hx hb dX1_code_201 (by decide) (fun c122 => ?_) (fun c122 => ?_)
                      · refine lv_iconst (v := 1) hx hb dX1_code_224 (by decide) ?_
                        have hres : 1 = (mk_code (ro, sz, op, kd, tk, la, li, bt, mn) x1).1 := by
                          subst eg117
                          first | rfl | (simp only [mk_code, mk_c3, mk_cm, mk_sb, mk_by1, mk_by2, mk_by3, mk_by4, mk_c4, mk_rem, if_neg c1, if_neg c2, if_pos c3, if_neg c4, if_pos c118, if_pos c119, if_pos c120, if_pos c121]; done) | (simp [mk_code, mk_c3, mk_cm, mk_sb, mk_by1, mk_by2, mk_by3, mk_by4, mk_c4, mk_rem, if_neg c1, if_neg c2, if_pos c3, if_neg c4, if_pos c118, if_pos c119, if_pos c120, if_pos c121]; done)
                        have hre2 : (ro, sz, op, kd, tk, la, li, g117, 1) = (mk_code (ro, sz, op, kd, tk, la, li, bt, mn) x1).2 := by
                          subst eg117
                          first | rfl | (simp only [mk_code, mk_c3, mk_cm, mk_sb, mk_by1, mk_by2, mk_by3, mk_by4, mk_c4, mk_rem, if_neg c1, if_neg c2, if_pos c3, if_neg c4, if_pos c118, if_pos c119, if_pos c120, if_pos c121]; done) | (simp [mk_code, mk_c3, mk_cm, mk_sb, mk_by1, mk_by2, mk_by3, mk_by4, mk_c4, mk_rem, if_neg c1, if_neg c2, if_pos c3, if_neg c4, if_pos c118, if_pos c119, if_pos c120, if_pos c121]; done)
                        exact W.zret (v := 1) (ty := .boolean) hx hb hr rfl (fun t ht hW => ⟨⟨1, (ro, sz, op, kd, tk, la, li, g117, 1), rfl, ⟨hres, hre2⟩, by show va_P D vwCl _ t.heap; rw [ht]; exact hP⟩, hS.F ht⟩) hS.2.2 dX1_code_225
                      · exact absurd c122 (by decide)
                    · refine lv_bipush (v := 114) hx hb dX1_code_193 (by decide) ?_
                      refine lv_goto (tgt := 199) hx hb dX1_code_195 (by decide) ?_
                      refine lv_istore_n (lv' := [(3, .int 114), (2, .int x1), (0, .ref m0), (1, .int x1)]) hx hb dX1_code_199 rfl hl (by decide) rfl (fun ls hl => ?_)
                      refine lv_iload_n hx hb dX1_code_200 rfl (lv_at hl 0 rfl) ?_
                      refine lv_if_le (tgt := 224) hx hb dX1_code_201 (by decide) (fun c123 => ?_) (fun c123 => ?_)
                      · exact absurd c123 (by decide)
                      · refine lv_aload_n hx hb dX1_code_204 rfl (lv_at hl 2 rfl) ?_
                        refine lv_iconst (v := 2) hx hb dX1_code_205 (by decide) ?_
                        refine va_put (D := D) (ci := 1) (v := .int 2) (ty := .int) (C := RX1) (T := TX1) (N := 9) hx hb hts hin tyX1 tyX1_ok nmX1 hown hK hP hD hS 0 rfl rfl 8 (by decide) lk33 (fun _ h9 => h9) rfl (by decide +kernel) rfl rfl (Nat.le_of_ble_eq_true rfl) dX1_code_206 (fun H locs hP hD hS => ?_)
                        have hP : va_P D vwCl (mkW cR cY m0 m1 m2 (ro, sz, op, kd, tk, la, li, g117, 2)) H := hP
                        have hD : va_D A (mkW cR cY m0 m1 m2 (ro, sz, op, kd, tk, la, li, g117, 2)) := hD
                        refine lv_aload_n hx hb dX1_code_209 rfl (lv_at hl 2 rfl) ?_
                        refine va_get (D := D) (ci := 1) (v := .ref m2) (C := RX1) (T := TX1) (N := 9) hx hb hts hin hown hK hP 0 rfl rfl 7 (by decide) lk20 (fun _ h9 => h9) rfl dX1_code_210 ?_
                        refine lv_iconst (v := 0) hx hb dX1_code_213 (by decide) ?_
                        refine lv_bipush (v := 92) hx hb dX1_code_214 (by decide) ?_
                        refine va_iast hx hb hK hP hD hS 2 1 rfl rfl (show ¬ ((0 : Int32) < 0 ∨ 4 ≤ (0 : Int32).toNatClampNeg) from by decide) dX1_code_216 (fun H locs hP hD hS => ?_)
                        obtain ⟨g124, eg124⟩ : ∃ y : Nat → Int32, y = upd g117 (0 : Int32).toNatClampNeg (92 : Int32) := ⟨_, rfl⟩
                        have hP : va_P D vwCl (mkW cR cY m0 m1 m2 (ro, sz, op, kd, tk, la, li, g124, 2)) H := by rw [eg124]; exact hP
                        have hD : va_D A (mkW cR cY m0 m1 m2 (ro, sz, op, kd, tk, la, li, g124, 2)) := kk_D_same hD rfl
                        refine lv_aload_n hx hb dX1_code_217 rfl (lv_at hl 2 rfl) ?_
                        refine va_get (D := D) (ci := 1) (v := .ref m2) (C := RX1) (T := TX1) (N := 9) hx hb hts hin hown hK hP 0 rfl rfl 7 (by decide) lk20 (fun _ h9 => h9) rfl dX1_code_218 ?_
                        refine lv_iconst (v := 1) hx hb dX1_code_221 (by decide) ?_
                        refine lv_iload_n hx hb dX1_code_222 rfl (lv_at hl 0 rfl) ?_
                        refine va_iast hx hb hK hP hD hS 2 1 rfl rfl (show ¬ ((1 : Int32) < 0 ∨ 4 ≤ (1 : Int32).toNatClampNeg) from by decide) dX1_code_223 (fun H locs hP hD hS => ?_)
                        obtain ⟨g125, eg125⟩ : ∃ y : Nat → Int32, y = upd g124 (1 : Int32).toNatClampNeg (114 : Int32) := ⟨_, rfl⟩
                        have hP : va_P D vwCl (mkW cR cY m0 m1 m2 (ro, sz, op, kd, tk, la, li, g125, 2)) H := by rw [eg125]; exact hP
                        have hD : va_D A (mkW cR cY m0 m1 m2 (ro, sz, op, kd, tk, la, li, g125, 2)) := kk_D_same hD rfl
                        refine lv_iconst (v := 1) hx hb dX1_code_224 (by decide) ?_
                        have hres : 1 = (mk_code (ro, sz, op, kd, tk, la, li, bt, mn) x1).1 := by
                          subst eg125 eg124 eg117
                          first | rfl | (simp only [mk_code, mk_c3, mk_cm, mk_sb, mk_by1, mk_by2, mk_by3, mk_by4, mk_c4, mk_rem, if_neg c1, if_neg c2, if_pos c3, if_neg c4, if_pos c118, if_pos c119, if_pos c120, if_neg (not_not_intro c121)]; done) | (simp [mk_code, mk_c3, mk_cm, mk_sb, mk_by1, mk_by2, mk_by3, mk_by4, mk_c4, mk_rem, if_neg c1, if_neg c2, if_pos c3, if_neg c4, if_pos c118, if_pos c119, if_pos c120, if_neg (not_not_intro c121)]; done)
                        have hre2 : (ro, sz, op, kd, tk, la, li, g125, 2) = (mk_code (ro, sz, op, kd, tk, la, li, bt, mn) x1).2 := by
                          subst eg125 eg124 eg117
                          first | rfl | (simp only [mk_code, mk_c3, mk_cm, mk_sb, mk_by1, mk_by2, mk_by3, mk_by4, mk_c4, mk_rem, if_neg c1, if_neg c2, if_pos c3, if_neg c4, if_pos c118, if_pos c119, if_pos c120, if_neg (not_not_intro c121)]; done) | (simp [mk_code, mk_c3, mk_cm, mk_sb, mk_by1, mk_by2, mk_by3, mk_by4, mk_c4, mk_rem, if_neg c1, if_neg c2, if_pos c3, if_neg c4, if_pos c118, if_pos c119, if_pos c120, if_neg (not_not_intro c121)]; done)
                        exact W.zret (v := 1) (ty := .boolean) hx hb hr rfl (fun t ht hW => ⟨⟨1, (ro, sz, op, kd, tk, la, li, g125, 2), rfl, ⟨hres, hre2⟩, by show va_P D vwCl _ t.heap; rw [ht]; exact hP⟩, hS.F ht⟩) hS.2.2 dX1_code_225
                  · refine lv_bipush (v := 116) hx hb dX1_code_182 (by decide) ?_
                    refine lv_goto (tgt := 199) hx hb dX1_code_184 (by decide) ?_
                    refine lv_istore_n (lv' := [(3, .int 116), (2, .int x1), (0, .ref m0), (1, .int x1)]) hx hb dX1_code_199 rfl hl (by decide) rfl (fun ls hl => ?_)
                    refine lv_iload_n hx hb dX1_code_200 rfl (lv_at hl 0 rfl) ?_
                    refine lv_if_le (tgt := 224) hx hb dX1_code_201 (by decide) (fun c126 => ?_) (fun c126 => ?_)
                    · exact absurd c126 (by decide)
                    · refine lv_aload_n hx hb dX1_code_204 rfl (lv_at hl 2 rfl) ?_
                      refine lv_iconst (v := 2) hx hb dX1_code_205 (by decide) ?_
                      refine va_put (D := D) (ci := 1) (v := .int 2) (ty := .int) (C := RX1) (T := TX1) (N := 9) hx hb hts hin tyX1 tyX1_ok nmX1 hown hK hP hD hS 0 rfl rfl 8 (by decide) lk33 (fun _ h9 => h9) rfl (by decide +kernel) rfl rfl (Nat.le_of_ble_eq_true rfl) dX1_code_206 (fun H locs hP hD hS => ?_)
                      have hP : va_P D vwCl (mkW cR cY m0 m1 m2 (ro, sz, op, kd, tk, la, li, g117, 2)) H := hP
                      have hD : va_D A (mkW cR cY m0 m1 m2 (ro, sz, op, kd, tk, la, li, g117, 2)) := hD
                      refine lv_aload_n hx hb dX1_code_209 rfl (lv_at hl 2 rfl) ?_
                      refine va_get (D := D) (ci := 1) (v := .ref m2) (C := RX1) (T := TX1) (N := 9) hx hb hts hin hown hK hP 0 rfl rfl 7 (by decide) lk20 (fun _ h9 => h9) rfl dX1_code_210 ?_
                      refine lv_iconst (v := 0) hx hb dX1_code_213 (by decide) ?_
                      refine lv_bipush (v := 92) hx hb dX1_code_214 (by decide) ?_
                      refine va_iast hx hb hK hP hD hS 2 1 rfl rfl (show ¬ ((0 : Int32) < 0 ∨ 4 ≤ (0 : Int32).toNatClampNeg) from by decide) dX1_code_216 (fun H locs hP hD hS => ?_)
                      obtain ⟨g127, eg127⟩ : ∃ y : Nat → Int32, y = upd g117 (0 : Int32).toNatClampNeg (92 : Int32) := ⟨_, rfl⟩
                      have hP : va_P D vwCl (mkW cR cY m0 m1 m2 (ro, sz, op, kd, tk, la, li, g127, 2)) H := by rw [eg127]; exact hP
                      have hD : va_D A (mkW cR cY m0 m1 m2 (ro, sz, op, kd, tk, la, li, g127, 2)) := kk_D_same hD rfl
                      refine lv_aload_n hx hb dX1_code_217 rfl (lv_at hl 2 rfl) ?_
                      refine va_get (D := D) (ci := 1) (v := .ref m2) (C := RX1) (T := TX1) (N := 9) hx hb hts hin hown hK hP 0 rfl rfl 7 (by decide) lk20 (fun _ h9 => h9) rfl dX1_code_218 ?_
                      refine lv_iconst (v := 1) hx hb dX1_code_221 (by decide) ?_
                      refine lv_iload_n hx hb dX1_code_222 rfl (lv_at hl 0 rfl) ?_
                      refine va_iast hx hb hK hP hD hS 2 1 rfl rfl (show ¬ ((1 : Int32) < 0 ∨ 4 ≤ (1 : Int32).toNatClampNeg) from by decide) dX1_code_223 (fun H locs hP hD hS => ?_)
                      obtain ⟨g128, eg128⟩ : ∃ y : Nat → Int32, y = upd g127 (1 : Int32).toNatClampNeg (116 : Int32) := ⟨_, rfl⟩
                      have hP : va_P D vwCl (mkW cR cY m0 m1 m2 (ro, sz, op, kd, tk, la, li, g128, 2)) H := by rw [eg128]; exact hP
                      have hD : va_D A (mkW cR cY m0 m1 m2 (ro, sz, op, kd, tk, la, li, g128, 2)) := kk_D_same hD rfl
                      refine lv_iconst (v := 1) hx hb dX1_code_224 (by decide) ?_
                      have hres : 1 = (mk_code (ro, sz, op, kd, tk, la, li, bt, mn) x1).1 := by
                        subst eg128 eg127 eg117
                        first | rfl | (simp only [mk_code, mk_c3, mk_cm, mk_sb, mk_by1, mk_by2, mk_by3, mk_by4, mk_c4, mk_rem, if_neg c1, if_neg c2, if_pos c3, if_neg c4, if_pos c118, if_pos c119, if_neg (not_not_intro c120)]; done) | (simp [mk_code, mk_c3, mk_cm, mk_sb, mk_by1, mk_by2, mk_by3, mk_by4, mk_c4, mk_rem, if_neg c1, if_neg c2, if_pos c3, if_neg c4, if_pos c118, if_pos c119, if_neg (not_not_intro c120)]; done)
                      have hre2 : (ro, sz, op, kd, tk, la, li, g128, 2) = (mk_code (ro, sz, op, kd, tk, la, li, bt, mn) x1).2 := by
                        subst eg128 eg127 eg117
                        first | rfl | (simp only [mk_code, mk_c3, mk_cm, mk_sb, mk_by1, mk_by2, mk_by3, mk_by4, mk_c4, mk_rem, if_neg c1, if_neg c2, if_pos c3, if_neg c4, if_pos c118, if_pos c119, if_neg (not_not_intro c120)]; done) | (simp [mk_code, mk_c3, mk_cm, mk_sb, mk_by1, mk_by2, mk_by3, mk_by4, mk_c4, mk_rem, if_neg c1, if_neg c2, if_pos c3, if_neg c4, if_pos c118, if_pos c119, if_neg (not_not_intro c120)]; done)
                      exact W.zret (v := 1) (ty := .boolean) hx hb hr rfl (fun t ht hW => ⟨⟨1, (ro, sz, op, kd, tk, la, li, g128, 2), rfl, ⟨hres, hre2⟩, by show va_P D vwCl _ t.heap; rw [ht]; exact hP⟩, hS.F ht⟩) hS.2.2 dX1_code_225
                · refine lv_bipush (v := 110) hx hb dX1_code_171 (by decide) ?_
                  refine lv_goto (tgt := 199) hx hb dX1_code_173 (by decide) ?_
                  refine lv_istore_n (lv' := [(3, .int 110), (2, .int x1), (0, .ref m0), (1, .int x1)]) hx hb dX1_code_199 rfl hl (by decide) rfl (fun ls hl => ?_)
                  refine lv_iload_n hx hb dX1_code_200 rfl (lv_at hl 0 rfl) ?_
                  refine lv_if_le (tgt := 224) hx hb dX1_code_201 (by decide) (fun c129 => ?_) (fun c129 => ?_)
                  · exact absurd c129 (by decide)
                  · refine lv_aload_n hx hb dX1_code_204 rfl (lv_at hl 2 rfl) ?_
                    refine lv_iconst (v := 2) hx hb dX1_code_205 (by decide) ?_
                    refine va_put (D := D) (ci := 1) (v := .int 2) (ty := .int) (C := RX1) (T := TX1) (N := 9) hx hb hts hin tyX1 tyX1_ok nmX1 hown hK hP hD hS 0 rfl rfl 8 (by decide) lk33 (fun _ h9 => h9) rfl (by decide +kernel) rfl rfl (Nat.le_of_ble_eq_true rfl) dX1_code_206 (fun H locs hP hD hS => ?_)
                    have hP : va_P D vwCl (mkW cR cY m0 m1 m2 (ro, sz, op, kd, tk, la, li, g117, 2)) H := hP
                    have hD : va_D A (mkW cR cY m0 m1 m2 (ro, sz, op, kd, tk, la, li, g117, 2)) := hD
                    refine lv_aload_n hx hb dX1_code_209 rfl (lv_at hl 2 rfl) ?_
                    refine va_get (D := D) (ci := 1) (v := .ref m2) (C := RX1) (T := TX1) (N := 9) hx hb hts hin hown hK hP 0 rfl rfl 7 (by decide) lk20 (fun _ h9 => h9) rfl dX1_code_210 ?_
                    refine lv_iconst (v := 0) hx hb dX1_code_213 (by decide) ?_
                    refine lv_bipush (v := 92) hx hb dX1_code_214 (by decide) ?_
                    refine va_iast hx hb hK hP hD hS 2 1 rfl rfl (show ¬ ((0 : Int32) < 0 ∨ 4 ≤ (0 : Int32).toNatClampNeg) from by decide) dX1_code_216 (fun H locs hP hD hS => ?_)
                    obtain ⟨g130, eg130⟩ : ∃ y : Nat → Int32, y = upd g117 (0 : Int32).toNatClampNeg (92 : Int32) := ⟨_, rfl⟩
                    have hP : va_P D vwCl (mkW cR cY m0 m1 m2 (ro, sz, op, kd, tk, la, li, g130, 2)) H := by rw [eg130]; exact hP
                    have hD : va_D A (mkW cR cY m0 m1 m2 (ro, sz, op, kd, tk, la, li, g130, 2)) := kk_D_same hD rfl
                    refine lv_aload_n hx hb dX1_code_217 rfl (lv_at hl 2 rfl) ?_
                    refine va_get (D := D) (ci := 1) (v := .ref m2) (C := RX1) (T := TX1) (N := 9) hx hb hts hin hown hK hP 0 rfl rfl 7 (by decide) lk20 (fun _ h9 => h9) rfl dX1_code_218 ?_
                    refine lv_iconst (v := 1) hx hb dX1_code_221 (by decide) ?_
                    refine lv_iload_n hx hb dX1_code_222 rfl (lv_at hl 0 rfl) ?_
                    refine va_iast hx hb hK hP hD hS 2 1 rfl rfl (show ¬ ((1 : Int32) < 0 ∨ 4 ≤ (1 : Int32).toNatClampNeg) from by decide) dX1_code_223 (fun H locs hP hD hS => ?_)
                    obtain ⟨g131, eg131⟩ : ∃ y : Nat → Int32, y = upd g130 (1 : Int32).toNatClampNeg (110 : Int32) := ⟨_, rfl⟩
                    have hP : va_P D vwCl (mkW cR cY m0 m1 m2 (ro, sz, op, kd, tk, la, li, g131, 2)) H := by rw [eg131]; exact hP
                    have hD : va_D A (mkW cR cY m0 m1 m2 (ro, sz, op, kd, tk, la, li, g131, 2)) := kk_D_same hD rfl
                    refine lv_iconst (v := 1) hx hb dX1_code_224 (by decide) ?_
                    have hres : 1 = (mk_code (ro, sz, op, kd, tk, la, li, bt, mn) x1).1 := by
                      subst eg131 eg130 eg117
                      first | rfl | (simp only [mk_code, mk_c3, mk_cm, mk_sb, mk_by1, mk_by2, mk_by3, mk_by4, mk_c4, mk_rem, if_neg c1, if_neg c2, if_pos c3, if_neg c4, if_pos c118, if_neg (not_not_intro c119)]; done) | (simp [mk_code, mk_c3, mk_cm, mk_sb, mk_by1, mk_by2, mk_by3, mk_by4, mk_c4, mk_rem, if_neg c1, if_neg c2, if_pos c3, if_neg c4, if_pos c118, if_neg (not_not_intro c119)]; done)
                    have hre2 : (ro, sz, op, kd, tk, la, li, g131, 2) = (mk_code (ro, sz, op, kd, tk, la, li, bt, mn) x1).2 := by
                      subst eg131 eg130 eg117
                      first | rfl | (simp only [mk_code, mk_c3, mk_cm, mk_sb, mk_by1, mk_by2, mk_by3, mk_by4, mk_c4, mk_rem, if_neg c1, if_neg c2, if_pos c3, if_neg c4, if_pos c118, if_neg (not_not_intro c119)]; done) | (simp [mk_code, mk_c3, mk_cm, mk_sb, mk_by1, mk_by2, mk_by3, mk_by4, mk_c4, mk_rem, if_neg c1, if_neg c2, if_pos c3, if_neg c4, if_pos c118, if_neg (not_not_intro c119)]; done)
                    exact W.zret (v := 1) (ty := .boolean) hx hb hr rfl (fun t ht hW => ⟨⟨1, (ro, sz, op, kd, tk, la, li, g131, 2), rfl, ⟨hres, hre2⟩, by show va_P D vwCl _ t.heap; rw [ht]; exact hP⟩, hS.F ht⟩) hS.2.2 dX1_code_225
              · refine lv_bipush (v := 92) hx hb dX1_code_160 (by decide) ?_
                refine lv_goto (tgt := 199) hx hb dX1_code_162 (by decide) ?_
                refine lv_istore_n (lv' := [(3, .int 92), (2, .int x1), (0, .ref m0), (1, .int x1)]) hx hb dX1_code_199 rfl hl (by decide) rfl (fun ls hl => ?_)
                refine lv_iload_n hx hb dX1_code_200 rfl (lv_at hl 0 rfl) ?_
                refine lv_if_le (tgt := 224) hx hb dX1_code_201 (by decide) (fun c132 => ?_) (fun c132 => ?_)
                · exact absurd c132 (by decide)
                · refine lv_aload_n hx hb dX1_code_204 rfl (lv_at hl 2 rfl) ?_
                  refine lv_iconst (v := 2) hx hb dX1_code_205 (by decide) ?_
                  refine va_put (D := D) (ci := 1) (v := .int 2) (ty := .int) (C := RX1) (T := TX1) (N := 9) hx hb hts hin tyX1 tyX1_ok nmX1 hown hK hP hD hS 0 rfl rfl 8 (by decide) lk33 (fun _ h9 => h9) rfl (by decide +kernel) rfl rfl (Nat.le_of_ble_eq_true rfl) dX1_code_206 (fun H locs hP hD hS => ?_)
                  have hP : va_P D vwCl (mkW cR cY m0 m1 m2 (ro, sz, op, kd, tk, la, li, g117, 2)) H := hP
                  have hD : va_D A (mkW cR cY m0 m1 m2 (ro, sz, op, kd, tk, la, li, g117, 2)) := hD
                  refine lv_aload_n hx hb dX1_code_209 rfl (lv_at hl 2 rfl) ?_
                  refine va_get (D := D) (ci := 1) (v := .ref m2) (C := RX1) (T := TX1) (N := 9) hx hb hts hin hown hK hP 0 rfl rfl 7 (by decide) lk20 (fun _ h9 => h9) rfl dX1_code_210 ?_
                  refine lv_iconst (v := 0) hx hb dX1_code_213 (by decide) ?_
                  refine lv_bipush (v := 92) hx hb dX1_code_214 (by decide) ?_
                  refine va_iast hx hb hK hP hD hS 2 1 rfl rfl (show ¬ ((0 : Int32) < 0 ∨ 4 ≤ (0 : Int32).toNatClampNeg) from by decide) dX1_code_216 (fun H locs hP hD hS => ?_)
                  obtain ⟨g133, eg133⟩ : ∃ y : Nat → Int32, y = upd g117 (0 : Int32).toNatClampNeg (92 : Int32) := ⟨_, rfl⟩
                  have hP : va_P D vwCl (mkW cR cY m0 m1 m2 (ro, sz, op, kd, tk, la, li, g133, 2)) H := by rw [eg133]; exact hP
                  have hD : va_D A (mkW cR cY m0 m1 m2 (ro, sz, op, kd, tk, la, li, g133, 2)) := kk_D_same hD rfl
                  refine lv_aload_n hx hb dX1_code_217 rfl (lv_at hl 2 rfl) ?_
                  refine va_get (D := D) (ci := 1) (v := .ref m2) (C := RX1) (T := TX1) (N := 9) hx hb hts hin hown hK hP 0 rfl rfl 7 (by decide) lk20 (fun _ h9 => h9) rfl dX1_code_218 ?_
                  refine lv_iconst (v := 1) hx hb dX1_code_221 (by decide) ?_
                  refine lv_iload_n hx hb dX1_code_222 rfl (lv_at hl 0 rfl) ?_
                  refine va_iast hx hb hK hP hD hS 2 1 rfl rfl (show ¬ ((1 : Int32) < 0 ∨ 4 ≤ (1 : Int32).toNatClampNeg) from by decide) dX1_code_223 (fun H locs hP hD hS => ?_)
                  obtain ⟨g134, eg134⟩ : ∃ y : Nat → Int32, y = upd g133 (1 : Int32).toNatClampNeg (92 : Int32) := ⟨_, rfl⟩
                  have hP : va_P D vwCl (mkW cR cY m0 m1 m2 (ro, sz, op, kd, tk, la, li, g134, 2)) H := by rw [eg134]; exact hP
                  have hD : va_D A (mkW cR cY m0 m1 m2 (ro, sz, op, kd, tk, la, li, g134, 2)) := kk_D_same hD rfl
                  refine lv_iconst (v := 1) hx hb dX1_code_224 (by decide) ?_
                  have hres : 1 = (mk_code (ro, sz, op, kd, tk, la, li, bt, mn) x1).1 := by
                    subst eg134 eg133 eg117
                    first | rfl | (simp only [mk_code, mk_c3, mk_cm, mk_sb, mk_by1, mk_by2, mk_by3, mk_by4, mk_c4, mk_rem, if_neg c1, if_neg c2, if_pos c3, if_neg c4, if_neg (not_not_intro c118)]; done) | (simp [mk_code, mk_c3, mk_cm, mk_sb, mk_by1, mk_by2, mk_by3, mk_by4, mk_c4, mk_rem, if_neg c1, if_neg c2, if_pos c3, if_neg c4, if_neg (not_not_intro c118)]; done)
                  have hre2 : (ro, sz, op, kd, tk, la, li, g134, 2) = (mk_code (ro, sz, op, kd, tk, la, li, bt, mn) x1).2 := by
                    subst eg134 eg133 eg117
                    first | rfl | (simp only [mk_code, mk_c3, mk_cm, mk_sb, mk_by1, mk_by2, mk_by3, mk_by4, mk_c4, mk_rem, if_neg c1, if_neg c2, if_pos c3, if_neg c4, if_neg (not_not_intro c118)]; done) | (simp [mk_code, mk_c3, mk_cm, mk_sb, mk_by1, mk_by2, mk_by3, mk_by4, mk_c4, mk_rem, if_neg c1, if_neg c2, if_pos c3, if_neg c4, if_neg (not_not_intro c118)]; done)
                  exact W.zret (v := 1) (ty := .boolean) hx hb hr rfl (fun t ht hW => ⟨⟨1, (ro, sz, op, kd, tk, la, li, g134, 2), rfl, ⟨hres, hre2⟩, by show va_P D vwCl _ t.heap; rw [ht]; exact hP⟩, hS.F ht⟩) hS.2.2 dX1_code_225
          · exact absurd c115 (by decide)
      · refine lv_iload_n hx hb dX1_code_16 rfl (lv_at hl 1 rfl) ?_
        refine lv_ldc (v := 57344) hx hb hown (hts (.constant RX1 31 (57344)) (by decide +kernel)) dX1_code_17 ?_
        refine lv_icmp_ge (tgt := 24) hx hb dX1_code_19 (by decide) (fun c135 => ?_) (fun c135 => ?_)
        · refine lv_aload_n hx hb dX1_code_24 rfl (lv_at hl 0 rfl) ?_
          refine lv_iload_n hx hb dX1_code_25 rfl (lv_at hl 1 rfl) ?_
          refine lv_sipush (v := 128) hx hb dX1_code_26 (by decide) ?_
          refine lv_icmp_ge (tgt := 36) hx hb dX1_code_29 (by decide) (fun c136 => ?_) (fun c136 => ?_)
          · refine lv_iload_n hx hb dX1_code_36 rfl (lv_at hl 1 rfl) ?_
            refine lv_sipush (v := 2048) hx hb dX1_code_37 (by decide) ?_
            refine lv_icmp_ge (tgt := 47) hx hb dX1_code_40 (by decide) (fun c137 => ?_) (fun c137 => ?_)
            · refine lv_iload_n hx hb dX1_code_47 rfl (lv_at hl 1 rfl) ?_
              refine lv_ldc (v := 65536) hx hb hown (hts (.constant RX1 32 (65536)) (by decide +kernel)) dX1_code_48 ?_
              refine lv_icmp_ge (tgt := 57) hx hb dX1_code_50 (by decide) (fun c138 => ?_) (fun c138 => ?_)
              · refine lv_iconst (v := 4) hx hb dX1_code_57 (by decide) ?_
                refine va_put (D := D) (ci := 1) (v := .int 4) (ty := .int) (C := RX1) (T := TX1) (N := 9) hx hb hts hin tyX1 tyX1_ok nmX1 hown hK hP hD hS 0 rfl rfl 8 (by decide) lk33 (fun _ h9 => h9) rfl (by decide +kernel) rfl rfl (Nat.le_of_ble_eq_true rfl) dX1_code_58 (fun H locs hP hD hS => ?_)
                have hP : va_P D vwCl (mkW cR cY m0 m1 m2 (ro, sz, op, kd, tk, la, li, bt, 4)) H := hP
                have hD : va_D A (mkW cR cY m0 m1 m2 (ro, sz, op, kd, tk, la, li, bt, 4)) := hD
                refine lv_iload_n hx hb dX1_code_61 rfl (lv_at hl 1 rfl) ?_
                refine lv_istore_n (lv' := [(2, .int x1), (0, .ref m0), (1, .int x1)]) hx hb dX1_code_62 rfl hl (by decide) rfl (fun ls hl => ?_)
                refine lv_aload_n hx hb dX1_code_63 rfl (lv_at hl 1 rfl) ?_
                refine va_get (D := D) (ci := 1) (v := .int 4) (C := RX1) (T := TX1) (N := 9) hx hb hts hin hown hK hP 0 rfl rfl 8 (by decide) lk33 (fun _ h9 => h9) rfl dX1_code_64 ?_
                refine lv_iconst (v := 1) hx hb dX1_code_67 (by decide) ?_
                refine lv_isub hx hb dX1_code_68 ?_
                refine lv_topi (fun t139 et139 => ?_)
                obtain rfl : t139 = 3 := by rw [et139]; decide
                refine lv_istore_n (lv' := [(3, .int 3), (2, .int x1), (0, .ref m0), (1, .int x1)]) hx hb dX1_code_69 rfl hl (by decide) rfl (fun ls hl => ?_)
                refine lv_iload_n hx hb dX1_code_70 rfl (lv_at hl 0 rfl) ?_
                refine lv_if_le (tgt := 99) hx hb dX1_code_71 (by decide) (fun c140 => ?_) (fun c140 => ?_)
                · exact absurd c140 (by decide)
                · refine lv_aload_n hx hb dX1_code_74 rfl (lv_at hl 2 rfl) ?_
                  refine va_get (D := D) (ci := 1) (v := .ref m2) (C := RX1) (T := TX1) (N := 9) hx hb hts hin hown hK hP 0 rfl rfl 7 (by decide) lk20 (fun _ h9 => h9) rfl dX1_code_75 ?_
                  refine lv_iload_n hx hb dX1_code_78 rfl (lv_at hl 0 rfl) ?_
                  refine lv_sipush (v := 128) hx hb dX1_code_79 (by decide) ?_
                  refine lv_iload_n hx hb dX1_code_82 rfl (lv_at hl 1 rfl) ?_
                  refine lv_bipush (v := 64) hx hb dX1_code_83 (by decide) ?_
                  refine lv_irem hx hb dX1_code_85 (by decide) ?_
                  refine lv_topi (fun t141 et141 => ?_)
                  refine lv_iadd hx hb dX1_code_86 ?_
                  refine lv_topi (fun t142 et142 => ?_)
                  refine va_iast hx hb hK hP hD hS 2 1 rfl rfl (show ¬ ((3 : Int32) < 0 ∨ 4 ≤ (3 : Int32).toNatClampNeg) from by decide) dX1_code_87 (fun H locs hP hD hS => ?_)
                  obtain ⟨g143, eg143⟩ : ∃ y : Nat → Int32, y = upd bt (3 : Int32).toNatClampNeg t142 := ⟨_, rfl⟩
                  have hP : va_P D vwCl (mkW cR cY m0 m1 m2 (ro, sz, op, kd, tk, la, li, g143, 4)) H := by rw [eg143]; exact hP
                  have hD : va_D A (mkW cR cY m0 m1 m2 (ro, sz, op, kd, tk, la, li, g143, 4)) := kk_D_same hD rfl
                  refine lv_iload_n hx hb dX1_code_88 rfl (lv_at hl 1 rfl) ?_
                  refine lv_bipush (v := 64) hx hb dX1_code_89 (by decide) ?_
                  refine lv_idiv hx hb dX1_code_91 (by decide) ?_
                  refine lv_topi (fun t144 et144 => ?_)
                  refine lv_istore_n (lv' := [(2, .int t144), (3, .int 3), (0, .ref m0), (1, .int x1)]) hx hb dX1_code_92 rfl hl (by decide) rfl (fun ls hl => ?_)
                  refine lv_iinc (v := 2) (lv' := [(3, .int 2), (2, .int t144), (0, .ref m0), (1, .int x1)]) hx hb dX1_code_93 hl (k := 1) rfl (by decide) (by decide) rfl (fun ls hl => ?_)
                  refine lv_goto (tgt := 70) hx hb dX1_code_96 (by decide) ?_
                  refine lv_iload_n hx hb dX1_code_70 rfl (lv_at hl 0 rfl) ?_
                  refine lv_if_le (tgt := 99) hx hb dX1_code_71 (by decide) (fun c146 => ?_) (fun c146 => ?_)
                  · exact absurd c146 (by decide)
                  · refine lv_aload_n hx hb dX1_code_74 rfl (lv_at hl 2 rfl) ?_
                    refine va_get (D := D) (ci := 1) (v := .ref m2) (C := RX1) (T := TX1) (N := 9) hx hb hts hin hown hK hP 0 rfl rfl 7 (by decide) lk20 (fun _ h9 => h9) rfl dX1_code_75 ?_
                    refine lv_iload_n hx hb dX1_code_78 rfl (lv_at hl 0 rfl) ?_
                    refine lv_sipush (v := 128) hx hb dX1_code_79 (by decide) ?_
                    refine lv_iload_n hx hb dX1_code_82 rfl (lv_at hl 1 rfl) ?_
                    refine lv_bipush (v := 64) hx hb dX1_code_83 (by decide) ?_
                    refine lv_irem hx hb dX1_code_85 (by decide) ?_
                    refine lv_topi (fun t147 et147 => ?_)
                    refine lv_iadd hx hb dX1_code_86 ?_
                    refine lv_topi (fun t148 et148 => ?_)
                    refine va_iast hx hb hK hP hD hS 2 1 rfl rfl (show ¬ ((2 : Int32) < 0 ∨ 4 ≤ (2 : Int32).toNatClampNeg) from by decide) dX1_code_87 (fun H locs hP hD hS => ?_)
                    obtain ⟨g149, eg149⟩ : ∃ y : Nat → Int32, y = upd g143 (2 : Int32).toNatClampNeg t148 := ⟨_, rfl⟩
                    have hP : va_P D vwCl (mkW cR cY m0 m1 m2 (ro, sz, op, kd, tk, la, li, g149, 4)) H := by rw [eg149]; exact hP
                    have hD : va_D A (mkW cR cY m0 m1 m2 (ro, sz, op, kd, tk, la, li, g149, 4)) := kk_D_same hD rfl
                    refine lv_iload_n hx hb dX1_code_88 rfl (lv_at hl 1 rfl) ?_
                    refine lv_bipush (v := 64) hx hb dX1_code_89 (by decide) ?_
                    refine lv_idiv hx hb dX1_code_91 (by decide) ?_
                    refine lv_topi (fun t150 et150 => ?_)
                    refine lv_istore_n (lv' := [(2, .int t150), (3, .int 2), (0, .ref m0), (1, .int x1)]) hx hb dX1_code_92 rfl hl (by decide) rfl (fun ls hl => ?_)
                    refine lv_iinc (v := 1) (lv' := [(3, .int 1), (2, .int t150), (0, .ref m0), (1, .int x1)]) hx hb dX1_code_93 hl (k := 1) rfl (by decide) (by decide) rfl (fun ls hl => ?_)
                    refine lv_goto (tgt := 70) hx hb dX1_code_96 (by decide) ?_
                    refine lv_iload_n hx hb dX1_code_70 rfl (lv_at hl 0 rfl) ?_
                    refine lv_if_le (tgt := 99) hx hb dX1_code_71 (by decide) (fun c152 => ?_) (fun c152 => ?_)
                    · exact absurd c152 (by decide)
                    · refine lv_aload_n hx hb dX1_code_74 rfl (lv_at hl 2 rfl) ?_
                      refine va_get (D := D) (ci := 1) (v := .ref m2) (C := RX1) (T := TX1) (N := 9) hx hb hts hin hown hK hP 0 rfl rfl 7 (by decide) lk20 (fun _ h9 => h9) rfl dX1_code_75 ?_
                      refine lv_iload_n hx hb dX1_code_78 rfl (lv_at hl 0 rfl) ?_
                      refine lv_sipush (v := 128) hx hb dX1_code_79 (by decide) ?_
                      refine lv_iload_n hx hb dX1_code_82 rfl (lv_at hl 1 rfl) ?_
                      refine lv_bipush (v := 64) hx hb dX1_code_83 (by decide) ?_
                      refine lv_irem hx hb dX1_code_85 (by decide) ?_
                      refine lv_topi (fun t153 et153 => ?_)
                      refine lv_iadd hx hb dX1_code_86 ?_
                      refine lv_topi (fun t154 et154 => ?_)
                      refine va_iast hx hb hK hP hD hS 2 1 rfl rfl (show ¬ ((1 : Int32) < 0 ∨ 4 ≤ (1 : Int32).toNatClampNeg) from by decide) dX1_code_87 (fun H locs hP hD hS => ?_)
                      obtain ⟨g155, eg155⟩ : ∃ y : Nat → Int32, y = upd g149 (1 : Int32).toNatClampNeg t154 := ⟨_, rfl⟩
                      have hP : va_P D vwCl (mkW cR cY m0 m1 m2 (ro, sz, op, kd, tk, la, li, g155, 4)) H := by rw [eg155]; exact hP
                      have hD : va_D A (mkW cR cY m0 m1 m2 (ro, sz, op, kd, tk, la, li, g155, 4)) := kk_D_same hD rfl
                      refine lv_iload_n hx hb dX1_code_88 rfl (lv_at hl 1 rfl) ?_
                      refine lv_bipush (v := 64) hx hb dX1_code_89 (by decide) ?_
                      refine lv_idiv hx hb dX1_code_91 (by decide) ?_
                      refine lv_topi (fun t156 et156 => ?_)
                      refine lv_istore_n (lv' := [(2, .int t156), (3, .int 1), (0, .ref m0), (1, .int x1)]) hx hb dX1_code_92 rfl hl (by decide) rfl (fun ls hl => ?_)
                      refine lv_iinc (v := 0) (lv' := [(3, .int 0), (2, .int t156), (0, .ref m0), (1, .int x1)]) hx hb dX1_code_93 hl (k := 1) rfl (by decide) (by decide) rfl (fun ls hl => ?_)
                      refine lv_goto (tgt := 70) hx hb dX1_code_96 (by decide) ?_
                      refine lv_iload_n hx hb dX1_code_70 rfl (lv_at hl 0 rfl) ?_
                      refine lv_if_le (tgt := 99) hx hb dX1_code_71 (by decide) (fun c158 => ?_) (fun c158 => ?_)
                      · refine lv_aload_n hx hb dX1_code_99 rfl (lv_at hl 2 rfl) ?_
                        refine va_get (D := D) (ci := 1) (v := .ref m2) (C := RX1) (T := TX1) (N := 9) hx hb hts hin hown hK hP 0 rfl rfl 7 (by decide) lk20 (fun _ h9 => h9) rfl dX1_code_100 ?_
                        refine lv_iconst (v := 0) hx hb dX1_code_103 (by decide) ?_
                        refine lv_aload_n hx hb dX1_code_104 rfl (lv_at hl 2 rfl) ?_
                        refine va_get (D := D) (ci := 1) (v := .int 4) (C := RX1) (T := TX1) (N := 9) hx hb hts hin hown hK hP 0 rfl rfl 8 (by decide) lk33 (fun _ h9 => h9) rfl dX1_code_105 ?_
                        refine lv_iconst (v := 1) hx hb dX1_code_108 (by decide) ?_
                        refine lv_icmp_ne (tgt := 116) hx hb dX1_code_109 (by decide) (fun c159 => ?_) (fun c159 => ?_)
                        · refine lv_aload_n hx hb dX1_code_116 rfl (lv_at hl 2 rfl) ?_
                          refine va_get (D := D) (ci := 1) (v := .int 4) (C := RX1) (T := TX1) (N := 9) hx hb hts hin hown hK hP 0 rfl rfl 8 (by decide) lk33 (fun _ h9 => h9) rfl dX1_code_117 ?_
                          refine lv_iconst (v := 2) hx hb dX1_code_120 (by decide) ?_
                          refine lv_icmp_ne (tgt := 132) hx hb dX1_code_121 (by decide) (fun c160 => ?_) (fun c160 => ?_)
                          · refine lv_aload_n hx hb dX1_code_132 rfl (lv_at hl 2 rfl) ?_
                            refine va_get (D := D) (ci := 1) (v := .int 4) (C := RX1) (T := TX1) (N := 9) hx hb hts hin hown hK hP 0 rfl rfl 8 (by decide) lk33 (fun _ h9 => h9) rfl dX1_code_133 ?_
                            refine lv_iconst (v := 3) hx hb dX1_code_136 (by decide) ?_
                            refine lv_icmp_ne (tgt := 148) hx hb dX1_code_137 (by decide) (fun c161 => ?_) (fun c161 => ?_)
                            · refine lv_sipush (v := 240) hx hb dX1_code_148 (by decide) ?_
                              refine lv_iload_n hx hb dX1_code_151 rfl (lv_at hl 1 rfl) ?_
                              refine lv_iadd hx hb dX1_code_152 ?_
                              refine lv_topi (fun t162 et162 => ?_)
                              refine va_iast hx hb hK hP hD hS 2 1 rfl rfl (show ¬ ((0 : Int32) < 0 ∨ 4 ≤ (0 : Int32).toNatClampNeg) from by decide) dX1_code_153 (fun H locs hP hD hS => ?_)
                              obtain ⟨g163, eg163⟩ : ∃ y : Nat → Int32, y = upd g155 (0 : Int32).toNatClampNeg t162 := ⟨_, rfl⟩
                              have hP : va_P D vwCl (mkW cR cY m0 m1 m2 (ro, sz, op, kd, tk, la, li, g163, 4)) H := by rw [eg163]; exact hP
                              have hD : va_D A (mkW cR cY m0 m1 m2 (ro, sz, op, kd, tk, la, li, g163, 4)) := kk_D_same hD rfl
                              refine lv_iload_n hx hb dX1_code_154 rfl (lv_at hl 3 rfl) ?_
                              refine lv_bipush (v := 92) hx hb dX1_code_155 (by decide) ?_
                              refine lv_icmp_ne (tgt := 165) hx hb dX1_code_157 (by decide) (fun c164 => ?_) (fun c164 => ?_)
                              · refine lv_iload_n hx hb dX1_code_165 rfl (lv_at hl 3 rfl) ?_
                                refine lv_bipush (v := 10) hx hb dX1_code_166 (by decide) ?_
                                refine lv_icmp_ne (tgt := 176) hx hb dX1_code_168 (by decide) (fun c165 => ?_) (fun c165 => ?_)
                                · refine lv_iload_n hx hb dX1_code_176 rfl (lv_at hl 3 rfl) ?_
                                  refine lv_bipush (v := 9) hx hb dX1_code_177 (by decide) ?_
                                  refine lv_icmp_ne (tgt := 187) hx hb dX1_code_179 (by decide) (fun c166 => ?_) (fun c166 => ?_)
                                  · refine lv_iload_n hx hb dX1_code_187 rfl (lv_at hl 3 rfl) ?_
                                    refine lv_bipush (v := 13) hx hb dX1_code_188 (by decide) ?_
                                    refine lv_icmp_ne (tgt := 198) hx hb dX1_code_190 (by decide) (fun c167 => ?_) (fun c167 => ?_)
                                    · refine lv_iconst (v := 0) hx hb dX1_code_198 (by decide) ?_
                                      refine lv_istore_n (lv' := [(3, .int 0), (2, .int t156), (0, .ref m0), (1, .int x1)]) hx hb dX1_code_199 rfl hl (by decide) rfl (fun ls hl => ?_)
                                      refine lv_iload_n hx hb dX1_code_200 rfl (lv_at hl 0 rfl) ?_
                                      refine lv_if_le (tgt := 224) hx hb dX1_code_201 (by decide) (fun c168 => ?_) (fun c168 => ?_)
                                      · refine lv_iconst (v := 1) hx hb dX1_code_224 (by decide) ?_
                                        have hres : 1 = (mk_code (ro, sz, op, kd, tk, la, li, bt, mn) x1).1 := by
                                          subst eg163 et162 et156 eg155 et154 et153 et150 eg149 et148 et147 et144 eg143 et142 et141
                                          first | rfl | (simp only [mk_code, mk_c3, mk_cm, mk_sb, mk_by1, mk_by2, mk_by3, mk_by4, mk_c4, mk_rem, if_neg c1, if_neg c2, if_neg c3, if_pos c135, if_pos c136, if_pos c137, if_pos c138, if_pos c164, if_pos c165, if_pos c166, if_pos c167]; done) | (simp [mk_code, mk_c3, mk_cm, mk_sb, mk_by1, mk_by2, mk_by3, mk_by4, mk_c4, mk_rem, if_neg c1, if_neg c2, if_neg c3, if_pos c135, if_pos c136, if_pos c137, if_pos c138, if_pos c164, if_pos c165, if_pos c166, if_pos c167]; done)
                                        have hre2 : (ro, sz, op, kd, tk, la, li, g163, 4) = (mk_code (ro, sz, op, kd, tk, la, li, bt, mn) x1).2 := by
                                          subst eg163 et162 et156 eg155 et154 et153 et150 eg149 et148 et147 et144 eg143 et142 et141
                                          first | rfl | (simp only [mk_code, mk_c3, mk_cm, mk_sb, mk_by1, mk_by2, mk_by3, mk_by4, mk_c4, mk_rem, if_neg c1, if_neg c2, if_neg c3, if_pos c135, if_pos c136, if_pos c137, if_pos c138, if_pos c164, if_pos c165, if_pos c166, if_pos c167]; done) | (simp [mk_code, mk_c3, mk_cm, mk_sb, mk_by1, mk_by2, mk_by3, mk_by4, mk_c4, mk_rem, if_neg c1, if_neg c2, if_neg c3, if_pos c135, if_pos c136, if_pos c137, if_pos c138, if_pos c164, if_pos c165, if_pos c166, if_pos c167]; done)
                                        exact W.zret (v := 1) (ty := .boolean) hx hb hr rfl (fun t ht hW => ⟨⟨1, (ro, sz, op, kd, tk, la, li, g163, 4), rfl, ⟨hres, hre2⟩, by show va_P D vwCl _ t.heap; rw [ht]; exact hP⟩, hS.F ht⟩) hS.2.2 dX1_code_225
                                      · exact absurd c168 (by decide)
                                    · refine lv_bipush (v := 114) hx hb dX1_code_193 (by decide) ?_
                                      refine lv_goto (tgt := 199) hx hb dX1_code_195 (by decide) ?_
                                      refine lv_istore_n (lv' := [(3, .int 114), (2, .int t156), (0, .ref m0), (1, .int x1)]) hx hb dX1_code_199 rfl hl (by decide) rfl (fun ls hl => ?_)
                                      refine lv_iload_n hx hb dX1_code_200 rfl (lv_at hl 0 rfl) ?_
                                      refine lv_if_le (tgt := 224) hx hb dX1_code_201 (by decide) (fun c169 => ?_) (fun c169 => ?_)
                                      · exact absurd c169 (by decide)
                                      · refine lv_aload_n hx hb dX1_code_204 rfl (lv_at hl 2 rfl) ?_
                                        refine lv_iconst (v := 2) hx hb dX1_code_205 (by decide) ?_
                                        refine va_put (D := D) (ci := 1) (v := .int 2) (ty := .int) (C := RX1) (T := TX1) (N := 9) hx hb hts hin tyX1 tyX1_ok nmX1 hown hK hP hD hS 0 rfl rfl 8 (by decide) lk33 (fun _ h9 => h9) rfl (by decide +kernel) rfl rfl (Nat.le_of_ble_eq_true rfl) dX1_code_206 (fun H locs hP hD hS => ?_)
                                        have hP : va_P D vwCl (mkW cR cY m0 m1 m2 (ro, sz, op, kd, tk, la, li, g163, 2)) H := hP
                                        have hD : va_D A (mkW cR cY m0 m1 m2 (ro, sz, op, kd, tk, la, li, g163, 2)) := hD
                                        refine lv_aload_n hx hb dX1_code_209 rfl (lv_at hl 2 rfl) ?_
                                        refine va_get (D := D) (ci := 1) (v := .ref m2) (C := RX1) (T := TX1) (N := 9) hx hb hts hin hown hK hP 0 rfl rfl 7 (by decide) lk20 (fun _ h9 => h9) rfl dX1_code_210 ?_
                                        refine lv_iconst (v := 0) hx hb dX1_code_213 (by decide) ?_
                                        refine lv_bipush (v := 92) hx hb dX1_code_214 (by decide) ?_
                                        refine va_iast hx hb hK hP hD hS 2 1 rfl rfl (show ¬ ((0 : Int32) < 0 ∨ 4 ≤ (0 : Int32).toNatClampNeg) from by decide) dX1_code_216 (fun H locs hP hD hS => ?_)
                                        obtain ⟨g170, eg170⟩ : ∃ y : Nat → Int32, y = upd g163 (0 : Int32).toNatClampNeg (92 : Int32) := ⟨_, rfl⟩
                                        have hP : va_P D vwCl (mkW cR cY m0 m1 m2 (ro, sz, op, kd, tk, la, li, g170, 2)) H := by rw [eg170]; exact hP
                                        have hD : va_D A (mkW cR cY m0 m1 m2 (ro, sz, op, kd, tk, la, li, g170, 2)) := kk_D_same hD rfl
                                        refine lv_aload_n hx hb dX1_code_217 rfl (lv_at hl 2 rfl) ?_
                                        refine va_get (D := D) (ci := 1) (v := .ref m2) (C := RX1) (T := TX1) (N := 9) hx hb hts hin hown hK hP 0 rfl rfl 7 (by decide) lk20 (fun _ h9 => h9) rfl dX1_code_218 ?_
                                        refine lv_iconst (v := 1) hx hb dX1_code_221 (by decide) ?_
                                        refine lv_iload_n hx hb dX1_code_222 rfl (lv_at hl 0 rfl) ?_
                                        refine va_iast hx hb hK hP hD hS 2 1 rfl rfl (show ¬ ((1 : Int32) < 0 ∨ 4 ≤ (1 : Int32).toNatClampNeg) from by decide) dX1_code_223 (fun H locs hP hD hS => ?_)
                                        obtain ⟨g171, eg171⟩ : ∃ y : Nat → Int32, y = upd g170 (1 : Int32).toNatClampNeg (114 : Int32) := ⟨_, rfl⟩
                                        have hP : va_P D vwCl (mkW cR cY m0 m1 m2 (ro, sz, op, kd, tk, la, li, g171, 2)) H := by rw [eg171]; exact hP
                                        have hD : va_D A (mkW cR cY m0 m1 m2 (ro, sz, op, kd, tk, la, li, g171, 2)) := kk_D_same hD rfl
                                        refine lv_iconst (v := 1) hx hb dX1_code_224 (by decide) ?_
                                        have hres : 1 = (mk_code (ro, sz, op, kd, tk, la, li, bt, mn) x1).1 := by
                                          subst eg171 eg170 eg163 et162 et156 eg155 et154 et153 et150 eg149 et148 et147 et144 eg143 et142 et141
                                          first | rfl | (simp only [mk_code, mk_c3, mk_cm, mk_sb, mk_by1, mk_by2, mk_by3, mk_by4, mk_c4, mk_rem, if_neg c1, if_neg c2, if_neg c3, if_pos c135, if_pos c136, if_pos c137, if_pos c138, if_pos c164, if_pos c165, if_pos c166, if_neg (not_not_intro c167)]; done) | (simp [mk_code, mk_c3, mk_cm, mk_sb, mk_by1, mk_by2, mk_by3, mk_by4, mk_c4, mk_rem, if_neg c1, if_neg c2, if_neg c3, if_pos c135, if_pos c136, if_pos c137, if_pos c138, if_pos c164, if_pos c165, if_pos c166, if_neg (not_not_intro c167)]; done)
                                        have hre2 : (ro, sz, op, kd, tk, la, li, g171, 2) = (mk_code (ro, sz, op, kd, tk, la, li, bt, mn) x1).2 := by
                                          subst eg171 eg170 eg163 et162 et156 eg155 et154 et153 et150 eg149 et148 et147 et144 eg143 et142 et141
                                          first | rfl | (simp only [mk_code, mk_c3, mk_cm, mk_sb, mk_by1, mk_by2, mk_by3, mk_by4, mk_c4, mk_rem, if_neg c1, if_neg c2, if_neg c3, if_pos c135, if_pos c136, if_pos c137, if_pos c138, if_pos c164, if_pos c165, if_pos c166, if_neg (not_not_intro c167)]; done) | (simp [mk_code, mk_c3, mk_cm, mk_sb, mk_by1, mk_by2, mk_by3, mk_by4, mk_c4, mk_rem, if_neg c1, if_neg c2, if_neg c3, if_pos c135, if_pos c136, if_pos c137, if_pos c138, if_pos c164, if_pos c165, if_pos c166, if_neg (not_not_intro c167)]; done)
                                        exact W.zret (v := 1) (ty := .boolean) hx hb hr rfl (fun t ht hW => ⟨⟨1, (ro, sz, op, kd, tk, la, li, g171, 2), rfl, ⟨hres, hre2⟩, by show va_P D vwCl _ t.heap; rw [ht]; exact hP⟩, hS.F ht⟩) hS.2.2 dX1_code_225
                                  · refine lv_bipush (v := 116) hx hb dX1_code_182 (by decide) ?_
                                    refine lv_goto (tgt := 199) hx hb dX1_code_184 (by decide) ?_
                                    refine lv_istore_n (lv' := [(3, .int 116), (2, .int t156), (0, .ref m0), (1, .int x1)]) hx hb dX1_code_199 rfl hl (by decide) rfl (fun ls hl => ?_)
                                    refine lv_iload_n hx hb dX1_code_200 rfl (lv_at hl 0 rfl) ?_
                                    refine lv_if_le (tgt := 224) hx hb dX1_code_201 (by decide) (fun c172 => ?_) (fun c172 => ?_)
                                    · exact absurd c172 (by decide)
                                    · refine lv_aload_n hx hb dX1_code_204 rfl (lv_at hl 2 rfl) ?_
                                      refine lv_iconst (v := 2) hx hb dX1_code_205 (by decide) ?_
                                      refine va_put (D := D) (ci := 1) (v := .int 2) (ty := .int) (C := RX1) (T := TX1) (N := 9) hx hb hts hin tyX1 tyX1_ok nmX1 hown hK hP hD hS 0 rfl rfl 8 (by decide) lk33 (fun _ h9 => h9) rfl (by decide +kernel) rfl rfl (Nat.le_of_ble_eq_true rfl) dX1_code_206 (fun H locs hP hD hS => ?_)
                                      have hP : va_P D vwCl (mkW cR cY m0 m1 m2 (ro, sz, op, kd, tk, la, li, g163, 2)) H := hP
                                      have hD : va_D A (mkW cR cY m0 m1 m2 (ro, sz, op, kd, tk, la, li, g163, 2)) := hD
                                      refine lv_aload_n hx hb dX1_code_209 rfl (lv_at hl 2 rfl) ?_
                                      refine va_get (D := D) (ci := 1) (v := .ref m2) (C := RX1) (T := TX1) (N := 9) hx hb hts hin hown hK hP 0 rfl rfl 7 (by decide) lk20 (fun _ h9 => h9) rfl dX1_code_210 ?_
                                      refine lv_iconst (v := 0) hx hb dX1_code_213 (by decide) ?_
                                      refine lv_bipush (v := 92) hx hb dX1_code_214 (by decide) ?_
                                      refine va_iast hx hb hK hP hD hS 2 1 rfl rfl (show ¬ ((0 : Int32) < 0 ∨ 4 ≤ (0 : Int32).toNatClampNeg) from by decide) dX1_code_216 (fun H locs hP hD hS => ?_)
                                      obtain ⟨g173, eg173⟩ : ∃ y : Nat → Int32, y = upd g163 (0 : Int32).toNatClampNeg (92 : Int32) := ⟨_, rfl⟩
                                      have hP : va_P D vwCl (mkW cR cY m0 m1 m2 (ro, sz, op, kd, tk, la, li, g173, 2)) H := by rw [eg173]; exact hP
                                      have hD : va_D A (mkW cR cY m0 m1 m2 (ro, sz, op, kd, tk, la, li, g173, 2)) := kk_D_same hD rfl
                                      refine lv_aload_n hx hb dX1_code_217 rfl (lv_at hl 2 rfl) ?_
                                      refine va_get (D := D) (ci := 1) (v := .ref m2) (C := RX1) (T := TX1) (N := 9) hx hb hts hin hown hK hP 0 rfl rfl 7 (by decide) lk20 (fun _ h9 => h9) rfl dX1_code_218 ?_
                                      refine lv_iconst (v := 1) hx hb dX1_code_221 (by decide) ?_
                                      refine lv_iload_n hx hb dX1_code_222 rfl (lv_at hl 0 rfl) ?_
                                      refine va_iast hx hb hK hP hD hS 2 1 rfl rfl (show ¬ ((1 : Int32) < 0 ∨ 4 ≤ (1 : Int32).toNatClampNeg) from by decide) dX1_code_223 (fun H locs hP hD hS => ?_)
                                      obtain ⟨g174, eg174⟩ : ∃ y : Nat → Int32, y = upd g173 (1 : Int32).toNatClampNeg (116 : Int32) := ⟨_, rfl⟩
                                      have hP : va_P D vwCl (mkW cR cY m0 m1 m2 (ro, sz, op, kd, tk, la, li, g174, 2)) H := by rw [eg174]; exact hP
                                      have hD : va_D A (mkW cR cY m0 m1 m2 (ro, sz, op, kd, tk, la, li, g174, 2)) := kk_D_same hD rfl
                                      refine lv_iconst (v := 1) hx hb dX1_code_224 (by decide) ?_
                                      have hres : 1 = (mk_code (ro, sz, op, kd, tk, la, li, bt, mn) x1).1 := by
                                        subst eg174 eg173 eg163 et162 et156 eg155 et154 et153 et150 eg149 et148 et147 et144 eg143 et142 et141
                                        first | rfl | (simp only [mk_code, mk_c3, mk_cm, mk_sb, mk_by1, mk_by2, mk_by3, mk_by4, mk_c4, mk_rem, if_neg c1, if_neg c2, if_neg c3, if_pos c135, if_pos c136, if_pos c137, if_pos c138, if_pos c164, if_pos c165, if_neg (not_not_intro c166)]; done) | (simp [mk_code, mk_c3, mk_cm, mk_sb, mk_by1, mk_by2, mk_by3, mk_by4, mk_c4, mk_rem, if_neg c1, if_neg c2, if_neg c3, if_pos c135, if_pos c136, if_pos c137, if_pos c138, if_pos c164, if_pos c165, if_neg (not_not_intro c166)]; done)
                                      have hre2 : (ro, sz, op, kd, tk, la, li, g174, 2) = (mk_code (ro, sz, op, kd, tk, la, li, bt, mn) x1).2 := by
                                        subst eg174 eg173 eg163 et162 et156 eg155 et154 et153 et150 eg149 et148 et147 et144 eg143 et142 et141
                                        first | rfl | (simp only [mk_code, mk_c3, mk_cm, mk_sb, mk_by1, mk_by2, mk_by3, mk_by4, mk_c4, mk_rem, if_neg c1, if_neg c2, if_neg c3, if_pos c135, if_pos c136, if_pos c137, if_pos c138, if_pos c164, if_pos c165, if_neg (not_not_intro c166)]; done) | (simp [mk_code, mk_c3, mk_cm, mk_sb, mk_by1, mk_by2, mk_by3, mk_by4, mk_c4, mk_rem, if_neg c1, if_neg c2, if_neg c3, if_pos c135, if_pos c136, if_pos c137, if_pos c138, if_pos c164, if_pos c165, if_neg (not_not_intro c166)]; done)
                                      exact W.zret (v := 1) (ty := .boolean) hx hb hr rfl (fun t ht hW => ⟨⟨1, (ro, sz, op, kd, tk, la, li, g174, 2), rfl, ⟨hres, hre2⟩, by show va_P D vwCl _ t.heap; rw [ht]; exact hP⟩, hS.F ht⟩) hS.2.2 dX1_code_225
                                · refine lv_bipush (v := 110) hx hb dX1_code_171 (by decide) ?_
                                  refine lv_goto (tgt := 199) hx hb dX1_code_173 (by decide) ?_
                                  refine lv_istore_n (lv' := [(3, .int 110), (2, .int t156), (0, .ref m0), (1, .int x1)]) hx hb dX1_code_199 rfl hl (by decide) rfl (fun ls hl => ?_)
                                  refine lv_iload_n hx hb dX1_code_200 rfl (lv_at hl 0 rfl) ?_
                                  refine lv_if_le (tgt := 224) hx hb dX1_code_201 (by decide) (fun c175 => ?_) (fun c175 => ?_)
                                  · exact absurd c175 (by decide)
                                  · refine lv_aload_n hx hb dX1_code_204 rfl (lv_at hl 2 rfl) ?_
                                    refine lv_iconst (v := 2) hx hb dX1_code_205 (by decide) ?_
                                    refine va_put (D := D) (ci := 1) (v := .int 2) (ty := .int) (C := RX1) (T := TX1) (N := 9) hx hb hts hin tyX1 tyX1_ok nmX1 hown hK hP hD hS 0 rfl rfl 8 (by decide) lk33 (fun _ h9 => h9) rfl (by decide +kernel) rfl rfl (Nat.le_of_ble_eq_true rfl) dX1_code_206 (fun H locs hP hD hS => ?_)
                                    have hP : va_P D vwCl (mkW cR cY m0 m1 m2 (ro, sz, op, kd, tk, la, li, g163, 2)) H := hP
                                    have hD : va_D A (mkW cR cY m0 m1 m2 (ro, sz, op, kd, tk, la, li, g163, 2)) := hD
                                    refine lv_aload_n hx hb dX1_code_209 rfl (lv_at hl 2 rfl) ?_
                                    refine va_get (D := D) (ci := 1) (v := .ref m2) (C := RX1) (T := TX1) (N := 9) hx hb hts hin hown hK hP 0 rfl rfl 7 (by decide) lk20 (fun _ h9 => h9) rfl dX1_code_210 ?_
                                    refine lv_iconst (v := 0) hx hb dX1_code_213 (by decide) ?_
                                    refine lv_bipush (v := 92) hx hb dX1_code_214 (by decide) ?_
                                    refine va_iast hx hb hK hP hD hS 2 1 rfl rfl (show ¬ ((0 : Int32) < 0 ∨ 4 ≤ (0 : Int32).toNatClampNeg) from by decide) dX1_code_216 (fun H locs hP hD hS => ?_)
                                    obtain ⟨g176, eg176⟩ : ∃ y : Nat → Int32, y = upd g163 (0 : Int32).toNatClampNeg (92 : Int32) := ⟨_, rfl⟩
                                    have hP : va_P D vwCl (mkW cR cY m0 m1 m2 (ro, sz, op, kd, tk, la, li, g176, 2)) H := by rw [eg176]; exact hP
                                    have hD : va_D A (mkW cR cY m0 m1 m2 (ro, sz, op, kd, tk, la, li, g176, 2)) := kk_D_same hD rfl
                                    refine lv_aload_n hx hb dX1_code_217 rfl (lv_at hl 2 rfl) ?_
                                    refine va_get (D := D) (ci := 1) (v := .ref m2) (C := RX1) (T := TX1) (N := 9) hx hb hts hin hown hK hP 0 rfl rfl 7 (by decide) lk20 (fun _ h9 => h9) rfl dX1_code_218 ?_
                                    refine lv_iconst (v := 1) hx hb dX1_code_221 (by decide) ?_
                                    refine lv_iload_n hx hb dX1_code_222 rfl (lv_at hl 0 rfl) ?_
                                    refine va_iast hx hb hK hP hD hS 2 1 rfl rfl (show ¬ ((1 : Int32) < 0 ∨ 4 ≤ (1 : Int32).toNatClampNeg) from by decide) dX1_code_223 (fun H locs hP hD hS => ?_)
                                    obtain ⟨g177, eg177⟩ : ∃ y : Nat → Int32, y = upd g176 (1 : Int32).toNatClampNeg (110 : Int32) := ⟨_, rfl⟩
                                    have hP : va_P D vwCl (mkW cR cY m0 m1 m2 (ro, sz, op, kd, tk, la, li, g177, 2)) H := by rw [eg177]; exact hP
                                    have hD : va_D A (mkW cR cY m0 m1 m2 (ro, sz, op, kd, tk, la, li, g177, 2)) := kk_D_same hD rfl
                                    refine lv_iconst (v := 1) hx hb dX1_code_224 (by decide) ?_
                                    have hres : 1 = (mk_code (ro, sz, op, kd, tk, la, li, bt, mn) x1).1 := by
                                      subst eg177 eg176 eg163 et162 et156 eg155 et154 et153 et150 eg149 et148 et147 et144 eg143 et142 et141
                                      first | rfl | (simp only [mk_code, mk_c3, mk_cm, mk_sb, mk_by1, mk_by2, mk_by3, mk_by4, mk_c4, mk_rem, if_neg c1, if_neg c2, if_neg c3, if_pos c135, if_pos c136, if_pos c137, if_pos c138, if_pos c164, if_neg (not_not_intro c165)]; done) | (simp [mk_code, mk_c3, mk_cm, mk_sb, mk_by1, mk_by2, mk_by3, mk_by4, mk_c4, mk_rem, if_neg c1, if_neg c2, if_neg c3, if_pos c135, if_pos c136, if_pos c137, if_pos c138, if_pos c164, if_neg (not_not_intro c165)]; done)
                                    have hre2 : (ro, sz, op, kd, tk, la, li, g177, 2) = (mk_code (ro, sz, op, kd, tk, la, li, bt, mn) x1).2 := by
                                      subst eg177 eg176 eg163 et162 et156 eg155 et154 et153 et150 eg149 et148 et147 et144 eg143 et142 et141
                                      first | rfl | (simp only [mk_code, mk_c3, mk_cm, mk_sb, mk_by1, mk_by2, mk_by3, mk_by4, mk_c4, mk_rem, if_neg c1, if_neg c2, if_neg c3, if_pos c135, if_pos c136, if_pos c137, if_pos c138, if_pos c164, if_neg (not_not_intro c165)]; done) | (simp [mk_code, mk_c3, mk_cm, mk_sb, mk_by1, mk_by2, mk_by3, mk_by4, mk_c4, mk_rem, if_neg c1, if_neg c2, if_neg c3, if_pos c135, if_pos c136, if_pos c137, if_pos c138, if_pos c164, if_neg (not_not_intro c165)]; done)
                                    exact W.zret (v := 1) (ty := .boolean) hx hb hr rfl (fun t ht hW => ⟨⟨1, (ro, sz, op, kd, tk, la, li, g177, 2), rfl, ⟨hres, hre2⟩, by show va_P D vwCl _ t.heap; rw [ht]; exact hP⟩, hS.F ht⟩) hS.2.2 dX1_code_225
                              · refine lv_bipush (v := 92) hx hb dX1_code_160 (by decide) ?_
                                refine lv_goto (tgt := 199) hx hb dX1_code_162 (by decide) ?_
                                refine lv_istore_n (lv' := [(3, .int 92), (2, .int t156), (0, .ref m0), (1, .int x1)]) hx hb dX1_code_199 rfl hl (by decide) rfl (fun ls hl => ?_)
                                refine lv_iload_n hx hb dX1_code_200 rfl (lv_at hl 0 rfl) ?_
                                refine lv_if_le (tgt := 224) hx hb dX1_code_201 (by decide) (fun c178 => ?_) (fun c178 => ?_)
                                · exact absurd c178 (by decide)
                                · refine lv_aload_n hx hb dX1_code_204 rfl (lv_at hl 2 rfl) ?_
                                  refine lv_iconst (v := 2) hx hb dX1_code_205 (by decide) ?_
                                  refine va_put (D := D) (ci := 1) (v := .int 2) (ty := .int) (C := RX1) (T := TX1) (N := 9) hx hb hts hin tyX1 tyX1_ok nmX1 hown hK hP hD hS 0 rfl rfl 8 (by decide) lk33 (fun _ h9 => h9) rfl (by decide +kernel) rfl rfl (Nat.le_of_ble_eq_true rfl) dX1_code_206 (fun H locs hP hD hS => ?_)
                                  have hP : va_P D vwCl (mkW cR cY m0 m1 m2 (ro, sz, op, kd, tk, la, li, g163, 2)) H := hP
                                  have hD : va_D A (mkW cR cY m0 m1 m2 (ro, sz, op, kd, tk, la, li, g163, 2)) := hD
                                  refine lv_aload_n hx hb dX1_code_209 rfl (lv_at hl 2 rfl) ?_
                                  refine va_get (D := D) (ci := 1) (v := .ref m2) (C := RX1) (T := TX1) (N := 9) hx hb hts hin hown hK hP 0 rfl rfl 7 (by decide) lk20 (fun _ h9 => h9) rfl dX1_code_210 ?_
                                  refine lv_iconst (v := 0) hx hb dX1_code_213 (by decide) ?_
                                  refine lv_bipush (v := 92) hx hb dX1_code_214 (by decide) ?_
                                  refine va_iast hx hb hK hP hD hS 2 1 rfl rfl (show ¬ ((0 : Int32) < 0 ∨ 4 ≤ (0 : Int32).toNatClampNeg) from by decide) dX1_code_216 (fun H locs hP hD hS => ?_)
                                  obtain ⟨g179, eg179⟩ : ∃ y : Nat → Int32, y = upd g163 (0 : Int32).toNatClampNeg (92 : Int32) := ⟨_, rfl⟩
                                  have hP : va_P D vwCl (mkW cR cY m0 m1 m2 (ro, sz, op, kd, tk, la, li, g179, 2)) H := by rw [eg179]; exact hP
                                  have hD : va_D A (mkW cR cY m0 m1 m2 (ro, sz, op, kd, tk, la, li, g179, 2)) := kk_D_same hD rfl
                                  refine lv_aload_n hx hb dX1_code_217 rfl (lv_at hl 2 rfl) ?_
                                  refine va_get (D := D) (ci := 1) (v := .ref m2) (C := RX1) (T := TX1) (N := 9) hx hb hts hin hown hK hP 0 rfl rfl 7 (by decide) lk20 (fun _ h9 => h9) rfl dX1_code_218 ?_
                                  refine lv_iconst (v := 1) hx hb dX1_code_221 (by decide) ?_
                                  refine lv_iload_n hx hb dX1_code_222 rfl (lv_at hl 0 rfl) ?_
                                  refine va_iast hx hb hK hP hD hS 2 1 rfl rfl (show ¬ ((1 : Int32) < 0 ∨ 4 ≤ (1 : Int32).toNatClampNeg) from by decide) dX1_code_223 (fun H locs hP hD hS => ?_)
                                  obtain ⟨g180, eg180⟩ : ∃ y : Nat → Int32, y = upd g179 (1 : Int32).toNatClampNeg (92 : Int32) := ⟨_, rfl⟩
                                  have hP : va_P D vwCl (mkW cR cY m0 m1 m2 (ro, sz, op, kd, tk, la, li, g180, 2)) H := by rw [eg180]; exact hP
                                  have hD : va_D A (mkW cR cY m0 m1 m2 (ro, sz, op, kd, tk, la, li, g180, 2)) := kk_D_same hD rfl
                                  refine lv_iconst (v := 1) hx hb dX1_code_224 (by decide) ?_
                                  have hres : 1 = (mk_code (ro, sz, op, kd, tk, la, li, bt, mn) x1).1 := by
                                    subst eg180 eg179 eg163 et162 et156 eg155 et154 et153 et150 eg149 et148 et147 et144 eg143 et142 et141
                                    first | rfl | (simp only [mk_code, mk_c3, mk_cm, mk_sb, mk_by1, mk_by2, mk_by3, mk_by4, mk_c4, mk_rem, if_neg c1, if_neg c2, if_neg c3, if_pos c135, if_pos c136, if_pos c137, if_pos c138, if_neg (not_not_intro c164)]; done) | (simp [mk_code, mk_c3, mk_cm, mk_sb, mk_by1, mk_by2, mk_by3, mk_by4, mk_c4, mk_rem, if_neg c1, if_neg c2, if_neg c3, if_pos c135, if_pos c136, if_pos c137, if_pos c138, if_neg (not_not_intro c164)]; done)
                                  have hre2 : (ro, sz, op, kd, tk, la, li, g180, 2) = (mk_code (ro, sz, op, kd, tk, la, li, bt, mn) x1).2 := by
                                    subst eg180 eg179 eg163 et162 et156 eg155 et154 et153 et150 eg149 et148 et147 et144 eg143 et142 et141
                                    first | rfl | (simp only [mk_code, mk_c3, mk_cm, mk_sb, mk_by1, mk_by2, mk_by3, mk_by4, mk_c4, mk_rem, if_neg c1, if_neg c2, if_neg c3, if_pos c135, if_pos c136, if_pos c137, if_pos c138, if_neg (not_not_intro c164)]; done) | (simp [mk_code, mk_c3, mk_cm, mk_sb, mk_by1, mk_by2, mk_by3, mk_by4, mk_c4, mk_rem, if_neg c1, if_neg c2, if_neg c3, if_pos c135, if_pos c136, if_pos c137, if_pos c138, if_neg (not_not_intro c164)]; done)
                                  exact W.zret (v := 1) (ty := .boolean) hx hb hr rfl (fun t ht hW => ⟨⟨1, (ro, sz, op, kd, tk, la, li, g180, 2), rfl, ⟨hres, hre2⟩, by show va_P D vwCl _ t.heap; rw [ht]; exact hP⟩, hS.F ht⟩) hS.2.2 dX1_code_225
                            · exact absurd c161 (by decide)
                          · exact absurd c160 (by decide)
                        · exact absurd c159 (by decide)
                      · exact absurd c158 (by decide)
              · refine lv_iconst (v := 3) hx hb dX1_code_53 (by decide) ?_
                refine lv_goto (tgt := 58) hx hb dX1_code_54 (by decide) ?_
                refine va_put (D := D) (ci := 1) (v := .int 3) (ty := .int) (C := RX1) (T := TX1) (N := 9) hx hb hts hin tyX1 tyX1_ok nmX1 hown hK hP hD hS 0 rfl rfl 8 (by decide) lk33 (fun _ h9 => h9) rfl (by decide +kernel) rfl rfl (Nat.le_of_ble_eq_true rfl) dX1_code_58 (fun H locs hP hD hS => ?_)
                have hP : va_P D vwCl (mkW cR cY m0 m1 m2 (ro, sz, op, kd, tk, la, li, bt, 3)) H := hP
                have hD : va_D A (mkW cR cY m0 m1 m2 (ro, sz, op, kd, tk, la, li, bt, 3)) := hD
                refine lv_iload_n hx hb dX1_code_61 rfl (lv_at hl 1 rfl) ?_
                refine lv_istore_n (lv' := [(2, .int x1), (0, .ref m0), (1, .int x1)]) hx hb dX1_code_62 rfl hl (by decide) rfl (fun ls hl => ?_)
                refine lv_aload_n hx hb dX1_code_63 rfl (lv_at hl 1 rfl) ?_
                refine va_get (D := D) (ci := 1) (v := .int 3) (C := RX1) (T := TX1) (N := 9) hx hb hts hin hown hK hP 0 rfl rfl 8 (by decide) lk33 (fun _ h9 => h9) rfl dX1_code_64 ?_
                refine lv_iconst (v := 1) hx hb dX1_code_67 (by decide) ?_
                refine lv_isub hx hb dX1_code_68 ?_
                refine lv_topi (fun t181 et181 => ?_)
                obtain rfl : t181 = 2 := by rw [et181]; decide
                refine lv_istore_n (lv' := [(3, .int 2), (2, .int x1), (0, .ref m0), (1, .int x1)]) hx hb dX1_code_69 rfl hl (by decide) rfl (fun ls hl => ?_)
                refine lv_iload_n hx hb dX1_code_70 rfl (lv_at hl 0 rfl) ?_
                refine lv_if_le (tgt := 99) hx hb dX1_code_71 (by decide) (fun c182 => ?_) (fun c182 => ?_)
                · exact absurd c182 (by decide)
                · refine lv_aload_n hx hb dX1_code_74 rfl (lv_at hl 2 rfl) ?_
                  refine va_get (D := D) (ci := 1) (v := .ref m2) (C := RX1) (T := TX1) (N := 9) hx hb hts hin hown hK hP 0 rfl rfl 7 (by decide) lk20 (fun _ h9 => h9) rfl dX1_code_75 ?_
                  refine lv_iload_n hx hb dX1_code_78 rfl (lv_at hl 0 rfl) ?_
                  refine lv_sipush (v := 128) hx hb dX1_code_79 (by decide) ?_
                  refine lv_iload_n hx hb dX1_code_82 rfl (lv_at hl 1 rfl) ?_
                  refine lv_bipush (v := 64) hx hb dX1_code_83 (by decide) ?_
                  refine lv_irem hx hb dX1_code_85 (by decide) ?_
                  refine lv_topi (fun t183 et183 => ?_)
                  refine lv_iadd hx hb dX1_code_86 ?_
                  refine lv_topi (fun t184 et184 => ?_)
                  refine va_iast hx hb hK hP hD hS 2 1 rfl rfl (show ¬ ((2 : Int32) < 0 ∨ 4 ≤ (2 : Int32).toNatClampNeg) from by decide) dX1_code_87 (fun H locs hP hD hS => ?_)
                  obtain ⟨g185, eg185⟩ : ∃ y : Nat → Int32, y = upd bt (2 : Int32).toNatClampNeg t184 := ⟨_, rfl⟩
                  have hP : va_P D vwCl (mkW cR cY m0 m1 m2 (ro, sz, op, kd, tk, la, li, g185, 3)) H := by rw [eg185]; exact hP
                  have hD : va_D A (mkW cR cY m0 m1 m2 (ro, sz, op, kd, tk, la, li, g185, 3)) := kk_D_same hD rfl
                  refine lv_iload_n hx hb dX1_code_88 rfl (lv_at hl 1 rfl) ?_
                  refine lv_bipush (v := 64) hx hb dX1_code_89 (by decide) ?_
                  refine lv_idiv hx hb dX1_code_91 (by decide) ?_
                  refine lv_topi (fun t186 et186 => ?_)
                  refine lv_istore_n (lv' := [(2, .int t186), (3, .int 2), (0, .ref m0), (1, .int x1)]) hx hb dX1_code_92 rfl hl (by decide) rfl (fun ls hl => ?_)
                  refine lv_iinc (v := 1) (lv' := [(3, .int 1), (2, .int t186), (0, .ref m0), (1, .int x1)]) hx hb dX1_code_93 hl (k := 1) rfl (by decide) (by decide) rfl (fun ls hl => ?_)
                  refine lv_goto (tgt := 70) hx hb dX1_code_96 (by decide) ?_
                  refine lv_iload_n hx hb dX1_code_70 rfl (lv_at hl 0 rfl) ?_
                  refine lv_if_le (tgt := 99) hx hb dX1_code_71 (by decide) (fun c188 => ?_) (fun c188 => ?_)
                  · exact absurd c188 (by decide)
                  · refine lv_aload_n hx hb dX1_code_74 rfl (lv_at hl 2 rfl) ?_
                    refine va_get (D := D) (ci := 1) (v := .ref m2) (C := RX1) (T := TX1) (N := 9) hx hb hts hin hown hK hP 0 rfl rfl 7 (by decide) lk20 (fun _ h9 => h9) rfl dX1_code_75 ?_
                    refine lv_iload_n hx hb dX1_code_78 rfl (lv_at hl 0 rfl) ?_
                    refine lv_sipush (v := 128) hx hb dX1_code_79 (by decide) ?_
                    refine lv_iload_n hx hb dX1_code_82 rfl (lv_at hl 1 rfl) ?_
                    refine lv_bipush (v := 64) hx hb dX1_code_83 (by decide) ?_
                    refine lv_irem hx hb dX1_code_85 (by decide) ?_
                    refine lv_topi (fun t189 et189 => ?_)
                    refine lv_iadd hx hb dX1_code_86 ?_
                    refine lv_topi (fun t190 et190 => ?_)
                    refine va_iast hx hb hK hP hD hS 2 1 rfl rfl (show ¬ ((1 : Int32) < 0 ∨ 4 ≤ (1 : Int32).toNatClampNeg) from by decide) dX1_code_87 (fun H locs hP hD hS => ?_)
                    obtain ⟨g191, eg191⟩ : ∃ y : Nat → Int32, y = upd g185 (1 : Int32).toNatClampNeg t190 := ⟨_, rfl⟩
                    have hP : va_P D vwCl (mkW cR cY m0 m1 m2 (ro, sz, op, kd, tk, la, li, g191, 3)) H := by rw [eg191]; exact hP
                    have hD : va_D A (mkW cR cY m0 m1 m2 (ro, sz, op, kd, tk, la, li, g191, 3)) := kk_D_same hD rfl
                    refine lv_iload_n hx hb dX1_code_88 rfl (lv_at hl 1 rfl) ?_
                    refine lv_bipush (v := 64) hx hb dX1_code_89 (by decide) ?_
                    refine lv_idiv hx hb dX1_code_91 (by decide) ?_
                    refine lv_topi (fun t192 et192 => ?_)
                    refine lv_istore_n (lv' := [(2, .int t192), (3, .int 1), (0, .ref m0), (1, .int x1)]) hx hb dX1_code_92 rfl hl (by decide) rfl (fun ls hl => ?_)
                    refine lv_iinc (v := 0) (lv' := [(3, .int 0), (2, .int t192), (0, .ref m0), (1, .int x1)]) hx hb dX1_code_93 hl (k := 1) rfl (by decide) (by decide) rfl (fun ls hl => ?_)
                    refine lv_goto (tgt := 70) hx hb dX1_code_96 (by decide) ?_
                    refine lv_iload_n hx hb dX1_code_70 rfl (lv_at hl 0 rfl) ?_
                    refine lv_if_le (tgt := 99) hx hb dX1_code_71 (by decide) (fun c194 => ?_) (fun c194 => ?_)
                    · refine lv_aload_n hx hb dX1_code_99 rfl (lv_at hl 2 rfl) ?_
                      refine va_get (D := D) (ci := 1) (v := .ref m2) (C := RX1) (T := TX1) (N := 9) hx hb hts hin hown hK hP 0 rfl rfl 7 (by decide) lk20 (fun _ h9 => h9) rfl dX1_code_100 ?_
                      refine lv_iconst (v := 0) hx hb dX1_code_103 (by decide) ?_
                      refine lv_aload_n hx hb dX1_code_104 rfl (lv_at hl 2 rfl) ?_
                      refine va_get (D := D) (ci := 1) (v := .int 3) (C := RX1) (T := TX1) (N := 9) hx hb hts hin hown hK hP 0 rfl rfl 8 (by decide) lk33 (fun _ h9 => h9) rfl dX1_code_105 ?_
                      refine lv_iconst (v := 1) hx hb dX1_code_108 (by decide) ?_
                      refine lv_icmp_ne (tgt := 116) hx hb dX1_code_109 (by decide) (fun c195 => ?_) (fun c195 => ?_)
                      · refine lv_aload_n hx hb dX1_code_116 rfl (lv_at hl 2 rfl) ?_
                        refine va_get (D := D) (ci := 1) (v := .int 3) (C := RX1) (T := TX1) (N := 9) hx hb hts hin hown hK hP 0 rfl rfl 8 (by decide) lk33 (fun _ h9 => h9) rfl dX1_code_117 ?_
                        refine lv_iconst (v := 2) hx hb dX1_code_120 (by decide) ?_
                        refine lv_icmp_ne (tgt := 132) hx hb dX1_code_121 (by decide) (fun c196 => ?_) (fun c196 => ?_)
                        · refine lv_aload_n hx hb dX1_code_132 rfl (lv_at hl 2 rfl) ?_
                          refine va_get (D := D) (ci := 1) (v := .int 3) (C := RX1) (T := TX1) (N := 9) hx hb hts hin hown hK hP 0 rfl rfl 8 (by decide) lk33 (fun _ h9 => h9) rfl dX1_code_133 ?_
                          refine lv_iconst (v := 3) hx hb dX1_code_136 (by decide) ?_
                          refine lv_icmp_ne (tgt := 148) hx hb dX1_code_137 (by decide) (fun c197 => ?_) (fun c197 => ?_)
                          · exact absurd c197 (by decide)
                          · refine lv_sipush (v := 224) hx hb dX1_code_140 (by decide) ?_
                            refine lv_iload_n hx hb dX1_code_143 rfl (lv_at hl 1 rfl) ?_
                            refine lv_iadd hx hb dX1_code_144 ?_
                            refine lv_topi (fun t198 et198 => ?_)
                            refine lv_goto (tgt := 153) hx hb dX1_code_145 (by decide) ?_
                            refine va_iast hx hb hK hP hD hS 2 1 rfl rfl (show ¬ ((0 : Int32) < 0 ∨ 4 ≤ (0 : Int32).toNatClampNeg) from by decide) dX1_code_153 (fun H locs hP hD hS => ?_)
                            obtain ⟨g199, eg199⟩ : ∃ y : Nat → Int32, y = upd g191 (0 : Int32).toNatClampNeg t198 := ⟨_, rfl⟩
                            have hP : va_P D vwCl (mkW cR cY m0 m1 m2 (ro, sz, op, kd, tk, la, li, g199, 3)) H := by rw [eg199]; exact hP
                            have hD : va_D A (mkW cR cY m0 m1 m2 (ro, sz, op, kd, tk, la, li, g199, 3)) := kk_D_same hD rfl
                            refine lv_iload_n hx hb dX1_code_154 rfl (lv_at hl 3 rfl) ?_
                            refine lv_bipush (v := 92) hx hb dX1_code_155 (by decide) ?_
                            refine lv_icmp_ne (tgt := 165) hx hb dX1_code_157 (by decide) (fun c200 => ?_) (fun c200 => ?_)
                            · refine lv_iload_n hx hb dX1_code_165 rfl (lv_at hl 3 rfl) ?_
                              refine lv_bipush (v := 10) hx hb dX1_code_166 (by decide) ?_
                              refine lv_icmp_ne (tgt := 176) hx hb dX1_code_168 (by decide) (fun c201 => ?_) (fun c201 => ?_)
                              · refine lv_iload_n hx hb dX1_code_176 rfl (lv_at hl 3 rfl) ?_
                                refine lv_bipush (v := 9) hx hb dX1_code_177 (by decide) ?_
                                refine lv_icmp_ne (tgt := 187) hx hb dX1_code_179 (by decide) (fun c202 => ?_) (fun c202 => ?_)
                                · refine lv_iload_n hx hb dX1_code_187 rfl (lv_at hl 3 rfl) ?_
                                  refine lv_bipush (v := 13) hx hb dX1_code_188 (by decide) ?_
                                  refine lv_icmp_ne (tgt := 198) hx hb dX1_code_190 (by decide) (fun c203 => ?_) (fun c203 => ?_)
                                  · refine lv_iconst (v := 0) hx hb dX1_code_198 (by decide) ?_
                                    refine lv_istore_n (lv' := [(3, .int 0), (2, .int t192), (0, .ref m0), (1, .int x1)]) hx hb dX1_code_199 rfl hl (by decide) rfl (fun ls hl => ?_)
                                    refine lv_iload_n hx hb dX1_code_200 rfl (lv_at hl 0 rfl) ?_
                                    refine lv_if_le (tgt := 224) hx hb dX1_code_201 (by decide) (fun c204 => ?_) (fun c204 => ?_)
                                    · refine lv_iconst (v := 1) hx hb dX1_code_224 (by decide) ?_
                                      have hres : 1 = (mk_code (ro, sz, op, kd, tk, la, li, bt, mn) x1).1 := by
                                        subst eg199 et198 et192 eg191 et190 et189 et186 eg185 et184 et183
                                        first | rfl | (simp only [mk_code, mk_c3, mk_cm, mk_sb, mk_by1, mk_by2, mk_by3, mk_by4, mk_c4, mk_rem, if_neg c1, if_neg c2, if_neg c3, if_pos c135, if_pos c136, if_pos c137, if_neg c138, if_pos c200, if_pos c201, if_pos c202, if_pos c203]; done) | (simp [mk_code, mk_c3, mk_cm, mk_sb, mk_by1, mk_by2, mk_by3, mk_by4, mk_c4, mk_rem, if_neg c1, if_neg c2, if_neg c3, if_pos c135, if_pos c136, if_pos c137, if_neg c138, if_pos c200, if_pos c201, if_pos c202, if_pos c203]; done)
                                      have hre2 : (ro, sz, op, kd, tk, la, li, g199, 3) = (mk_code (ro, sz, op, kd, tk, la, li, bt, mn) x1).2 := by
                                        subst eg199 et198 et192 eg191 et190 et189 et186 eg185 et184 et183
                                        first | rfl | (simp only [mk_code, mk_c3, mk_cm, mk_sb, mk_by1, mk_by2, mk_by3, mk_by4, mk_c4, mk_rem, if_neg c1, if_neg c2, if_neg c3, if_pos c135, if_pos c136, if_pos c137, if_neg c138, if_pos c200, if_pos c201, if_pos c202, if_pos c203]; done) | (simp [mk_code, mk_c3, mk_cm, mk_sb, mk_by1, mk_by2, mk_by3, mk_by4, mk_c4, mk_rem, if_neg c1, if_neg c2, if_neg c3, if_pos c135, if_pos c136, if_pos c137, if_neg c138, if_pos c200, if_pos c201, if_pos c202, if_pos c203]; done)
                                      exact W.zret (v := 1) (ty := .boolean) hx hb hr rfl (fun t ht hW => ⟨⟨1, (ro, sz, op, kd, tk, la, li, g199, 3), rfl, ⟨hres, hre2⟩, by show va_P D vwCl _ t.heap; rw [ht]; exact hP⟩, hS.F ht⟩) hS.2.2 dX1_code_225
                                    · exact absurd c204 (by decide)
                                  · refine lv_bipush (v := 114) hx hb dX1_code_193 (by decide) ?_
                                    refine lv_goto (tgt := 199) hx hb dX1_code_195 (by decide) ?_
                                    refine lv_istore_n (lv' := [(3, .int 114), (2, .int t192), (0, .ref m0), (1, .int x1)]) hx hb dX1_code_199 rfl hl (by decide) rfl (fun ls hl => ?_)
                                    refine lv_iload_n hx hb dX1_code_200 rfl (lv_at hl 0 rfl) ?_
                                    refine lv_if_le (tgt := 224) hx hb dX1_code_201 (by decide) (fun c205 => ?_) (fun c205 => ?_)
                                    · exact absurd c205 (by decide)
                                    · refine lv_aload_n hx hb dX1_code_204 rfl (lv_at hl 2 rfl) ?_
                                      refine lv_iconst (v := 2) hx hb dX1_code_205 (by decide) ?_
                                      refine va_put (D := D) (ci := 1) (v := .int 2) (ty := .int) (C := RX1) (T := TX1) (N := 9) hx hb hts hin tyX1 tyX1_ok nmX1 hown hK hP hD hS 0 rfl rfl 8 (by decide) lk33 (fun _ h9 => h9) rfl (by decide +kernel) rfl rfl (Nat.le_of_ble_eq_true rfl) dX1_code_206 (fun H locs hP hD hS => ?_)
                                      have hP : va_P D vwCl (mkW cR cY m0 m1 m2 (ro, sz, op, kd, tk, la, li, g199, 2)) H := hP
                                      have hD : va_D A (mkW cR cY m0 m1 m2 (ro, sz, op, kd, tk, la, li, g199, 2)) := hD
                                      refine lv_aload_n hx hb dX1_code_209 rfl (lv_at hl 2 rfl) ?_
                                      refine va_get (D := D) (ci := 1) (v := .ref m2) (C := RX1) (T := TX1) (N := 9) hx hb hts hin hown hK hP 0 rfl rfl 7 (by decide) lk20 (fun _ h9 => h9) rfl dX1_code_210 ?_
                                      refine lv_iconst (v := 0) hx hb dX1_code_213 (by decide) ?_
                                      refine lv_bipush (v := 92) hx hb dX1_code_214 (by decide) ?_
                                      refine va_iast hx hb hK hP hD hS 2 1 rfl rfl (show ¬ ((0 : Int32) < 0 ∨ 4 ≤ (0 : Int32).toNatClampNeg) from by decide) dX1_code_216 (fun H locs hP hD hS => ?_)
                                      obtain ⟨g206, eg206⟩ : ∃ y : Nat → Int32, y = upd g199 (0 : Int32).toNatClampNeg (92 : Int32) := ⟨_, rfl⟩
                                      have hP : va_P D vwCl (mkW cR cY m0 m1 m2 (ro, sz, op, kd, tk, la, li, g206, 2)) H := by rw [eg206]; exact hP
                                      have hD : va_D A (mkW cR cY m0 m1 m2 (ro, sz, op, kd, tk, la, li, g206, 2)) := kk_D_same hD rfl
                                      refine lv_aload_n hx hb dX1_code_217 rfl (lv_at hl 2 rfl) ?_
                                      refine va_get (D := D) (ci := 1) (v := .ref m2) (C := RX1) (T := TX1) (N := 9) hx hb hts hin hown hK hP 0 rfl rfl 7 (by decide) lk20 (fun _ h9 => h9) rfl dX1_code_218 ?_
                                      refine lv_iconst (v := 1) hx hb dX1_code_221 (by decide) ?_
                                      refine lv_iload_n hx hb dX1_code_222 rfl (lv_at hl 0 rfl) ?_
                                      refine va_iast hx hb hK hP hD hS 2 1 rfl rfl (show ¬ ((1 : Int32) < 0 ∨ 4 ≤ (1 : Int32).toNatClampNeg) from by decide) dX1_code_223 (fun H locs hP hD hS => ?_)
                                      obtain ⟨g207, eg207⟩ : ∃ y : Nat → Int32, y = upd g206 (1 : Int32).toNatClampNeg (114 : Int32) := ⟨_, rfl⟩
                                      have hP : va_P D vwCl (mkW cR cY m0 m1 m2 (ro, sz, op, kd, tk, la, li, g207, 2)) H := by rw [eg207]; exact hP
                                      have hD : va_D A (mkW cR cY m0 m1 m2 (ro, sz, op, kd, tk, la, li, g207, 2)) := kk_D_same hD rfl
                                      refine lv_iconst (v := 1) hx hb dX1_code_224 (by decide) ?_
                                      have hres : 1 = (mk_code (ro, sz, op, kd, tk, la, li, bt, mn) x1).1 := by
                                        subst eg207 eg206 eg199 et198 et192 eg191 et190 et189 et186 eg185 et184 et183
                                        first | rfl | (simp only [mk_code, mk_c3, mk_cm, mk_sb, mk_by1, mk_by2, mk_by3, mk_by4, mk_c4, mk_rem, if_neg c1, if_neg c2, if_neg c3, if_pos c135, if_pos c136, if_pos c137, if_neg c138, if_pos c200, if_pos c201, if_pos c202, if_neg (not_not_intro c203)]; done) | (simp [mk_code, mk_c3, mk_cm, mk_sb, mk_by1, mk_by2, mk_by3, mk_by4, mk_c4, mk_rem, if_neg c1, if_neg c2, if_neg c3, if_pos c135, if_pos c136, if_pos c137, if_neg c138, if_pos c200, if_pos c201, if_pos c202, if_neg (not_not_intro c203)]; done)
                                      have hre2 : (ro, sz, op, kd, tk, la, li, g207, 2) = (mk_code (ro, sz, op, kd, tk, la, li, bt, mn) x1).2 := by
                                        subst eg207 eg206 eg199 et198 et192 eg191 et190 et189 et186 eg185 et184 et183
                                        first | rfl | (simp only [mk_code, mk_c3, mk_cm, mk_sb, mk_by1, mk_by2, mk_by3, mk_by4, mk_c4, mk_rem, if_neg c1, if_neg c2, if_neg c3, if_pos c135, if_pos c136, if_pos c137, if_neg c138, if_pos c200, if_pos c201, if_pos c202, if_neg (not_not_intro c203)]; done) | (simp [mk_code, mk_c3, mk_cm, mk_sb, mk_by1, mk_by2, mk_by3, mk_by4, mk_c4, mk_rem, if_neg c1, if_neg c2, if_neg c3, if_pos c135, if_pos c136, if_pos c137, if_neg c138, if_pos c200, if_pos c201, if_pos c202, if_neg (not_not_intro c203)]; done)
                                      exact W.zret (v := 1) (ty := .boolean) hx hb hr rfl (fun t ht hW => ⟨⟨1, (ro, sz, op, kd, tk, la, li, g207, 2), rfl, ⟨hres, hre2⟩, by show va_P D vwCl _ t.heap; rw [ht]; exact hP⟩, hS.F ht⟩) hS.2.2 dX1_code_225
                                · refine lv_bipush (v := 116) hx hb dX1_code_182 (by decide) ?_
                                  refine lv_goto (tgt := 199) hx hb dX1_code_184 (by decide) ?_
                                  refine lv_istore_n (lv' := [(3, .int 116), (2, .int t192), (0, .ref m0), (1, .int x1)]) hx hb dX1_code_199 rfl hl (by decide) rfl (fun ls hl => ?_)
                                  refine lv_iload_n hx hb dX1_code_200 rfl (lv_at hl 0 rfl) ?_
                                  refine lv_if_le (tgt := 224) hx hb dX1_code_201 (by decide) (fun c208 => ?_) (fun c208 => ?_)
                                  · exact absurd c208 (by decide)
                                  · refine lv_aload_n hx hb dX1_code_204 rfl (lv_at hl 2 rfl) ?_
                                    refine lv_iconst (v := 2) hx hb dX1_code_205 (by decide) ?_
                                    refine va_put (D := D) (ci := 1) (v := .int 2) (ty := .int) (C := RX1) (T := TX1) (N := 9) hx hb hts hin tyX1 tyX1_ok nmX1 hown hK hP hD hS 0 rfl rfl 8 (by decide) lk33 (fun _ h9 => h9) rfl (by decide +kernel) rfl rfl (Nat.le_of_ble_eq_true rfl) dX1_code_206 (fun H locs hP hD hS => ?_)
                                    have hP : va_P D vwCl (mkW cR cY m0 m1 m2 (ro, sz, op, kd, tk, la, li, g199, 2)) H := hP
                                    have hD : va_D A (mkW cR cY m0 m1 m2 (ro, sz, op, kd, tk, la, li, g199, 2)) := hD
                                    refine lv_aload_n hx hb dX1_code_209 rfl (lv_at hl 2 rfl) ?_
                                    refine va_get (D := D) (ci := 1) (v := .ref m2) (C := RX1) (T := TX1) (N := 9) hx hb hts hin hown hK hP 0 rfl rfl 7 (by decide) lk20 (fun _ h9 => h9) rfl dX1_code_210 ?_
                                    refine lv_iconst (v := 0) hx hb dX1_code_213 (by decide) ?_
                                    refine lv_bipush (v := 92) hx hb dX1_code_214 (by decide) ?_
                                    refine va_iast hx hb hK hP hD hS 2 1 rfl rfl (show ¬ ((0 : Int32) < 0 ∨ 4 ≤ (0 : Int32).toNatClampNeg) from by decide) dX1_code_216 (fun H locs hP hD hS => ?_)
                                    obtain ⟨g209, eg209⟩ : ∃ y : Nat → Int32, y = upd g199 (0 : Int32).toNatClampNeg (92 : Int32) := ⟨_, rfl⟩
                                    have hP : va_P D vwCl (mkW cR cY m0 m1 m2 (ro, sz, op, kd, tk, la, li, g209, 2)) H := by rw [eg209]; exact hP
                                    have hD : va_D A (mkW cR cY m0 m1 m2 (ro, sz, op, kd, tk, la, li, g209, 2)) := kk_D_same hD rfl
                                    refine lv_aload_n hx hb dX1_code_217 rfl (lv_at hl 2 rfl) ?_
                                    refine va_get (D := D) (ci := 1) (v := .ref m2) (C := RX1) (T := TX1) (N := 9) hx hb hts hin hown hK hP 0 rfl rfl 7 (by decide) lk20 (fun _ h9 => h9) rfl dX1_code_218 ?_
                                    refine lv_iconst (v := 1) hx hb dX1_code_221 (by decide) ?_
                                    refine lv_iload_n hx hb dX1_code_222 rfl (lv_at hl 0 rfl) ?_
                                    refine va_iast hx hb hK hP hD hS 2 1 rfl rfl (show ¬ ((1 : Int32) < 0 ∨ 4 ≤ (1 : Int32).toNatClampNeg) from by decide) dX1_code_223 (fun H locs hP hD hS => ?_)
                                    obtain ⟨g210, eg210⟩ : ∃ y : Nat → Int32, y = upd g209 (1 : Int32).toNatClampNeg (116 : Int32) := ⟨_, rfl⟩
                                    have hP : va_P D vwCl (mkW cR cY m0 m1 m2 (ro, sz, op, kd, tk, la, li, g210, 2)) H := by rw [eg210]; exact hP
                                    have hD : va_D A (mkW cR cY m0 m1 m2 (ro, sz, op, kd, tk, la, li, g210, 2)) := kk_D_same hD rfl
                                    refine lv_iconst (v := 1) hx hb dX1_code_224 (by decide) ?_
                                    have hres : 1 = (mk_code (ro, sz, op, kd, tk, la, li, bt, mn) x1).1 := by
                                      subst eg210 eg209 eg199 et198 et192 eg191 et190 et189 et186 eg185 et184 et183
                                      first | rfl | (simp only [mk_code, mk_c3, mk_cm, mk_sb, mk_by1, mk_by2, mk_by3, mk_by4, mk_c4, mk_rem, if_neg c1, if_neg c2, if_neg c3, if_pos c135, if_pos c136, if_pos c137, if_neg c138, if_pos c200, if_pos c201, if_neg (not_not_intro c202)]; done) | (simp [mk_code, mk_c3, mk_cm, mk_sb, mk_by1, mk_by2, mk_by3, mk_by4, mk_c4, mk_rem, if_neg c1, if_neg c2, if_neg c3, if_pos c135, if_pos c136, if_pos c137, if_neg c138, if_pos c200, if_pos c201, if_neg (not_not_intro c202)]; done)
                                    have hre2 : (ro, sz, op, kd, tk, la, li, g210, 2) = (mk_code (ro, sz, op, kd, tk, la, li, bt, mn) x1).2 := by
                                      subst eg210 eg209 eg199 et198 et192 eg191 et190 et189 et186 eg185 et184 et183
                                      first | rfl | (simp only [mk_code, mk_c3, mk_cm, mk_sb, mk_by1, mk_by2, mk_by3, mk_by4, mk_c4, mk_rem, if_neg c1, if_neg c2, if_neg c3, if_pos c135, if_pos c136, if_pos c137, if_neg c138, if_pos c200, if_pos c201, if_neg (not_not_intro c202)]; done) | (simp [mk_code, mk_c3, mk_cm, mk_sb, mk_by1, mk_by2, mk_by3, mk_by4, mk_c4, mk_rem, if_neg c1, if_neg c2, if_neg c3, if_pos c135, if_pos c136, if_pos c137, if_neg c138, if_pos c200, if_pos c201, if_neg (not_not_intro c202)]; done)
                                    exact W.zret (v := 1) (ty := .boolean) hx hb hr rfl (fun t ht hW => ⟨⟨1, (ro, sz, op, kd, tk, la, li, g210, 2), rfl, ⟨hres, hre2⟩, by show va_P D vwCl _ t.heap; rw [ht]; exact hP⟩, hS.F ht⟩) hS.2.2 dX1_code_225
                              · refine lv_bipush (v := 110) hx hb dX1_code_171 (by decide) ?_
                                refine lv_goto (tgt := 199) hx hb dX1_code_173 (by decide) ?_
                                refine lv_istore_n (lv' := [(3, .int 110), (2, .int t192), (0, .ref m0), (1, .int x1)]) hx hb dX1_code_199 rfl hl (by decide) rfl (fun ls hl => ?_)
                                refine lv_iload_n hx hb dX1_code_200 rfl (lv_at hl 0 rfl) ?_
                                refine lv_if_le (tgt := 224) hx hb dX1_code_201 (by decide) (fun c211 => ?_) (fun c211 => ?_)
                                · exact absurd c211 (by decide)
                                · refine lv_aload_n hx hb dX1_code_204 rfl (lv_at hl 2 rfl) ?_
                                  refine lv_iconst (v := 2) hx hb dX1_code_205 (by decide) ?_
                                  refine va_put (D := D) (ci := 1) (v := .int 2) (ty := .int) (C := RX1) (T := TX1) (N := 9) hx hb hts hin tyX1 tyX1_ok nmX1 hown hK hP hD hS 0 rfl rfl 8 (by decide) lk33 (fun _ h9 => h9) rfl (by decide +kernel) rfl rfl (Nat.le_of_ble_eq_true rfl) dX1_code_206 (fun H locs hP hD hS => ?_)
                                  have hP : va_P D vwCl (mkW cR cY m0 m1 m2 (ro, sz, op, kd, tk, la, li, g199, 2)) H := hP
                                  have hD : va_D A (mkW cR cY m0 m1 m2 (ro, sz, op, kd, tk, la, li, g199, 2)) := hD
                                  refine lv_aload_n hx hb dX1_code_209 rfl (lv_at hl 2 rfl) ?_
                                  refine va_get (D := D) (ci := 1) (v := .ref m2) (C := RX1) (T := TX1) (N := 9) hx hb hts hin hown hK hP 0 rfl rfl 7 (by decide) lk20 (fun _ h9 => h9) rfl dX1_code_210 ?_
                                  refine lv_iconst (v := 0) hx hb dX1_code_213 (by decide) ?_
                                  refine lv_bipush (v := 92) hx hb dX1_code_214 (by decide) ?_
                                  refine va_iast hx hb hK hP hD hS 2 1 rfl rfl (show ¬ ((0 : Int32) < 0 ∨ 4 ≤ (0 : Int32).toNatClampNeg) from by decide) dX1_code_216 (fun H locs hP hD hS => ?_)
                                  obtain ⟨g212, eg212⟩ : ∃ y : Nat → Int32, y = upd g199 (0 : Int32).toNatClampNeg (92 : Int32) := ⟨_, rfl⟩
                                  have hP : va_P D vwCl (mkW cR cY m0 m1 m2 (ro, sz, op, kd, tk, la, li, g212, 2)) H := by rw [eg212]; exact hP
                                  have hD : va_D A (mkW cR cY m0 m1 m2 (ro, sz, op, kd, tk, la, li, g212, 2)) := kk_D_same hD rfl
                                  refine lv_aload_n hx hb dX1_code_217 rfl (lv_at hl 2 rfl) ?_
                                  refine va_get (D := D) (ci := 1) (v := .ref m2) (C := RX1) (T := TX1) (N := 9) hx hb hts hin hown hK hP 0 rfl rfl 7 (by decide) lk20 (fun _ h9 => h9) rfl dX1_code_218 ?_
                                  refine lv_iconst (v := 1) hx hb dX1_code_221 (by decide) ?_
                                  refine lv_iload_n hx hb dX1_code_222 rfl (lv_at hl 0 rfl) ?_
                                  refine va_iast hx hb hK hP hD hS 2 1 rfl rfl (show ¬ ((1 : Int32) < 0 ∨ 4 ≤ (1 : Int32).toNatClampNeg) from by decide) dX1_code_223 (fun H locs hP hD hS => ?_)
                                  obtain ⟨g213, eg213⟩ : ∃ y : Nat → Int32, y = upd g212 (1 : Int32).toNatClampNeg (110 : Int32) := ⟨_, rfl⟩
                                  have hP : va_P D vwCl (mkW cR cY m0 m1 m2 (ro, sz, op, kd, tk, la, li, g213, 2)) H := by rw [eg213]; exact hP
                                  have hD : va_D A (mkW cR cY m0 m1 m2 (ro, sz, op, kd, tk, la, li, g213, 2)) := kk_D_same hD rfl
                                  refine lv_iconst (v := 1) hx hb dX1_code_224 (by decide) ?_
                                  have hres : 1 = (mk_code (ro, sz, op, kd, tk, la, li, bt, mn) x1).1 := by
                                    subst eg213 eg212 eg199 et198 et192 eg191 et190 et189 et186 eg185 et184 et183
                                    first | rfl | (simp only [mk_code, mk_c3, mk_cm, mk_sb, mk_by1, mk_by2, mk_by3, mk_by4, mk_c4, mk_rem, if_neg c1, if_neg c2, if_neg c3, if_pos c135, if_pos c136, if_pos c137, if_neg c138, if_pos c200, if_neg (not_not_intro c201)]; done) | (simp [mk_code, mk_c3, mk_cm, mk_sb, mk_by1, mk_by2, mk_by3, mk_by4, mk_c4, mk_rem, if_neg c1, if_neg c2, if_neg c3, if_pos c135, if_pos c136, if_pos c137, if_neg c138, if_pos c200, if_neg (not_not_intro c201)]; done)
                                  have hre2 : (ro, sz, op, kd, tk, la, li, g213, 2) = (mk_code (ro, sz, op, kd, tk, la, li, bt, mn) x1).2 := by
                                    subst eg213 eg212 eg199 et198 et192 eg191 et190 et189 et186 eg185 et184 et183
                                    first | rfl | (simp only [mk_code, mk_c3, mk_cm, mk_sb, mk_by1, mk_by2, mk_by3, mk_by4, mk_c4, mk_rem, if_neg c1, if_neg c2, if_neg c3, if_pos c135, if_pos c136, if_pos c137, if_neg c138, if_pos c200, if_neg (not_not_intro c201)]; done) | (simp [mk_code, mk_c3, mk_cm, mk_sb, mk_by1, mk_by2, mk_by3, mk_by4, mk_c4, mk_rem, if_neg c1, if_neg c2, if_neg c3, if_pos c135, if_pos c136, if_pos c137, if_neg c138, if_pos c200, if_neg (not_not_intro c201)]; done)
                                  exact W.zret (v := 1) (ty := .boolean) hx hb hr rfl (fun t ht hW => ⟨⟨1, (ro, sz, op, kd, tk, la, li, g213, 2), rfl, ⟨hres, hre2⟩, by show va_P D vwCl _ t.heap; rw [ht]; exact hP⟩, hS.F ht⟩) hS.2.2 dX1_code_225
                            · refine lv_bipush (v := 92) hx hb dX1_code_160 (by decide) ?_
                              refine lv_goto (tgt := 199) hx hb dX1_code_162 (by decide) ?_
                              refine lv_istore_n (lv' := [(3, .int 92), (2, .int t192), (0, .ref m0), (1, .int x1)]) hx hb dX1_code_199 rfl hl (by decide) rfl (fun ls hl => ?_)
                              refine lv_iload_n hx hb dX1_code_200 rfl (lv_at hl 0 rfl) ?_
                              refine lv_if_le (tgt := 224) hx hb dX1_code_201 (by decide) (fun c214 => ?_) (fun c214 => ?_)
                              · exact absurd c214 (by decide)
                              · refine lv_aload_n hx hb dX1_code_204 rfl (lv_at hl 2 rfl) ?_
                                refine lv_iconst (v := 2) hx hb dX1_code_205 (by decide) ?_
                                refine va_put (D := D) (ci := 1) (v := .int 2) (ty := .int) (C := RX1) (T := TX1) (N := 9) hx hb hts hin tyX1 tyX1_ok nmX1 hown hK hP hD hS 0 rfl rfl 8 (by decide) lk33 (fun _ h9 => h9) rfl (by decide +kernel) rfl rfl (Nat.le_of_ble_eq_true rfl) dX1_code_206 (fun H locs hP hD hS => ?_)
                                have hP : va_P D vwCl (mkW cR cY m0 m1 m2 (ro, sz, op, kd, tk, la, li, g199, 2)) H := hP
                                have hD : va_D A (mkW cR cY m0 m1 m2 (ro, sz, op, kd, tk, la, li, g199, 2)) := hD
                                refine lv_aload_n hx hb dX1_code_209 rfl (lv_at hl 2 rfl) ?_
                                refine va_get (D := D) (ci := 1) (v := .ref m2) (C := RX1) (T := TX1) (N := 9) hx hb hts hin hown hK hP 0 rfl rfl 7 (by decide) lk20 (fun _ h9 => h9) rfl dX1_code_210 ?_
                                refine lv_iconst (v := 0) hx hb dX1_code_213 (by decide) ?_
                                refine lv_bipush (v := 92) hx hb dX1_code_214 (by decide) ?_
                                refine va_iast hx hb hK hP hD hS 2 1 rfl rfl (show ¬ ((0 : Int32) < 0 ∨ 4 ≤ (0 : Int32).toNatClampNeg) from by decide) dX1_code_216 (fun H locs hP hD hS => ?_)
                                obtain ⟨g215, eg215⟩ : ∃ y : Nat → Int32, y = upd g199 (0 : Int32).toNatClampNeg (92 : Int32) := ⟨_, rfl⟩
                                have hP : va_P D vwCl (mkW cR cY m0 m1 m2 (ro, sz, op, kd, tk, la, li, g215, 2)) H := by rw [eg215]; exact hP
                                have hD : va_D A (mkW cR cY m0 m1 m2 (ro, sz, op, kd, tk, la, li, g215, 2)) := kk_D_same hD rfl
                                refine lv_aload_n hx hb dX1_code_217 rfl (lv_at hl 2 rfl) ?_
                                refine va_get (D := D) (ci := 1) (v := .ref m2) (C := RX1) (T := TX1) (N := 9) hx hb hts hin hown hK hP 0 rfl rfl 7 (by decide) lk20 (fun _ h9 => h9) rfl dX1_code_218 ?_
                                refine lv_iconst (v := 1) hx hb dX1_code_221 (by decide) ?_
                                refine lv_iload_n hx hb dX1_code_222 rfl (lv_at hl 0 rfl) ?_
                                refine va_iast hx hb hK hP hD hS 2 1 rfl rfl (show ¬ ((1 : Int32) < 0 ∨ 4 ≤ (1 : Int32).toNatClampNeg) from by decide) dX1_code_223 (fun H locs hP hD hS => ?_)
                                obtain ⟨g216, eg216⟩ : ∃ y : Nat → Int32, y = upd g215 (1 : Int32).toNatClampNeg (92 : Int32) := ⟨_, rfl⟩
                                have hP : va_P D vwCl (mkW cR cY m0 m1 m2 (ro, sz, op, kd, tk, la, li, g216, 2)) H := by rw [eg216]; exact hP
                                have hD : va_D A (mkW cR cY m0 m1 m2 (ro, sz, op, kd, tk, la, li, g216, 2)) := kk_D_same hD rfl
                                refine lv_iconst (v := 1) hx hb dX1_code_224 (by decide) ?_
                                have hres : 1 = (mk_code (ro, sz, op, kd, tk, la, li, bt, mn) x1).1 := by
                                  subst eg216 eg215 eg199 et198 et192 eg191 et190 et189 et186 eg185 et184 et183
                                  first | rfl | (simp only [mk_code, mk_c3, mk_cm, mk_sb, mk_by1, mk_by2, mk_by3, mk_by4, mk_c4, mk_rem, if_neg c1, if_neg c2, if_neg c3, if_pos c135, if_pos c136, if_pos c137, if_neg c138, if_neg (not_not_intro c200)]; done) | (simp [mk_code, mk_c3, mk_cm, mk_sb, mk_by1, mk_by2, mk_by3, mk_by4, mk_c4, mk_rem, if_neg c1, if_neg c2, if_neg c3, if_pos c135, if_pos c136, if_pos c137, if_neg c138, if_neg (not_not_intro c200)]; done)
                                have hre2 : (ro, sz, op, kd, tk, la, li, g216, 2) = (mk_code (ro, sz, op, kd, tk, la, li, bt, mn) x1).2 := by
                                  subst eg216 eg215 eg199 et198 et192 eg191 et190 et189 et186 eg185 et184 et183
                                  first | rfl | (simp only [mk_code, mk_c3, mk_cm, mk_sb, mk_by1, mk_by2, mk_by3, mk_by4, mk_c4, mk_rem, if_neg c1, if_neg c2, if_neg c3, if_pos c135, if_pos c136, if_pos c137, if_neg c138, if_neg (not_not_intro c200)]; done) | (simp [mk_code, mk_c3, mk_cm, mk_sb, mk_by1, mk_by2, mk_by3, mk_by4, mk_c4, mk_rem, if_neg c1, if_neg c2, if_neg c3, if_pos c135, if_pos c136, if_pos c137, if_neg c138, if_neg (not_not_intro c200)]; done)
                                exact W.zret (v := 1) (ty := .boolean) hx hb hr rfl (fun t ht hW => ⟨⟨1, (ro, sz, op, kd, tk, la, li, g216, 2), rfl, ⟨hres, hre2⟩, by show va_P D vwCl _ t.heap; rw [ht]; exact hP⟩, hS.F ht⟩) hS.2.2 dX1_code_225
                        · exact absurd c196 (by decide)
                      · exact absurd c195 (by decide)
                    · exact absurd c194 (by decide)
            · refine lv_iconst (v := 2) hx hb dX1_code_43 (by decide) ?_
              refine lv_goto (tgt := 58) hx hb dX1_code_44 (by decide) ?_
              refine va_put (D := D) (ci := 1) (v := .int 2) (ty := .int) (C := RX1) (T := TX1) (N := 9) hx hb hts hin tyX1 tyX1_ok nmX1 hown hK hP hD hS 0 rfl rfl 8 (by decide) lk33 (fun _ h9 => h9) rfl (by decide +kernel) rfl rfl (Nat.le_of_ble_eq_true rfl) dX1_code_58 (fun H locs hP hD hS => ?_)
              have hP : va_P D vwCl (mkW cR cY m0 m1 m2 (ro, sz, op, kd, tk, la, li, bt, 2)) H := hP
              have hD : va_D A (mkW cR cY m0 m1 m2 (ro, sz, op, kd, tk, la, li, bt, 2)) := hD
              refine lv_iload_n hx hb dX1_code_61 rfl (lv_at hl 1 rfl) ?_
              refine lv_istore_n (lv' := [(2, .int x1), (0, .ref m0), (1, .int x1)]) hx hb dX1_code_62 rfl hl (by decide) rfl (fun ls hl => ?_)
              refine lv_aload_n hx hb dX1_code_63 rfl (lv_at hl 1 rfl) ?_
              refine va_get (D := D) (ci := 1) (v := .int 2) (C := RX1) (T := TX1) (N := 9) hx hb hts hin hown hK hP 0 rfl rfl 8 (by decide) lk33 (fun _ h9 => h9) rfl dX1_code_64 ?_
              refine lv_iconst (v := 1) hx hb dX1_code_67 (by decide) ?_
              refine lv_isub hx hb dX1_code_68 ?_
              refine lv_topi (fun t217 et217 => ?_)
              obtain rfl : t217 = 1 := by rw [et217]; decide
              refine lv_istore_n (lv' := [(3, .int 1), (2, .int x1), (0, .ref m0), (1, .int x1)]) hx hb dX1_code_69 rfl hl (by decide) rfl (fun ls hl => ?_)
              refine lv_iload_n hx hb dX1_code_70 rfl (lv_at hl 0 rfl) ?_
              refine lv_if_le (tgt := 99) hx hb dX1_code_71 (by decide) (fun c218 => ?_) (fun c218 => ?_)
              · exact absurd c218 (by decide)
              · refine lv_aload_n hx hb dX1_code_74 rfl (lv_at hl 2 rfl) ?_
                refine va_get (D := D) (ci := 1) (v := .ref m2) (C := RX1) (T := TX1) (N := 9) hx hb hts hin hown hK hP 0 rfl rfl 7 (by decide) lk20 (fun _ h9 => h9) rfl dX1_code_75 ?_
                refine lv_iload_n hx hb dX1_code_78 rfl (lv_at hl 0 rfl) ?_
                refine lv_sipush (v := 128) hx hb dX1_code_79 (by decide) ?_
                refine lv_iload_n hx hb dX1_code_82 rfl (lv_at hl 1 rfl) ?_
                refine lv_bipush (v := 64) hx hb dX1_code_83 (by decide) ?_
                refine lv_irem hx hb dX1_code_85 (by decide) ?_
                refine lv_topi (fun t219 et219 => ?_)
                refine lv_iadd hx hb dX1_code_86 ?_
                refine lv_topi (fun t220 et220 => ?_)
                refine va_iast hx hb hK hP hD hS 2 1 rfl rfl (show ¬ ((1 : Int32) < 0 ∨ 4 ≤ (1 : Int32).toNatClampNeg) from by decide) dX1_code_87 (fun H locs hP hD hS => ?_)
                obtain ⟨g221, eg221⟩ : ∃ y : Nat → Int32, y = upd bt (1 : Int32).toNatClampNeg t220 := ⟨_, rfl⟩
                have hP : va_P D vwCl (mkW cR cY m0 m1 m2 (ro, sz, op, kd, tk, la, li, g221, 2)) H := by rw [eg221]; exact hP
                have hD : va_D A (mkW cR cY m0 m1 m2 (ro, sz, op, kd, tk, la, li, g221, 2)) := kk_D_same hD rfl
                refine lv_iload_n hx hb dX1_code_88 rfl (lv_at hl 1 rfl) ?_
                refine lv_bipush (v := 64) hx hb dX1_code_89 (by decide) ?_
                refine lv_idiv hx hb dX1_code_91 (by decide) ?_
                refine lv_topi (fun t222 et222 => ?_)
                refine lv_istore_n (lv' := [(2, .int t222), (3, .int 1), (0, .ref m0), (1, .int x1)]) hx hb dX1_code_92 rfl hl (by decide) rfl (fun ls hl => ?_)
                refine lv_iinc (v := 0) (lv' := [(3, .int 0), (2, .int t222), (0, .ref m0), (1, .int x1)]) hx hb dX1_code_93 hl (k := 1) rfl (by decide) (by decide) rfl (fun ls hl => ?_)
                refine lv_goto (tgt := 70) hx hb dX1_code_96 (by decide) ?_
                refine lv_iload_n hx hb dX1_code_70 rfl (lv_at hl 0 rfl) ?_
                refine lv_if_le (tgt := 99) hx hb dX1_code_71 (by decide) (fun c224 => ?_) (fun c224 => ?_)
                · refine lv_aload_n hx hb dX1_code_99 rfl (lv_at hl 2 rfl) ?_
                  refine va_get (D := D) (ci := 1) (v := .ref m2) (C := RX1) (T := TX1) (N := 9) hx hb hts hin hown hK hP 0 rfl rfl 7 (by decide) lk20 (fun _ h9 => h9) rfl dX1_code_100 ?_
                  refine lv_iconst (v := 0) hx hb dX1_code_103 (by decide) ?_
                  refine lv_aload_n hx hb dX1_code_104 rfl (lv_at hl 2 rfl) ?_
                  refine va_get (D := D) (ci := 1) (v := .int 2) (C := RX1) (T := TX1) (N := 9) hx hb hts hin hown hK hP 0 rfl rfl 8 (by decide) lk33 (fun _ h9 => h9) rfl dX1_code_105 ?_
                  refine lv_iconst (v := 1) hx hb dX1_code_108 (by decide) ?_
                  refine lv_icmp_ne (tgt := 116) hx hb dX1_code_109 (by decide) (fun c225 => ?_) (fun c225 => ?_)
                  · refine lv_aload_n hx hb dX1_code_116 rfl (lv_at hl 2 rfl) ?_
                    refine va_get (D := D) (ci := 1) (v := .int 2) (C := RX1) (T := TX1) (N := 9) hx hb hts hin hown hK hP 0 rfl rfl 8 (by decide) lk33 (fun _ h9 => h9) rfl dX1_code_117 ?_
                    refine lv_iconst (v := 2) hx hb dX1_code_120 (by decide) ?_
                    refine lv_icmp_ne (tgt := 132) hx hb dX1_code_121 (by decide) (fun c226 => ?_) (fun c226 => ?_)
                    · exact absurd c226 (by decide)
                    · refine lv_sipush (v := 192) hx hb dX1_code_124 (by decide) ?_
                      refine lv_iload_n hx hb dX1_code_127 rfl (lv_at hl 1 rfl) ?_
                      refine lv_iadd hx hb dX1_code_128 ?_
                      refine lv_topi (fun t227 et227 => ?_)
                      refine lv_goto (tgt := 153) hx hb dX1_code_129 (by decide) ?_
                      refine va_iast hx hb hK hP hD hS 2 1 rfl rfl (show ¬ ((0 : Int32) < 0 ∨ 4 ≤ (0 : Int32).toNatClampNeg) from by decide) dX1_code_153 (fun H locs hP hD hS => ?_)
                      obtain ⟨g228, eg228⟩ : ∃ y : Nat → Int32, y = upd g221 (0 : Int32).toNatClampNeg t227 := ⟨_, rfl⟩
                      have hP : va_P D vwCl (mkW cR cY m0 m1 m2 (ro, sz, op, kd, tk, la, li, g228, 2)) H := by rw [eg228]; exact hP
                      have hD : va_D A (mkW cR cY m0 m1 m2 (ro, sz, op, kd, tk, la, li, g228, 2)) := kk_D_same hD rfl
                      refine lv_iload_n hx hb dX1_code_154 rfl (lv_at hl 3 rfl) ?_
                      refine lv_bipush (v := 92) hx hb dX1_code_155 (by decide) ?_
                      refine lv_icmp_ne (tgt := 165) hx hb dX1_code_157 (by decide) (fun c229 => ?_) (fun c229 => ?_)
                      · refine lv_iload_n hx hb dX1_code_165 rfl (lv_at hl 3 rfl) ?_
                        refine lv_bipush (v := 10) hx hb dX1_code_166 (by decide) ?_
                        refine lv_icmp_ne (tgt := 176) hx hb dX1_code_168 (by decide) (fun c230 => ?_) (fun c230 => ?_)
                        · refine lv_iload_n hx hb dX1_code_176 rfl (lv_at hl 3 rfl) ?_
                          refine lv_bipush (v := 9) hx hb dX1_code_177 (by decide) ?_
                          refine lv_icmp_ne (tgt := 187) hx hb dX1_code_179 (by decide) (fun c231 => ?_) (fun c231 => ?_)
                          · refine lv_iload_n hx hb dX1_code_187 rfl (lv_at hl 3 rfl) ?_
                            refine lv_bipush (v := 13) hx hb dX1_code_188 (by decide) ?_
                            refine lv_icmp_ne (tgt := 198) hx hb dX1_code_190 (by decide) (fun c232 => ?_) (fun c232 => ?_)
                            · refine lv_iconst (v := 0) hx hb dX1_code_198 (by decide) ?_
                              refine lv_istore_n (lv' := [(3, .int 0), (2, .int t222), (0, .ref m0), (1, .int x1)]) hx hb dX1_code_199 rfl hl (by decide) rfl (fun ls hl => ?_)
                              refine lv_iload_n hx hb dX1_code_200 rfl (lv_at hl 0 rfl) ?_
                              refine lv_if_le (tgt := 224) hx hb dX1_code_201 (by decide) (fun c233 => ?_) (fun c233 => ?_)
                              · refine lv_iconst (v := 1) hx hb dX1_code_224 (by decide) ?_
                                have hres : 1 = (mk_code (ro, sz, op, kd, tk, la, li, bt, mn) x1).1 := by
                                  subst eg228 et227 et222 eg221 et220 et219
                                  first | rfl | (simp only [mk_code, mk_c3, mk_cm, mk_sb, mk_by1, mk_by2, mk_by3, mk_by4, mk_c4, mk_rem, if_neg c1, if_neg c2, if_neg c3, if_pos c135, if_pos c136, if_neg c137, if_pos c229, if_pos c230, if_pos c231, if_pos c232]; done) | (simp [mk_code, mk_c3, mk_cm, mk_sb, mk_by1, mk_by2, mk_by3, mk_by4, mk_c4, mk_rem, if_neg c1, if_neg c2, if_neg c3, if_pos c135, if_pos c136, if_neg c137, if_pos c229, if_pos c230, if_pos c231, if_pos c232]; done)
                                have hre2 : (ro, sz, op, kd, tk, la, li, g228, 2) = (mk_code (ro, sz, op, kd, tk, la, li, bt, mn) x1).2 := by
                                  subst eg228 et227 et222 eg221 et220 et219
                                  first | rfl | (simp only [mk_code, mk_c3, mk_cm, mk_sb, mk_by1, mk_by2, mk_by3, mk_by4, mk_c4, mk_rem, if_neg c1, if_neg c2, if_neg c3, if_pos c135, if_pos c136, if_neg c137, if_pos c229, if_pos c230, if_pos c231, if_pos c232]; done) | (simp [mk_code, mk_c3, mk_cm, mk_sb, mk_by1, mk_by2, mk_by3, mk_by4, mk_c4, mk_rem, if_neg c1, if_neg c2, if_neg c3, if_pos c135, if_pos c136, if_neg c137, if_pos c229, if_pos c230, if_pos c231, if_pos c232]; done)
                                exact W.zret (v := 1) (ty := .boolean) hx hb hr rfl (fun t ht hW => ⟨⟨1, (ro, sz, op, kd, tk, la, li, g228, 2), rfl, ⟨hres, hre2⟩, by show va_P D vwCl _ t.heap; rw [ht]; exact hP⟩, hS.F ht⟩) hS.2.2 dX1_code_225
                              · exact absurd c233 (by decide)
                            · refine lv_bipush (v := 114) hx hb dX1_code_193 (by decide) ?_
                              refine lv_goto (tgt := 199) hx hb dX1_code_195 (by decide) ?_
                              refine lv_istore_n (lv' := [(3, .int 114), (2, .int t222), (0, .ref m0), (1, .int x1)]) hx hb dX1_code_199 rfl hl (by decide) rfl (fun ls hl => ?_)
                              refine lv_iload_n hx hb dX1_code_200 rfl (lv_at hl 0 rfl) ?_
                              refine lv_if_le (tgt := 224) hx hb dX1_code_201 (by decide) (fun c234 => ?_) (fun c234 => ?_)
                              · exact absurd c234 (by decide)
                              · refine lv_aload_n hx hb dX1_code_204 rfl (lv_at hl 2 rfl) ?_
                                refine lv_iconst (v := 2) hx hb dX1_code_205 (by decide) ?_
                                refine va_put (D := D) (ci := 1) (v := .int 2) (ty := .int) (C := RX1) (T := TX1) (N := 9) hx hb hts hin tyX1 tyX1_ok nmX1 hown hK hP hD hS 0 rfl rfl 8 (by decide) lk33 (fun _ h9 => h9) rfl (by decide +kernel) rfl rfl (Nat.le_of_ble_eq_true rfl) dX1_code_206 (fun H locs hP hD hS => ?_)
                                have hP : va_P D vwCl (mkW cR cY m0 m1 m2 (ro, sz, op, kd, tk, la, li, g228, 2)) H := hP
                                have hD : va_D A (mkW cR cY m0 m1 m2 (ro, sz, op, kd, tk, la, li, g228, 2)) := hD
                                refine lv_aload_n hx hb dX1_code_209 rfl (lv_at hl 2 rfl) ?_
                                refine va_get (D := D) (ci := 1) (v := .ref m2) (C := RX1) (T := TX1) (N := 9) hx hb hts hin hown hK hP 0 rfl rfl 7 (by decide) lk20 (fun _ h9 => h9) rfl dX1_code_210 ?_
                                refine lv_iconst (v := 0) hx hb dX1_code_213 (by decide) ?_
                                refine lv_bipush (v := 92) hx hb dX1_code_214 (by decide) ?_
                                refine va_iast hx hb hK hP hD hS 2 1 rfl rfl (show ¬ ((0 : Int32) < 0 ∨ 4 ≤ (0 : Int32).toNatClampNeg) from by decide) dX1_code_216 (fun H locs hP hD hS => ?_)
                                obtain ⟨g235, eg235⟩ : ∃ y : Nat → Int32, y = upd g228 (0 : Int32).toNatClampNeg (92 : Int32) := ⟨_, rfl⟩
                                have hP : va_P D vwCl (mkW cR cY m0 m1 m2 (ro, sz, op, kd, tk, la, li, g235, 2)) H := by rw [eg235]; exact hP
                                have hD : va_D A (mkW cR cY m0 m1 m2 (ro, sz, op, kd, tk, la, li, g235, 2)) := kk_D_same hD rfl
                                refine lv_aload_n hx hb dX1_code_217 rfl (lv_at hl 2 rfl) ?_
                                refine va_get (D := D) (ci := 1) (v := .ref m2) (C := RX1) (T := TX1) (N := 9) hx hb hts hin hown hK hP 0 rfl rfl 7 (by decide) lk20 (fun _ h9 => h9) rfl dX1_code_218 ?_
                                refine lv_iconst (v := 1) hx hb dX1_code_221 (by decide) ?_
                                refine lv_iload_n hx hb dX1_code_222 rfl (lv_at hl 0 rfl) ?_
                                refine va_iast hx hb hK hP hD hS 2 1 rfl rfl (show ¬ ((1 : Int32) < 0 ∨ 4 ≤ (1 : Int32).toNatClampNeg) from by decide) dX1_code_223 (fun H locs hP hD hS => ?_)
                                obtain ⟨g236, eg236⟩ : ∃ y : Nat → Int32, y = upd g235 (1 : Int32).toNatClampNeg (114 : Int32) := ⟨_, rfl⟩
                                have hP : va_P D vwCl (mkW cR cY m0 m1 m2 (ro, sz, op, kd, tk, la, li, g236, 2)) H := by rw [eg236]; exact hP
                                have hD : va_D A (mkW cR cY m0 m1 m2 (ro, sz, op, kd, tk, la, li, g236, 2)) := kk_D_same hD rfl
                                refine lv_iconst (v := 1) hx hb dX1_code_224 (by decide) ?_
                                have hres : 1 = (mk_code (ro, sz, op, kd, tk, la, li, bt, mn) x1).1 := by
                                  subst eg236 eg235 eg228 et227 et222 eg221 et220 et219
                                  first | rfl | (simp only [mk_code, mk_c3, mk_cm, mk_sb, mk_by1, mk_by2, mk_by3, mk_by4, mk_c4, mk_rem, if_neg c1, if_neg c2, if_neg c3, if_pos c135, if_pos c136, if_neg c137, if_pos c229, if_pos c230, if_pos c231, if_neg (not_not_intro c232)]; done) | (simp [mk_code, mk_c3, mk_cm, mk_sb, mk_by1, mk_by2, mk_by3, mk_by4, mk_c4, mk_rem, if_neg c1, if_neg c2, if_neg c3, if_pos c135, if_pos c136, if_neg c137, if_pos c229, if_pos c230, if_pos c231, if_neg (not_not_intro c232)]; done)
                                have hre2 : (ro, sz, op, kd, tk, la, li, g236, 2) = (mk_code (ro, sz, op, kd, tk, la, li, bt, mn) x1).2 := by
                                  subst eg236 eg235 eg228 et227 et222 eg221 et220 et219
                                  first | rfl | (simp only [mk_code, mk_c3, mk_cm, mk_sb, mk_by1, mk_by2, mk_by3, mk_by4, mk_c4, mk_rem, if_neg c1, if_neg c2, if_neg c3, if_pos c135, if_pos c136, if_neg c137, if_pos c229, if_pos c230, if_pos c231, if_neg (not_not_intro c232)]; done) | (simp [mk_code, mk_c3, mk_cm, mk_sb, mk_by1, mk_by2, mk_by3, mk_by4, mk_c4, mk_rem, if_neg c1, if_neg c2, if_neg c3, if_pos c135, if_pos c136, if_neg c137, if_pos c229, if_pos c230, if_pos c231, if_neg (not_not_intro c232)]; done)
                                exact W.zret (v := 1) (ty := .boolean) hx hb hr rfl (fun t ht hW => ⟨⟨1, (ro, sz, op, kd, tk, la, li, g236, 2), rfl, ⟨hres, hre2⟩, by show va_P D vwCl _ t.heap; rw [ht]; exact hP⟩, hS.F ht⟩) hS.2.2 dX1_code_225
                          · refine lv_bipush (v := 116) hx hb dX1_code_182 (by decide) ?_
                            refine lv_goto (tgt := 199) hx hb dX1_code_184 (by decide) ?_
                            refine lv_istore_n (lv' := [(3, .int 116), (2, .int t222), (0, .ref m0), (1, .int x1)]) hx hb dX1_code_199 rfl hl (by decide) rfl (fun ls hl => ?_)
                            refine lv_iload_n hx hb dX1_code_200 rfl (lv_at hl 0 rfl) ?_
                            refine lv_if_le (tgt := 224) hx hb dX1_code_201 (by decide) (fun c237 => ?_) (fun c237 => ?_)
                            · exact absurd c237 (by decide)
                            · refine lv_aload_n hx hb dX1_code_204 rfl (lv_at hl 2 rfl) ?_
                              refine lv_iconst (v := 2) hx hb dX1_code_205 (by decide) ?_
                              refine va_put (D := D) (ci := 1) (v := .int 2) (ty := .int) (C := RX1) (T := TX1) (N := 9) hx hb hts hin tyX1 tyX1_ok nmX1 hown hK hP hD hS 0 rfl rfl 8 (by decide) lk33 (fun _ h9 => h9) rfl (by decide +kernel) rfl rfl (Nat.le_of_ble_eq_true rfl) dX1_code_206 (fun H locs hP hD hS => ?_)
                              have hP : va_P D vwCl (mkW cR cY m0 m1 m2 (ro, sz, op, kd, tk, la, li, g228, 2)) H := hP
                              have hD : va_D A (mkW cR cY m0 m1 m2 (ro, sz, op, kd, tk, la, li, g228, 2)) := hD
                              refine lv_aload_n hx hb dX1_code_209 rfl (lv_at hl 2 rfl) ?_
                              refine va_get (D := D) (ci := 1) (v := .ref m2) (C := RX1) (T := TX1) (N := 9) hx hb hts hin hown hK hP 0 rfl rfl 7 (by decide) lk20 (fun _ h9 => h9) rfl dX1_code_210 ?_
                              refine lv_iconst (v := 0) hx hb dX1_code_213 (by decide) ?_
                              refine lv_bipush (v := 92) hx hb dX1_code_214 (by decide) ?_
                              refine va_iast hx hb hK hP hD hS 2 1 rfl rfl (show ¬ ((0 : Int32) < 0 ∨ 4 ≤ (0 : Int32).toNatClampNeg) from by decide) dX1_code_216 (fun H locs hP hD hS => ?_)
                              obtain ⟨g238, eg238⟩ : ∃ y : Nat → Int32, y = upd g228 (0 : Int32).toNatClampNeg (92 : Int32) := ⟨_, rfl⟩
                              have hP : va_P D vwCl (mkW cR cY m0 m1 m2 (ro, sz, op, kd, tk, la, li, g238, 2)) H := by rw [eg238]; exact hP
                              have hD : va_D A (mkW cR cY m0 m1 m2 (ro, sz, op, kd, tk, la, li, g238, 2)) := kk_D_same hD rfl
                              refine lv_aload_n hx hb dX1_code_217 rfl (lv_at hl 2 rfl) ?_
                              refine va_get (D := D) (ci := 1) (v := .ref m2) (C := RX1) (T := TX1) (N := 9) hx hb hts hin hown hK hP 0 rfl rfl 7 (by decide) lk20 (fun _ h9 => h9) rfl dX1_code_218 ?_
                              refine lv_iconst (v := 1) hx hb dX1_code_221 (by decide) ?_
                              refine lv_iload_n hx hb dX1_code_222 rfl (lv_at hl 0 rfl) ?_
                              refine va_iast hx hb hK hP hD hS 2 1 rfl rfl (show ¬ ((1 : Int32) < 0 ∨ 4 ≤ (1 : Int32).toNatClampNeg) from by decide) dX1_code_223 (fun H locs hP hD hS => ?_)
                              obtain ⟨g239, eg239⟩ : ∃ y : Nat → Int32, y = upd g238 (1 : Int32).toNatClampNeg (116 : Int32) := ⟨_, rfl⟩
                              have hP : va_P D vwCl (mkW cR cY m0 m1 m2 (ro, sz, op, kd, tk, la, li, g239, 2)) H := by rw [eg239]; exact hP
                              have hD : va_D A (mkW cR cY m0 m1 m2 (ro, sz, op, kd, tk, la, li, g239, 2)) := kk_D_same hD rfl
                              refine lv_iconst (v := 1) hx hb dX1_code_224 (by decide) ?_
                              have hres : 1 = (mk_code (ro, sz, op, kd, tk, la, li, bt, mn) x1).1 := by
                                subst eg239 eg238 eg228 et227 et222 eg221 et220 et219
                                first | rfl | (simp only [mk_code, mk_c3, mk_cm, mk_sb, mk_by1, mk_by2, mk_by3, mk_by4, mk_c4, mk_rem, if_neg c1, if_neg c2, if_neg c3, if_pos c135, if_pos c136, if_neg c137, if_pos c229, if_pos c230, if_neg (not_not_intro c231)]; done) | (simp [mk_code, mk_c3, mk_cm, mk_sb, mk_by1, mk_by2, mk_by3, mk_by4, mk_c4, mk_rem, if_neg c1, if_neg c2, if_neg c3, if_pos c135, if_pos c136, if_neg c137, if_pos c229, if_pos c230, if_neg (not_not_intro c231)]; done)
                              have hre2 : (ro, sz, op, kd, tk, la, li, g239, 2) = (mk_code (ro, sz, op, kd, tk, la, li, bt, mn) x1).2 := by
                                subst eg239 eg238 eg228 et227 et222 eg221 et220 et219
                                first | rfl | (simp only [mk_code, mk_c3, mk_cm, mk_sb, mk_by1, mk_by2, mk_by3, mk_by4, mk_c4, mk_rem, if_neg c1, if_neg c2, if_neg c3, if_pos c135, if_pos c136, if_neg c137, if_pos c229, if_pos c230, if_neg (not_not_intro c231)]; done) | (simp [mk_code, mk_c3, mk_cm, mk_sb, mk_by1, mk_by2, mk_by3, mk_by4, mk_c4, mk_rem, if_neg c1, if_neg c2, if_neg c3, if_pos c135, if_pos c136, if_neg c137, if_pos c229, if_pos c230, if_neg (not_not_intro c231)]; done)
                              exact W.zret (v := 1) (ty := .boolean) hx hb hr rfl (fun t ht hW => ⟨⟨1, (ro, sz, op, kd, tk, la, li, g239, 2), rfl, ⟨hres, hre2⟩, by show va_P D vwCl _ t.heap; rw [ht]; exact hP⟩, hS.F ht⟩) hS.2.2 dX1_code_225
                        · refine lv_bipush (v := 110) hx hb dX1_code_171 (by decide) ?_
                          refine lv_goto (tgt := 199) hx hb dX1_code_173 (by decide) ?_
                          refine lv_istore_n (lv' := [(3, .int 110), (2, .int t222), (0, .ref m0), (1, .int x1)]) hx hb dX1_code_199 rfl hl (by decide) rfl (fun ls hl => ?_)
                          refine lv_iload_n hx hb dX1_code_200 rfl (lv_at hl 0 rfl) ?_
                          refine lv_if_le (tgt := 224) hx hb dX1_code_201 (by decide) (fun c240 => ?_) (fun c240 => ?_)
                          · exact absurd c240 (by decide)
                          · refine lv_aload_n hx hb dX1_code_204 rfl (lv_at hl 2 rfl) ?_
                            refine lv_iconst (v := 2) hx hb dX1_code_205 (by decide) ?_
                            refine va_put (D := D) (ci := 1) (v := .int 2) (ty := .int) (C := RX1) (T := TX1) (N := 9) hx hb hts hin tyX1 tyX1_ok nmX1 hown hK hP hD hS 0 rfl rfl 8 (by decide) lk33 (fun _ h9 => h9) rfl (by decide +kernel) rfl rfl (Nat.le_of_ble_eq_true rfl) dX1_code_206 (fun H locs hP hD hS => ?_)
                            have hP : va_P D vwCl (mkW cR cY m0 m1 m2 (ro, sz, op, kd, tk, la, li, g228, 2)) H := hP
                            have hD : va_D A (mkW cR cY m0 m1 m2 (ro, sz, op, kd, tk, la, li, g228, 2)) := hD
                            refine lv_aload_n hx hb dX1_code_209 rfl (lv_at hl 2 rfl) ?_
                            refine va_get (D := D) (ci := 1) (v := .ref m2) (C := RX1) (T := TX1) (N := 9) hx hb hts hin hown hK hP 0 rfl rfl 7 (by decide) lk20 (fun _ h9 => h9) rfl dX1_code_210 ?_
                            refine lv_iconst (v := 0) hx hb dX1_code_213 (by decide) ?_
                            refine lv_bipush (v := 92) hx hb dX1_code_214 (by decide) ?_
                            refine va_iast hx hb hK hP hD hS 2 1 rfl rfl (show ¬ ((0 : Int32) < 0 ∨ 4 ≤ (0 : Int32).toNatClampNeg) from by decide) dX1_code_216 (fun H locs hP hD hS => ?_)
                            obtain ⟨g241, eg241⟩ : ∃ y : Nat → Int32, y = upd g228 (0 : Int32).toNatClampNeg (92 : Int32) := ⟨_, rfl⟩
                            have hP : va_P D vwCl (mkW cR cY m0 m1 m2 (ro, sz, op, kd, tk, la, li, g241, 2)) H := by rw [eg241]; exact hP
                            have hD : va_D A (mkW cR cY m0 m1 m2 (ro, sz, op, kd, tk, la, li, g241, 2)) := kk_D_same hD rfl
                            refine lv_aload_n hx hb dX1_code_217 rfl (lv_at hl 2 rfl) ?_
                            refine va_get (D := D) (ci := 1) (v := .ref m2) (C := RX1) (T := TX1) (N := 9) hx hb hts hin hown hK hP 0 rfl rfl 7 (by decide) lk20 (fun _ h9 => h9) rfl dX1_code_218 ?_
                            refine lv_iconst (v := 1) hx hb dX1_code_221 (by decide) ?_
                            refine lv_iload_n hx hb dX1_code_222 rfl (lv_at hl 0 rfl) ?_
                            refine va_iast hx hb hK hP hD hS 2 1 rfl rfl (show ¬ ((1 : Int32) < 0 ∨ 4 ≤ (1 : Int32).toNatClampNeg) from by decide) dX1_code_223 (fun H locs hP hD hS => ?_)
                            obtain ⟨g242, eg242⟩ : ∃ y : Nat → Int32, y = upd g241 (1 : Int32).toNatClampNeg (110 : Int32) := ⟨_, rfl⟩
                            have hP : va_P D vwCl (mkW cR cY m0 m1 m2 (ro, sz, op, kd, tk, la, li, g242, 2)) H := by rw [eg242]; exact hP
                            have hD : va_D A (mkW cR cY m0 m1 m2 (ro, sz, op, kd, tk, la, li, g242, 2)) := kk_D_same hD rfl
                            refine lv_iconst (v := 1) hx hb dX1_code_224 (by decide) ?_
                            have hres : 1 = (mk_code (ro, sz, op, kd, tk, la, li, bt, mn) x1).1 := by
                              subst eg242 eg241 eg228 et227 et222 eg221 et220 et219
                              first | rfl | (simp only [mk_code, mk_c3, mk_cm, mk_sb, mk_by1, mk_by2, mk_by3, mk_by4, mk_c4, mk_rem, if_neg c1, if_neg c2, if_neg c3, if_pos c135, if_pos c136, if_neg c137, if_pos c229, if_neg (not_not_intro c230)]; done) | (simp [mk_code, mk_c3, mk_cm, mk_sb, mk_by1, mk_by2, mk_by3, mk_by4, mk_c4, mk_rem, if_neg c1, if_neg c2, if_neg c3, if_pos c135, if_pos c136, if_neg c137, if_pos c229, if_neg (not_not_intro c230)]; done)
                            have hre2 : (ro, sz, op, kd, tk, la, li, g242, 2) = (mk_code (ro, sz, op, kd, tk, la, li, bt, mn) x1).2 := by
                              subst eg242 eg241 eg228 et227 et222 eg221 et220 et219
                              first | rfl | (simp only [mk_code, mk_c3, mk_cm, mk_sb, mk_by1, mk_by2, mk_by3, mk_by4, mk_c4, mk_rem, if_neg c1, if_neg c2, if_neg c3, if_pos c135, if_pos c136, if_neg c137, if_pos c229, if_neg (not_not_intro c230)]; done) | (simp [mk_code, mk_c3, mk_cm, mk_sb, mk_by1, mk_by2, mk_by3, mk_by4, mk_c4, mk_rem, if_neg c1, if_neg c2, if_neg c3, if_pos c135, if_pos c136, if_neg c137, if_pos c229, if_neg (not_not_intro c230)]; done)
                            exact W.zret (v := 1) (ty := .boolean) hx hb hr rfl (fun t ht hW => ⟨⟨1, (ro, sz, op, kd, tk, la, li, g242, 2), rfl, ⟨hres, hre2⟩, by show va_P D vwCl _ t.heap; rw [ht]; exact hP⟩, hS.F ht⟩) hS.2.2 dX1_code_225
                      · refine lv_bipush (v := 92) hx hb dX1_code_160 (by decide) ?_
                        refine lv_goto (tgt := 199) hx hb dX1_code_162 (by decide) ?_
                        refine lv_istore_n (lv' := [(3, .int 92), (2, .int t222), (0, .ref m0), (1, .int x1)]) hx hb dX1_code_199 rfl hl (by decide) rfl (fun ls hl => ?_)
                        refine lv_iload_n hx hb dX1_code_200 rfl (lv_at hl 0 rfl) ?_
                        refine lv_if_le (tgt := 224) hx hb dX1_code_201 (by decide) (fun c243 => ?_) (fun c243 => ?_)
                        · exact absurd c243 (by decide)
                        · refine lv_aload_n hx hb dX1_code_204 rfl (lv_at hl 2 rfl) ?_
                          refine lv_iconst (v := 2) hx hb dX1_code_205 (by decide) ?_
                          refine va_put (D := D) (ci := 1) (v := .int 2) (ty := .int) (C := RX1) (T := TX1) (N := 9) hx hb hts hin tyX1 tyX1_ok nmX1 hown hK hP hD hS 0 rfl rfl 8 (by decide) lk33 (fun _ h9 => h9) rfl (by decide +kernel) rfl rfl (Nat.le_of_ble_eq_true rfl) dX1_code_206 (fun H locs hP hD hS => ?_)
                          have hP : va_P D vwCl (mkW cR cY m0 m1 m2 (ro, sz, op, kd, tk, la, li, g228, 2)) H := hP
                          have hD : va_D A (mkW cR cY m0 m1 m2 (ro, sz, op, kd, tk, la, li, g228, 2)) := hD
                          refine lv_aload_n hx hb dX1_code_209 rfl (lv_at hl 2 rfl) ?_
                          refine va_get (D := D) (ci := 1) (v := .ref m2) (C := RX1) (T := TX1) (N := 9) hx hb hts hin hown hK hP 0 rfl rfl 7 (by decide) lk20 (fun _ h9 => h9) rfl dX1_code_210 ?_
                          refine lv_iconst (v := 0) hx hb dX1_code_213 (by decide) ?_
                          refine lv_bipush (v := 92) hx hb dX1_code_214 (by decide) ?_
                          refine va_iast hx hb hK hP hD hS 2 1 rfl rfl (show ¬ ((0 : Int32) < 0 ∨ 4 ≤ (0 : Int32).toNatClampNeg) from by decide) dX1_code_216 (fun H locs hP hD hS => ?_)
                          obtain ⟨g244, eg244⟩ : ∃ y : Nat → Int32, y = upd g228 (0 : Int32).toNatClampNeg (92 : Int32) := ⟨_, rfl⟩
                          have hP : va_P D vwCl (mkW cR cY m0 m1 m2 (ro, sz, op, kd, tk, la, li, g244, 2)) H := by rw [eg244]; exact hP
                          have hD : va_D A (mkW cR cY m0 m1 m2 (ro, sz, op, kd, tk, la, li, g244, 2)) := kk_D_same hD rfl
                          refine lv_aload_n hx hb dX1_code_217 rfl (lv_at hl 2 rfl) ?_
                          refine va_get (D := D) (ci := 1) (v := .ref m2) (C := RX1) (T := TX1) (N := 9) hx hb hts hin hown hK hP 0 rfl rfl 7 (by decide) lk20 (fun _ h9 => h9) rfl dX1_code_218 ?_
                          refine lv_iconst (v := 1) hx hb dX1_code_221 (by decide) ?_
                          refine lv_iload_n hx hb dX1_code_222 rfl (lv_at hl 0 rfl) ?_
                          refine va_iast hx hb hK hP hD hS 2 1 rfl rfl (show ¬ ((1 : Int32) < 0 ∨ 4 ≤ (1 : Int32).toNatClampNeg) from by decide) dX1_code_223 (fun H locs hP hD hS => ?_)
                          obtain ⟨g245, eg245⟩ : ∃ y : Nat → Int32, y = upd g244 (1 : Int32).toNatClampNeg (92 : Int32) := ⟨_, rfl⟩
                          have hP : va_P D vwCl (mkW cR cY m0 m1 m2 (ro, sz, op, kd, tk, la, li, g245, 2)) H := by rw [eg245]; exact hP
                          have hD : va_D A (mkW cR cY m0 m1 m2 (ro, sz, op, kd, tk, la, li, g245, 2)) := kk_D_same hD rfl
                          refine lv_iconst (v := 1) hx hb dX1_code_224 (by decide) ?_
                          have hres : 1 = (mk_code (ro, sz, op, kd, tk, la, li, bt, mn) x1).1 := by
                            subst eg245 eg244 eg228 et227 et222 eg221 et220 et219
                            first | rfl | (simp only [mk_code, mk_c3, mk_cm, mk_sb, mk_by1, mk_by2, mk_by3, mk_by4, mk_c4, mk_rem, if_neg c1, if_neg c2, if_neg c3, if_pos c135, if_pos c136, if_neg c137, if_neg (not_not_intro c229)]; done) | (simp [mk_code, mk_c3, mk_cm, mk_sb, mk_by1, mk_by2, mk_by3, mk_by4, mk_c4, mk_rem, if_neg c1, if_neg c2, if_neg c3, if_pos c135, if_pos c136, if_neg c137, if_neg (not_not_intro c229)]; done)
                          have hre2 : (ro, sz, op, kd, tk, la, li, g245, 2) = (mk_code (ro, sz, op, kd, tk, la, li, bt, mn) x1).2 := by
                            subst eg245 eg244 eg228 et227 et222 eg221 et220 et219
                            first | rfl | (simp only [mk_code, mk_c3, mk_cm, mk_sb, mk_by1, mk_by2, mk_by3, mk_by4, mk_c4, mk_rem, if_neg c1, if_neg c2, if_neg c3, if_pos c135, if_pos c136, if_neg c137, if_neg (not_not_intro c229)]; done) | (simp [mk_code, mk_c3, mk_cm, mk_sb, mk_by1, mk_by2, mk_by3, mk_by4, mk_c4, mk_rem, if_neg c1, if_neg c2, if_neg c3, if_pos c135, if_pos c136, if_neg c137, if_neg (not_not_intro c229)]; done)
                          exact W.zret (v := 1) (ty := .boolean) hx hb hr rfl (fun t ht hW => ⟨⟨1, (ro, sz, op, kd, tk, la, li, g245, 2), rfl, ⟨hres, hre2⟩, by show va_P D vwCl _ t.heap; rw [ht]; exact hP⟩, hS.F ht⟩) hS.2.2 dX1_code_225
                  · exact absurd c225 (by decide)
                · exact absurd c224 (by decide)
          · refine lv_iconst (v := 1) hx hb dX1_code_32 (by decide) ?_
            refine lv_goto (tgt := 58) hx hb dX1_code_33 (by decide) ?_
            refine va_put (D := D) (ci := 1) (v := .int 1) (ty := .int) (C := RX1) (T := TX1) (N := 9) hx hb hts hin tyX1 tyX1_ok nmX1 hown hK hP hD hS 0 rfl rfl 8 (by decide) lk33 (fun _ h9 => h9) rfl (by decide +kernel) rfl rfl (Nat.le_of_ble_eq_true rfl) dX1_code_58 (fun H locs hP hD hS => ?_)
            have hP : va_P D vwCl (mkW cR cY m0 m1 m2 (ro, sz, op, kd, tk, la, li, bt, 1)) H := hP
            have hD : va_D A (mkW cR cY m0 m1 m2 (ro, sz, op, kd, tk, la, li, bt, 1)) := hD
            refine lv_iload_n hx hb dX1_code_61 rfl (lv_at hl 1 rfl) ?_
            refine lv_istore_n (lv' := [(2, .int x1), (0, .ref m0), (1, .int x1)]) hx hb dX1_code_62 rfl hl (by decide) rfl (fun ls hl => ?_)
            refine lv_aload_n hx hb dX1_code_63 rfl (lv_at hl 1 rfl) ?_
            refine va_get (D := D) (ci := 1) (v := .int 1) (C := RX1) (T := TX1) (N := 9) hx hb hts hin hown hK hP 0 rfl rfl 8 (by decide) lk33 (fun _ h9 => h9) rfl dX1_code_64 ?_
            refine lv_iconst (v := 1) hx hb dX1_code_67 (by decide) ?_
            refine lv_isub hx hb dX1_code_68 ?_
            refine lv_topi (fun t246 et246 => ?_)
            obtain rfl : t246 = 0 := by rw [et246]; decide
            refine lv_istore_n (lv' := [(3, .int 0), (2, .int x1), (0, .ref m0), (1, .int x1)]) hx hb dX1_code_69 rfl hl (by decide) rfl (fun ls hl => ?_)
            refine lv_iload_n hx hb dX1_code_70 rfl (lv_at hl 0 rfl) ?_
            refine lv_if_le (tgt := 99) hx hb dX1_code_71 (by decide) (fun c247 => ?_) (fun c247 => ?_)
            · refine lv_aload_n hx hb dX1_code_99 rfl (lv_at hl 2 rfl) ?_
              refine va_get (D := D) (ci := 1) (v := .ref m2) (C := RX1) (T := TX1) (N := 9) hx hb hts hin hown hK hP 0 rfl rfl 7 (by decide) lk20 (fun _ h9 => h9) rfl dX1_code_100 ?_
              refine lv_iconst (v := 0) hx hb dX1_code_103 (by decide) ?_
              refine lv_aload_n hx hb dX1_code_104 rfl (lv_at hl 2 rfl) ?_
              refine va_get (D := D) (ci := 1) (v := .int 1) (C := RX1) (T := TX1) (N := 9) hx hb hts hin hown hK hP 0 rfl rfl 8 (by decide) lk33 (fun _ h9 => h9) rfl dX1_code_105 ?_
              refine lv_iconst (v := 1) hx hb dX1_code_108 (by decide) ?_
              refine lv_icmp_ne (tgt := 116) hx hb dX1_code_109 (by decide) (fun c248 => ?_) (fun c248 => ?_)
              · exact absurd c248 (by decide)
              · refine lv_iload_n hx hb dX1_code_112 rfl (lv_at hl 1 rfl) ?_
                refine lv_goto (tgt := 153) hx hb dX1_code_113 (by decide) ?_
                refine va_iast hx hb hK hP hD hS 2 1 rfl rfl (show ¬ ((0 : Int32) < 0 ∨ 4 ≤ (0 : Int32).toNatClampNeg) from by decide) dX1_code_153 (fun H locs hP hD hS => ?_)
                obtain ⟨g249, eg249⟩ : ∃ y : Nat → Int32, y = upd bt (0 : Int32).toNatClampNeg x1 := ⟨_, rfl⟩
                have hP : va_P D vwCl (mkW cR cY m0 m1 m2 (ro, sz, op, kd, tk, la, li, g249, 1)) H := by rw [eg249]; exact hP
                have hD : va_D A (mkW cR cY m0 m1 m2 (ro, sz, op, kd, tk, la, li, g249, 1)) := kk_D_same hD rfl
                refine lv_iload_n hx hb dX1_code_154 rfl (lv_at hl 3 rfl) ?_
                refine lv_bipush (v := 92) hx hb dX1_code_155 (by decide) ?_
                refine lv_icmp_ne (tgt := 165) hx hb dX1_code_157 (by decide) (fun c250 => ?_) (fun c250 => ?_)
                · refine lv_iload_n hx hb dX1_code_165 rfl (lv_at hl 3 rfl) ?_
                  refine lv_bipush (v := 10) hx hb dX1_code_166 (by decide) ?_
                  refine lv_icmp_ne (tgt := 176) hx hb dX1_code_168 (by decide) (fun c251 => ?_) (fun c251 => ?_)
                  · refine lv_iload_n hx hb dX1_code_176 rfl (lv_at hl 3 rfl) ?_
                    refine lv_bipush (v := 9) hx hb dX1_code_177 (by decide) ?_
                    refine lv_icmp_ne (tgt := 187) hx hb dX1_code_179 (by decide) (fun c252 => ?_) (fun c252 => ?_)
                    · refine lv_iload_n hx hb dX1_code_187 rfl (lv_at hl 3 rfl) ?_
                      refine lv_bipush (v := 13) hx hb dX1_code_188 (by decide) ?_
                      refine lv_icmp_ne (tgt := 198) hx hb dX1_code_190 (by decide) (fun c253 => ?_) (fun c253 => ?_)
                      · refine lv_iconst (v := 0) hx hb dX1_code_198 (by decide) ?_
                        refine lv_istore_n (lv' := [(3, .int 0), (2, .int x1), (0, .ref m0), (1, .int x1)]) hx hb dX1_code_199 rfl hl (by decide) rfl (fun ls hl => ?_)
                        refine lv_iload_n hx hb dX1_code_200 rfl (lv_at hl 0 rfl) ?_
                        refine lv_if_le (tgt := 224) hx hb dX1_code_201 (by decide) (fun c254 => ?_) (fun c254 => ?_)
                        · refine lv_iconst (v := 1) hx hb dX1_code_224 (by decide) ?_
                          have hres : 1 = (mk_code (ro, sz, op, kd, tk, la, li, bt, mn) x1).1 := by
                            subst eg249
                            first | rfl | (simp only [mk_code, mk_c3, mk_cm, mk_sb, mk_by1, mk_by2, mk_by3, mk_by4, mk_c4, mk_rem, if_neg c1, if_neg c2, if_neg c3, if_pos c135, if_neg c136, if_pos c250, if_pos c251, if_pos c252, if_pos c253]; done) | (simp [mk_code, mk_c3, mk_cm, mk_sb, mk_by1, mk_by2, mk_by3, mk_by4, mk_c4, mk_rem, if_neg c1, if_neg c2, if_neg c3, if_pos c135, if_neg c136, if_pos c250, if_pos c251, if_pos c252, if_pos c253]; done)
                          have hre2 : (ro, sz, op, kd, tk, la, li, g249, 1) = (mk_code (ro, sz, op, kd, tk, la, li, bt, mn) x1).2 := by
                            subst eg249
                            first | rfl | (simp only [mk_code, mk_c3, mk_cm, mk_sb, mk_by1, mk_by2, mk_by3, mk_by4, mk_c4, mk_rem, if_neg c1, if_neg c2, if_neg c3, if_pos c135, if_neg c136, if_pos c250, if_pos c251, if_pos c252, if_pos c253]; done) | (simp [mk_code, mk_c3, mk_cm, mk_sb, mk_by1, mk_by2, mk_by3, mk_by4, mk_c4, mk_rem, if_neg c1, if_neg c2, if_neg c3, if_pos c135, if_neg c136, if_pos c250, if_pos c251, if_pos c252, if_pos c253]; done)
                          exact W.zret (v := 1) (ty := .boolean) hx hb hr rfl (fun t ht hW => ⟨⟨1, (ro, sz, op, kd, tk, la, li, g249, 1), rfl, ⟨hres, hre2⟩, by show va_P D vwCl _ t.heap; rw [ht]; exact hP⟩, hS.F ht⟩) hS.2.2 dX1_code_225
                        · exact absurd c254 (by decide)
                      · refine lv_bipush (v := 114) hx hb dX1_code_193 (by decide) ?_
                        refine lv_goto (tgt := 199) hx hb dX1_code_195 (by decide) ?_
                        refine lv_istore_n (lv' := [(3, .int 114), (2, .int x1), (0, .ref m0), (1, .int x1)]) hx hb dX1_code_199 rfl hl (by decide) rfl (fun ls hl => ?_)
                        refine lv_iload_n hx hb dX1_code_200 rfl (lv_at hl 0 rfl) ?_
                        refine lv_if_le (tgt := 224) hx hb dX1_code_201 (by decide) (fun c255 => ?_) (fun c255 => ?_)
                        · exact absurd c255 (by decide)
                        · refine lv_aload_n hx hb dX1_code_204 rfl (lv_at hl 2 rfl) ?_
                          refine lv_iconst (v := 2) hx hb dX1_code_205 (by decide) ?_
                          refine va_put (D := D) (ci := 1) (v := .int 2) (ty := .int) (C := RX1) (T := TX1) (N := 9) hx hb hts hin tyX1 tyX1_ok nmX1 hown hK hP hD hS 0 rfl rfl 8 (by decide) lk33 (fun _ h9 => h9) rfl (by decide +kernel) rfl rfl (Nat.le_of_ble_eq_true rfl) dX1_code_206 (fun H locs hP hD hS => ?_)
                          have hP : va_P D vwCl (mkW cR cY m0 m1 m2 (ro, sz, op, kd, tk, la, li, g249, 2)) H := hP
                          have hD : va_D A (mkW cR cY m0 m1 m2 (ro, sz, op, kd, tk, la, li, g249, 2)) := hD
                          refine lv_aload_n hx hb dX1_code_209 rfl (lv_at hl 2 rfl) ?_
                          refine va_get (D := D) (ci := 1) (v := .ref m2) (C := RX1) (T := TX1) (N := 9) hx hb hts hin hown hK hP 0 rfl rfl 7 (by decide) lk20 (fun _ h9 => h9) rfl dX1_code_210 ?_
                          refine lv_iconst (v := 0) hx hb dX1_code_213 (by decide) ?_
                          refine lv_bipush (v := 92) hx hb dX1_code_214 (by decide) ?_
                          refine va_iast hx hb hK hP hD hS 2 1 rfl rfl (show ¬ ((0 : Int32) < 0 ∨ 4 ≤ (0 : Int32).toNatClampNeg) from by decide) dX1_code_216 (fun H locs hP hD hS => ?_)
                          obtain ⟨g256, eg256⟩ : ∃ y : Nat → Int32, y = upd g249 (0 : Int32).toNatClampNeg (92 : Int32) := ⟨_, rfl⟩
                          have hP : va_P D vwCl (mkW cR cY m0 m1 m2 (ro, sz, op, kd, tk, la, li, g256, 2)) H := by rw [eg256]; exact hP
                          have hD : va_D A (mkW cR cY m0 m1 m2 (ro, sz, op, kd, tk, la, li, g256, 2)) := kk_D_same hD rfl
                          refine lv_aload_n hx hb dX1_code_217 rfl (lv_at hl 2 rfl) ?_
                          refine va_get (D := D) (ci := 1) (v := .ref m2) (C := RX1) (T := TX1) (N := 9) hx hb hts hin hown hK hP 0 rfl rfl 7 (by decide) lk20 (fun _ h9 => h9) rfl dX1_code_218 ?_
                          refine lv_iconst (v := 1) hx hb dX1_code_221 (by decide) ?_
                          refine lv_iload_n hx hb dX1_code_222 rfl (lv_at hl 0 rfl) ?_
                          refine va_iast hx hb hK hP hD hS 2 1 rfl rfl (show ¬ ((1 : Int32) < 0 ∨ 4 ≤ (1 : Int32).toNatClampNeg) from by decide) dX1_code_223 (fun H locs hP hD hS => ?_)
                          obtain ⟨g257, eg257⟩ : ∃ y : Nat → Int32, y = upd g256 (1 : Int32).toNatClampNeg (114 : Int32) := ⟨_, rfl⟩
                          have hP : va_P D vwCl (mkW cR cY m0 m1 m2 (ro, sz, op, kd, tk, la, li, g257, 2)) H := by rw [eg257]; exact hP
                          have hD : va_D A (mkW cR cY m0 m1 m2 (ro, sz, op, kd, tk, la, li, g257, 2)) := kk_D_same hD rfl
                          refine lv_iconst (v := 1) hx hb dX1_code_224 (by decide) ?_
                          have hres : 1 = (mk_code (ro, sz, op, kd, tk, la, li, bt, mn) x1).1 := by
                            subst eg257 eg256 eg249
                            first | rfl | (simp only [mk_code, mk_c3, mk_cm, mk_sb, mk_by1, mk_by2, mk_by3, mk_by4, mk_c4, mk_rem, if_neg c1, if_neg c2, if_neg c3, if_pos c135, if_neg c136, if_pos c250, if_pos c251, if_pos c252, if_neg (not_not_intro c253)]; done) | (simp [mk_code, mk_c3, mk_cm, mk_sb, mk_by1, mk_by2, mk_by3, mk_by4, mk_c4, mk_rem, if_neg c1, if_neg c2, if_neg c3, if_pos c135, if_neg c136, if_pos c250, if_pos c251, if_pos c252, if_neg (not_not_intro c253)]; done)
                          have hre2 : (ro, sz, op, kd, tk, la, li, g257, 2) = (mk_code (ro, sz, op, kd, tk, la, li, bt, mn) x1).2 := by
                            subst eg257 eg256 eg249
                            first | rfl | (simp only [mk_code, mk_c3, mk_cm, mk_sb, mk_by1, mk_by2, mk_by3, mk_by4, mk_c4, mk_rem, if_neg c1, if_neg c2, if_neg c3, if_pos c135, if_neg c136, if_pos c250, if_pos c251, if_pos c252, if_neg (not_not_intro c253)]; done) | (simp [mk_code, mk_c3, mk_cm, mk_sb, mk_by1, mk_by2, mk_by3, mk_by4, mk_c4, mk_rem, if_neg c1, if_neg c2, if_neg c3, if_pos c135, if_neg c136, if_pos c250, if_pos c251, if_pos c252, if_neg (not_not_intro c253)]; done)
                          exact W.zret (v := 1) (ty := .boolean) hx hb hr rfl (fun t ht hW => ⟨⟨1, (ro, sz, op, kd, tk, la, li, g257, 2), rfl, ⟨hres, hre2⟩, by show va_P D vwCl _ t.heap; rw [ht]; exact hP⟩, hS.F ht⟩) hS.2.2 dX1_code_225
                    · refine lv_bipush (v := 116) hx hb dX1_code_182 (by decide) ?_
                      refine lv_goto (tgt := 199) hx hb dX1_code_184 (by decide) ?_
                      refine lv_istore_n (lv' := [(3, .int 116), (2, .int x1), (0, .ref m0), (1, .int x1)]) hx hb dX1_code_199 rfl hl (by decide) rfl (fun ls hl => ?_)
                      refine lv_iload_n hx hb dX1_code_200 rfl (lv_at hl 0 rfl) ?_
                      refine lv_if_le (tgt := 224) hx hb dX1_code_201 (by decide) (fun c258 => ?_) (fun c258 => ?_)
                      · exact absurd c258 (by decide)
                      · refine lv_aload_n hx hb dX1_code_204 rfl (lv_at hl 2 rfl) ?_
                        refine lv_iconst (v := 2) hx hb dX1_code_205 (by decide) ?_
                        refine va_put (D := D) (ci := 1) (v := .int 2) (ty := .int) (C := RX1) (T := TX1) (N := 9) hx hb hts hin tyX1 tyX1_ok nmX1 hown hK hP hD hS 0 rfl rfl 8 (by decide) lk33 (fun _ h9 => h9) rfl (by decide +kernel) rfl rfl (Nat.le_of_ble_eq_true rfl) dX1_code_206 (fun H locs hP hD hS => ?_)
                        have hP : va_P D vwCl (mkW cR cY m0 m1 m2 (ro, sz, op, kd, tk, la, li, g249, 2)) H := hP
                        have hD : va_D A (mkW cR cY m0 m1 m2 (ro, sz, op, kd, tk, la, li, g249, 2)) := hD
                        refine lv_aload_n hx hb dX1_code_209 rfl (lv_at hl 2 rfl) ?_
                        refine va_get (D := D) (ci := 1) (v := .ref m2) (C := RX1) (T := TX1) (N := 9) hx hb hts hin hown hK hP 0 rfl rfl 7 (by decide) lk20 (fun _ h9 => h9) rfl dX1_code_210 ?_
                        refine lv_iconst (v := 0) hx hb dX1_code_213 (by decide) ?_
                        refine lv_bipush (v := 92) hx hb dX1_code_214 (by decide) ?_
                        refine va_iast hx hb hK hP hD hS 2 1 rfl rfl (show ¬ ((0 : Int32) < 0 ∨ 4 ≤ (0 : Int32).toNatClampNeg) from by decide) dX1_code_216 (fun H locs hP hD hS => ?_)
                        obtain ⟨g259, eg259⟩ : ∃ y : Nat → Int32, y = upd g249 (0 : Int32).toNatClampNeg (92 : Int32) := ⟨_, rfl⟩
                        have hP : va_P D vwCl (mkW cR cY m0 m1 m2 (ro, sz, op, kd, tk, la, li, g259, 2)) H := by rw [eg259]; exact hP
                        have hD : va_D A (mkW cR cY m0 m1 m2 (ro, sz, op, kd, tk, la, li, g259, 2)) := kk_D_same hD rfl
                        refine lv_aload_n hx hb dX1_code_217 rfl (lv_at hl 2 rfl) ?_
                        refine va_get (D := D) (ci := 1) (v := .ref m2) (C := RX1) (T := TX1) (N := 9) hx hb hts hin hown hK hP 0 rfl rfl 7 (by decide) lk20 (fun _ h9 => h9) rfl dX1_code_218 ?_
                        refine lv_iconst (v := 1) hx hb dX1_code_221 (by decide) ?_
                        refine lv_iload_n hx hb dX1_code_222 rfl (lv_at hl 0 rfl) ?_
                        refine va_iast hx hb hK hP hD hS 2 1 rfl rfl (show ¬ ((1 : Int32) < 0 ∨ 4 ≤ (1 : Int32).toNatClampNeg) from by decide) dX1_code_223 (fun H locs hP hD hS => ?_)
                        obtain ⟨g260, eg260⟩ : ∃ y : Nat → Int32, y = upd g259 (1 : Int32).toNatClampNeg (116 : Int32) := ⟨_, rfl⟩
                        have hP : va_P D vwCl (mkW cR cY m0 m1 m2 (ro, sz, op, kd, tk, la, li, g260, 2)) H := by rw [eg260]; exact hP
                        have hD : va_D A (mkW cR cY m0 m1 m2 (ro, sz, op, kd, tk, la, li, g260, 2)) := kk_D_same hD rfl
                        refine lv_iconst (v := 1) hx hb dX1_code_224 (by decide) ?_
                        have hres : 1 = (mk_code (ro, sz, op, kd, tk, la, li, bt, mn) x1).1 := by
                          subst eg260 eg259 eg249
                          first | rfl | (simp only [mk_code, mk_c3, mk_cm, mk_sb, mk_by1, mk_by2, mk_by3, mk_by4, mk_c4, mk_rem, if_neg c1, if_neg c2, if_neg c3, if_pos c135, if_neg c136, if_pos c250, if_pos c251, if_neg (not_not_intro c252)]; done) | (simp [mk_code, mk_c3, mk_cm, mk_sb, mk_by1, mk_by2, mk_by3, mk_by4, mk_c4, mk_rem, if_neg c1, if_neg c2, if_neg c3, if_pos c135, if_neg c136, if_pos c250, if_pos c251, if_neg (not_not_intro c252)]; done)
                        have hre2 : (ro, sz, op, kd, tk, la, li, g260, 2) = (mk_code (ro, sz, op, kd, tk, la, li, bt, mn) x1).2 := by
                          subst eg260 eg259 eg249
                          first | rfl | (simp only [mk_code, mk_c3, mk_cm, mk_sb, mk_by1, mk_by2, mk_by3, mk_by4, mk_c4, mk_rem, if_neg c1, if_neg c2, if_neg c3, if_pos c135, if_neg c136, if_pos c250, if_pos c251, if_neg (not_not_intro c252)]; done) | (simp [mk_code, mk_c3, mk_cm, mk_sb, mk_by1, mk_by2, mk_by3, mk_by4, mk_c4, mk_rem, if_neg c1, if_neg c2, if_neg c3, if_pos c135, if_neg c136, if_pos c250, if_pos c251, if_neg (not_not_intro c252)]; done)
                        exact W.zret (v := 1) (ty := .boolean) hx hb hr rfl (fun t ht hW => ⟨⟨1, (ro, sz, op, kd, tk, la, li, g260, 2), rfl, ⟨hres, hre2⟩, by show va_P D vwCl _ t.heap; rw [ht]; exact hP⟩, hS.F ht⟩) hS.2.2 dX1_code_225
                  · refine lv_bipush (v := 110) hx hb dX1_code_171 (by decide) ?_
                    refine lv_goto (tgt := 199) hx hb dX1_code_173 (by decide) ?_
                    refine lv_istore_n (lv' := [(3, .int 110), (2, .int x1), (0, .ref m0), (1, .int x1)]) hx hb dX1_code_199 rfl hl (by decide) rfl (fun ls hl => ?_)
                    refine lv_iload_n hx hb dX1_code_200 rfl (lv_at hl 0 rfl) ?_
                    refine lv_if_le (tgt := 224) hx hb dX1_code_201 (by decide) (fun c261 => ?_) (fun c261 => ?_)
                    · exact absurd c261 (by decide)
                    · refine lv_aload_n hx hb dX1_code_204 rfl (lv_at hl 2 rfl) ?_
                      refine lv_iconst (v := 2) hx hb dX1_code_205 (by decide) ?_
                      refine va_put (D := D) (ci := 1) (v := .int 2) (ty := .int) (C := RX1) (T := TX1) (N := 9) hx hb hts hin tyX1 tyX1_ok nmX1 hown hK hP hD hS 0 rfl rfl 8 (by decide) lk33 (fun _ h9 => h9) rfl (by decide +kernel) rfl rfl (Nat.le_of_ble_eq_true rfl) dX1_code_206 (fun H locs hP hD hS => ?_)
                      have hP : va_P D vwCl (mkW cR cY m0 m1 m2 (ro, sz, op, kd, tk, la, li, g249, 2)) H := hP
                      have hD : va_D A (mkW cR cY m0 m1 m2 (ro, sz, op, kd, tk, la, li, g249, 2)) := hD
                      refine lv_aload_n hx hb dX1_code_209 rfl (lv_at hl 2 rfl) ?_
                      refine va_get (D := D) (ci := 1) (v := .ref m2) (C := RX1) (T := TX1) (N := 9) hx hb hts hin hown hK hP 0 rfl rfl 7 (by decide) lk20 (fun _ h9 => h9) rfl dX1_code_210 ?_
                      refine lv_iconst (v := 0) hx hb dX1_code_213 (by decide) ?_
                      refine lv_bipush (v := 92) hx hb dX1_code_214 (by decide) ?_
                      refine va_iast hx hb hK hP hD hS 2 1 rfl rfl (show ¬ ((0 : Int32) < 0 ∨ 4 ≤ (0 : Int32).toNatClampNeg) from by decide) dX1_code_216 (fun H locs hP hD hS => ?_)
                      obtain ⟨g262, eg262⟩ : ∃ y : Nat → Int32, y = upd g249 (0 : Int32).toNatClampNeg (92 : Int32) := ⟨_, rfl⟩
                      have hP : va_P D vwCl (mkW cR cY m0 m1 m2 (ro, sz, op, kd, tk, la, li, g262, 2)) H := by rw [eg262]; exact hP
                      have hD : va_D A (mkW cR cY m0 m1 m2 (ro, sz, op, kd, tk, la, li, g262, 2)) := kk_D_same hD rfl
                      refine lv_aload_n hx hb dX1_code_217 rfl (lv_at hl 2 rfl) ?_
                      refine va_get (D := D) (ci := 1) (v := .ref m2) (C := RX1) (T := TX1) (N := 9) hx hb hts hin hown hK hP 0 rfl rfl 7 (by decide) lk20 (fun _ h9 => h9) rfl dX1_code_218 ?_
                      refine lv_iconst (v := 1) hx hb dX1_code_221 (by decide) ?_
                      refine lv_iload_n hx hb dX1_code_222 rfl (lv_at hl 0 rfl) ?_
                      refine va_iast hx hb hK hP hD hS 2 1 rfl rfl (show ¬ ((1 : Int32) < 0 ∨ 4 ≤ (1 : Int32).toNatClampNeg) from by decide) dX1_code_223 (fun H locs hP hD hS => ?_)
                      obtain ⟨g263, eg263⟩ : ∃ y : Nat → Int32, y = upd g262 (1 : Int32).toNatClampNeg (110 : Int32) := ⟨_, rfl⟩
                      have hP : va_P D vwCl (mkW cR cY m0 m1 m2 (ro, sz, op, kd, tk, la, li, g263, 2)) H := by rw [eg263]; exact hP
                      have hD : va_D A (mkW cR cY m0 m1 m2 (ro, sz, op, kd, tk, la, li, g263, 2)) := kk_D_same hD rfl
                      refine lv_iconst (v := 1) hx hb dX1_code_224 (by decide) ?_
                      have hres : 1 = (mk_code (ro, sz, op, kd, tk, la, li, bt, mn) x1).1 := by
                        subst eg263 eg262 eg249
                        first | rfl | (simp only [mk_code, mk_c3, mk_cm, mk_sb, mk_by1, mk_by2, mk_by3, mk_by4, mk_c4, mk_rem, if_neg c1, if_neg c2, if_neg c3, if_pos c135, if_neg c136, if_pos c250, if_neg (not_not_intro c251)]; done) | (simp [mk_code, mk_c3, mk_cm, mk_sb, mk_by1, mk_by2, mk_by3, mk_by4, mk_c4, mk_rem, if_neg c1, if_neg c2, if_neg c3, if_pos c135, if_neg c136, if_pos c250, if_neg (not_not_intro c251)]; done)
                      have hre2 : (ro, sz, op, kd, tk, la, li, g263, 2) = (mk_code (ro, sz, op, kd, tk, la, li, bt, mn) x1).2 := by
                        subst eg263 eg262 eg249
                        first | rfl | (simp only [mk_code, mk_c3, mk_cm, mk_sb, mk_by1, mk_by2, mk_by3, mk_by4, mk_c4, mk_rem, if_neg c1, if_neg c2, if_neg c3, if_pos c135, if_neg c136, if_pos c250, if_neg (not_not_intro c251)]; done) | (simp [mk_code, mk_c3, mk_cm, mk_sb, mk_by1, mk_by2, mk_by3, mk_by4, mk_c4, mk_rem, if_neg c1, if_neg c2, if_neg c3, if_pos c135, if_neg c136, if_pos c250, if_neg (not_not_intro c251)]; done)
                      exact W.zret (v := 1) (ty := .boolean) hx hb hr rfl (fun t ht hW => ⟨⟨1, (ro, sz, op, kd, tk, la, li, g263, 2), rfl, ⟨hres, hre2⟩, by show va_P D vwCl _ t.heap; rw [ht]; exact hP⟩, hS.F ht⟩) hS.2.2 dX1_code_225
                · refine lv_bipush (v := 92) hx hb dX1_code_160 (by decide) ?_
                  refine lv_goto (tgt := 199) hx hb dX1_code_162 (by decide) ?_
                  refine lv_istore_n (lv' := [(3, .int 92), (2, .int x1), (0, .ref m0), (1, .int x1)]) hx hb dX1_code_199 rfl hl (by decide) rfl (fun ls hl => ?_)
                  refine lv_iload_n hx hb dX1_code_200 rfl (lv_at hl 0 rfl) ?_
                  refine lv_if_le (tgt := 224) hx hb dX1_code_201 (by decide) (fun c264 => ?_) (fun c264 => ?_)
                  · exact absurd c264 (by decide)
                  · refine lv_aload_n hx hb dX1_code_204 rfl (lv_at hl 2 rfl) ?_
                    refine lv_iconst (v := 2) hx hb dX1_code_205 (by decide) ?_
                    refine va_put (D := D) (ci := 1) (v := .int 2) (ty := .int) (C := RX1) (T := TX1) (N := 9) hx hb hts hin tyX1 tyX1_ok nmX1 hown hK hP hD hS 0 rfl rfl 8 (by decide) lk33 (fun _ h9 => h9) rfl (by decide +kernel) rfl rfl (Nat.le_of_ble_eq_true rfl) dX1_code_206 (fun H locs hP hD hS => ?_)
                    have hP : va_P D vwCl (mkW cR cY m0 m1 m2 (ro, sz, op, kd, tk, la, li, g249, 2)) H := hP
                    have hD : va_D A (mkW cR cY m0 m1 m2 (ro, sz, op, kd, tk, la, li, g249, 2)) := hD
                    refine lv_aload_n hx hb dX1_code_209 rfl (lv_at hl 2 rfl) ?_
                    refine va_get (D := D) (ci := 1) (v := .ref m2) (C := RX1) (T := TX1) (N := 9) hx hb hts hin hown hK hP 0 rfl rfl 7 (by decide) lk20 (fun _ h9 => h9) rfl dX1_code_210 ?_
                    refine lv_iconst (v := 0) hx hb dX1_code_213 (by decide) ?_
                    refine lv_bipush (v := 92) hx hb dX1_code_214 (by decide) ?_
                    refine va_iast hx hb hK hP hD hS 2 1 rfl rfl (show ¬ ((0 : Int32) < 0 ∨ 4 ≤ (0 : Int32).toNatClampNeg) from by decide) dX1_code_216 (fun H locs hP hD hS => ?_)
                    obtain ⟨g265, eg265⟩ : ∃ y : Nat → Int32, y = upd g249 (0 : Int32).toNatClampNeg (92 : Int32) := ⟨_, rfl⟩
                    have hP : va_P D vwCl (mkW cR cY m0 m1 m2 (ro, sz, op, kd, tk, la, li, g265, 2)) H := by rw [eg265]; exact hP
                    have hD : va_D A (mkW cR cY m0 m1 m2 (ro, sz, op, kd, tk, la, li, g265, 2)) := kk_D_same hD rfl
                    refine lv_aload_n hx hb dX1_code_217 rfl (lv_at hl 2 rfl) ?_
                    refine va_get (D := D) (ci := 1) (v := .ref m2) (C := RX1) (T := TX1) (N := 9) hx hb hts hin hown hK hP 0 rfl rfl 7 (by decide) lk20 (fun _ h9 => h9) rfl dX1_code_218 ?_
                    refine lv_iconst (v := 1) hx hb dX1_code_221 (by decide) ?_
                    refine lv_iload_n hx hb dX1_code_222 rfl (lv_at hl 0 rfl) ?_
                    refine va_iast hx hb hK hP hD hS 2 1 rfl rfl (show ¬ ((1 : Int32) < 0 ∨ 4 ≤ (1 : Int32).toNatClampNeg) from by decide) dX1_code_223 (fun H locs hP hD hS => ?_)
                    obtain ⟨g266, eg266⟩ : ∃ y : Nat → Int32, y = upd g265 (1 : Int32).toNatClampNeg (92 : Int32) := ⟨_, rfl⟩
                    have hP : va_P D vwCl (mkW cR cY m0 m1 m2 (ro, sz, op, kd, tk, la, li, g266, 2)) H := by rw [eg266]; exact hP
                    have hD : va_D A (mkW cR cY m0 m1 m2 (ro, sz, op, kd, tk, la, li, g266, 2)) := kk_D_same hD rfl
                    refine lv_iconst (v := 1) hx hb dX1_code_224 (by decide) ?_
                    have hres : 1 = (mk_code (ro, sz, op, kd, tk, la, li, bt, mn) x1).1 := by
                      subst eg266 eg265 eg249
                      first | rfl | (simp only [mk_code, mk_c3, mk_cm, mk_sb, mk_by1, mk_by2, mk_by3, mk_by4, mk_c4, mk_rem, if_neg c1, if_neg c2, if_neg c3, if_pos c135, if_neg c136, if_neg (not_not_intro c250)]; done) | (simp [mk_code, mk_c3, mk_cm, mk_sb, mk_by1, mk_by2, mk_by3, mk_by4, mk_c4, mk_rem, if_neg c1, if_neg c2, if_neg c3, if_pos c135, if_neg c136, if_neg (not_not_intro c250)]; done)
                    have hre2 : (ro, sz, op, kd, tk, la, li, g266, 2) = (mk_code (ro, sz, op, kd, tk, la, li, bt, mn) x1).2 := by
                      subst eg266 eg265 eg249
                      first | rfl | (simp only [mk_code, mk_c3, mk_cm, mk_sb, mk_by1, mk_by2, mk_by3, mk_by4, mk_c4, mk_rem, if_neg c1, if_neg c2, if_neg c3, if_pos c135, if_neg c136, if_neg (not_not_intro c250)]; done) | (simp [mk_code, mk_c3, mk_cm, mk_sb, mk_by1, mk_by2, mk_by3, mk_by4, mk_c4, mk_rem, if_neg c1, if_neg c2, if_neg c3, if_pos c135, if_neg c136, if_neg (not_not_intro c250)]; done)
                    exact W.zret (v := 1) (ty := .boolean) hx hb hr rfl (fun t ht hW => ⟨⟨1, (ro, sz, op, kd, tk, la, li, g266, 2), rfl, ⟨hres, hre2⟩, by show va_P D vwCl _ t.heap; rw [ht]; exact hP⟩, hS.F ht⟩) hS.2.2 dX1_code_225
            · exact absurd c247 (by decide)
        · refine lv_iconst (v := 0) hx hb dX1_code_22 (by decide) ?_
          have hres : 0 = (mk_code (ro, sz, op, kd, tk, la, li, bt, mn) x1).1 := by
            first | rfl | (simp only [mk_code, mk_c3, mk_cm, mk_sb, mk_by1, mk_by2, mk_by3, mk_by4, mk_c4, mk_rem, if_neg c1, if_neg c2, if_neg c3, if_neg c135]; done) | (simp [mk_code, mk_c3, mk_cm, mk_sb, mk_by1, mk_by2, mk_by3, mk_by4, mk_c4, mk_rem, if_neg c1, if_neg c2, if_neg c3, if_neg c135]; done)
          have hre2 : (ro, sz, op, kd, tk, la, li, bt, mn) = (mk_code (ro, sz, op, kd, tk, la, li, bt, mn) x1).2 := by
            first | rfl | (simp only [mk_code, mk_c3, mk_cm, mk_sb, mk_by1, mk_by2, mk_by3, mk_by4, mk_c4, mk_rem, if_neg c1, if_neg c2, if_neg c3, if_neg c135]; done) | (simp [mk_code, mk_c3, mk_cm, mk_sb, mk_by1, mk_by2, mk_by3, mk_by4, mk_c4, mk_rem, if_neg c1, if_neg c2, if_neg c3, if_neg c135]; done)
          exact W.zret (v := 0) (ty := .boolean) hx hb hr rfl (fun t ht hW => ⟨⟨0, (ro, sz, op, kd, tk, la, li, bt, mn), rfl, ⟨hres, hre2⟩, by show va_P D vwCl _ t.heap; rw [ht]; exact hP⟩, hS.F ht⟩) hS.2.2 dX1_code_23
end
section
set_option maxHeartbeats 4000000 in
set_option maxRecDepth 100000 in
theorem cM_addLoop (l : Launch) (D : va_G) (cR cY : ClassId) (m0 m1 m2 : Nat) (x1 : Int32) (r : MSt) {p : Program} {e : Env} {s : State} {m : MethodId} {below : List Frame} {meth : Method} {c : Code} {args : Array Value} {H0 : Heap} {Q : State → Prop} {A : Nat → Prop} (hx : p.tables.exec = Jvm.exec) (hb : c.code = cX1_add) (hts : ∀ x ∈ wsX1_add, x.before args s = true) (hown : s.vm.findClass RX1 = some m.cls) (hml : c.maxLocals = 3) (hK : va_K D vwCl [(cR, .int), (cY, .int)] s)
    (hex : ∀ (k : Int32) (H : Heap) (locs : List Loc) (ls : Array Slot), va_P D vwCl (mkW cR cY m0 m1 m2 r) H → va_D A (mkW cR cY m0 m1 m2 r) → va_S A H0 H locs → lv_has ls 3 [(2, .int k), (0, .ref m0), (1, .int x1)] → W p l e { frames := 1, cells := 0, slots := 0, locals := 23 } s m args below meth c H locs 0 0 Q (F0 m 68 ls [])) :
    ∀ (n j : Nat) (v : MSt) (k : Int32) (H : Heap) (locs : List Loc) (ls : Array Slot), k = nI j → v.2.2.2.2.2.2.2.2 = nI (j + n) → j + n ≤ 4 → (∃ z : Nat, v.2.1 = nI z ∧ z + n ≤ 3000) → mk_puts v k n = r → va_P D vwCl (mkW cR cY m0 m1 m2 v) H → va_D A (mkW cR cY m0 m1 m2 v) → va_S A H0 H locs → lv_has ls 3 [(2, .int k), (0, .ref m0), (1, .int x1)] → W p l e { frames := 1, cells := 0, slots := 0, locals := 23 } s m args below meth c H locs 0 0 Q (F0 m 44 ls []) := by
  have hin : ∀ w ∈ wsX10, w ∈ wsX1_add := by decide +kernel
  have lk13 := hts (.fieldLink RX1 13 "EventLineDeskModel" "kind" "I") (by decide +kernel)
  have lk23 := hts (.fieldLink RX1 23 "EventLineDeskModel" "size" "I") (by decide +kernel)
  have lk33 := hts (.fieldLink RX1 33 "EventLineDeskModel" "many" "I") (by decide +kernel)
  have lk20 := hts (.fieldLink RX1 20 "EventLineDeskModel" "bytes" "[I") (by decide +kernel)
  have lk7 := hts (.fieldLink RX1 7 "EventLineDeskModel" "row" "[I") (by decide +kernel)
  have lk26 := hts (.fieldLink RX1 26 "EventLineDeskModel" "open" "I") (by decide +kernel)
  intro n
  induction n with
  | zero =>
    intro j v k H locs ls hk hm hj hzz hr9 hP hD hS hl
    obtain ⟨ro, sz, op, kd, tk, la, li, bt, mn⟩ := v
    have hm : mn = nI (j + 0) := hm
    refine lv_iload_n hx hb dX1_add_44 rfl (lv_at hl 0 rfl) ?_
    refine lv_aload_n hx hb dX1_add_45 rfl (lv_at hl 1 rfl) ?_
    refine va_get (D := D) (ci := 1) (v := .int mn) (C := RX1) (T := TX1) (N := 9) hx hb hts hin hown hK hP 0 rfl rfl 8 (by decide) lk33 (fun _ h9 => h9) rfl dX1_add_46 ?_
    refine lv_icmp_ge (tgt := 68) hx hb dX1_add_49 (by decide) (fun c1 => ?_) (fun c1 => ?_)
    · have hr9 : (ro, sz, op, kd, tk, la, li, bt, mn) = r := hr9
      subst hr9
      exact hex k H locs ls hP hD hS hl
    · exact absurd c1 (not_not_intro (by rw [hk, hm]; exact nI_le (Nat.le_refl _) (by omega)))
  | succ n ih =>
    intro j v k H locs ls hk hm hj hzz hr9 hP hD hS hl
    obtain ⟨ro, sz, op, kd, tk, la, li, bt, mn⟩ := v
    have hm : mn = nI (j + (n + 1)) := hm
    obtain ⟨z, hz, hzn⟩ := hzz
    have hz : sz = nI z := hz
    have hvz : vp_in sz 3000 := by rw [hz]; exact vp_in_nI (by omega) (by omega)
    refine lv_iload_n hx hb dX1_add_44 rfl (lv_at hl 0 rfl) ?_
    refine lv_aload_n hx hb dX1_add_45 rfl (lv_at hl 1 rfl) ?_
    refine va_get (D := D) (ci := 1) (v := .int mn) (C := RX1) (T := TX1) (N := 9) hx hb hts hin hown hK hP 0 rfl rfl 8 (by decide) lk33 (fun _ h9 => h9) rfl dX1_add_46 ?_
    refine lv_icmp_ge (tgt := 68) hx hb dX1_add_49 (by decide) (fun c1 => ?_) (fun c1 => ?_)
    · exact absurd c1 (by rw [hk, hm]; exact nI_ge (by omega) (by omega))
    · refine lv_aload_n hx hb dX1_add_52 rfl (lv_at hl 1 rfl) ?_
      refine lv_aload_n hx hb dX1_add_53 rfl (lv_at hl 1 rfl) ?_
      refine va_get (D := D) (ci := 1) (v := .ref m2) (C := RX1) (T := TX1) (N := 9) hx hb hts hin hown hK hP 0 rfl rfl 7 (by decide) lk20 (fun _ h9 => h9) rfl dX1_add_54 ?_
      refine lv_iload_n hx hb dX1_add_57 rfl (lv_at hl 0 rfl) ?_
      refine va_iald hx hb hK hP 2 1 rfl rfl (by rw [hk]; exact vp_in_nI (by omega) (by omega)) dX1_add_58 ?_
      refine lv_topi (fun t2 et2 => ?_)
      refine kk_mutV (cs := mkW cR cY m0 m1 m2) (ci := 1) (q0 := 0) (rest := []) ⟨hx, hb, hml, hown, hts⟩ (cM_put l D cR cY m0 m1 m2 ro sz op kd tk la li bt mn t2 hvz) (cwV 1 hts gX1_add_X1_put rfl rfl rfl (by decide +kernel) ⟨Nat.le_of_ble_eq_true rfl, Nat.le_of_ble_eq_true rfl⟩) hK hP hD hS rfl rfl rfl hl.1 rfl (Nat.le_of_ble_eq_true rfl) dX1_add_59 ⟨Nat.zero_le _, Nat.zero_le _⟩ (fun u3 H locs hu3 hP hS hzu3 hku3 => ?_)
      obtain ⟨ro3, sz3, op3, kd3, tk3, la3, li3, bt3, mn3⟩ := u3
      have eu3 : (ro3, sz3, op3, kd3, tk3, la3, li3, bt3, mn3) = mk_put (ro, sz, op, kd, tk, la, li, bt, mn) t2 := hu3
      have hD : va_D A (mkW cR cY m0 m1 m2 (ro3, sz3, op3, kd3, tk3, la3, li3, bt3, mn3)) := kk_D_same hD rfl
      obtain ⟨t4, et4⟩ : ∃ y : Int32, y = k + 1 := ⟨_, rfl⟩
      refine lv_iinc (v := t4) (lv' := [(2, .int t4), (0, .ref m0), (1, .int x1)]) hx hb dX1_add_62 hl (k := 0) rfl (by rw [et4]; rfl) (by decide) rfl (fun ls hl => ?_)
      refine lv_goto (tgt := 44) hx hb dX1_add_65 (by decide) ?_
      refine ih (j + 1) (ro3, sz3, op3, kd3, tk3, la3, li3, bt3, mn3) t4 H locs ls (by rw [et4, hk]; exact nI_1 j) ?_ (by omega) ?_ ?_ hP hD hS (lv_sub hl [0, 1, 2] rfl)
      · show mn3 = nI (j + 1 + n)
        rw [show mn3 = mn from congrArg (fun z : MSt => z.2.2.2.2.2.2.2.2) eu3, hm]
        congr 1
        omega
      · refine ⟨z + 1, ?_, by omega⟩
        show sz3 = nI (z + 1)
        rw [show sz3 = sz + 1 from congrArg (fun z : MSt => z.2.1) eu3, hz]
        exact nI_1 z
      · rw [← hr9]
        subst et4 et2
        rw [eu3]
        rfl
set_option maxHeartbeats 4000000 in
set_option maxRecDepth 100000 in
theorem cM_add (l : Launch) (D : va_G) (cR cY : ClassId) (m0 m1 m2 : Nat) (ro : Nat → Int32) (sz op kd tk la li : Int32) (bt : Nat → Int32) (mn : Int32) (x1 : Int32) (hz : mk_ok sz) : mkI l yX1_add wsX1_add ({ frames := 1, cells := 0, slots := 0, locals := 23 }) D cR cY m0 m1 m2 (ro, sz, op, kd, tk, la, li, bt, mn) [.int x1] (mk_add (ro, sz, op, kd, tk, la, li, bt, mn) x1).1 (mk_add (ro, sz, op, kd, tk, la, li, bt, mn) x1).2 := by
  refine kk_of (cc := cX1_add) (maxL := 3) (ret := (some .boolean)) (by decide) rfl (Nat.le_of_ble_eq_true rfl) ?_
  intro p e s m below meth c ls hx hb hr hts hown hlocks hml hnm hP hK hD hl
  have hown : s.vm.findClass RX1 = some m.cls := hown
  have hl : lv_has ls 3 [(0, .ref m0), (1, .int x1)] := hl
  have hin : ∀ w ∈ wsX10, w ∈ wsX1_add := by decide +kernel
  have lk13 := hts (.fieldLink RX1 13 "EventLineDeskModel" "kind" "I") (by decide +kernel)
  have lk23 := hts (.fieldLink RX1 23 "EventLineDeskModel" "size" "I") (by decide +kernel)
  have lk33 := hts (.fieldLink RX1 33 "EventLineDeskModel" "many" "I") (by decide +kernel)
  have lk20 := hts (.fieldLink RX1 20 "EventLineDeskModel" "bytes" "[I") (by decide +kernel)
  generalize hAe : kk_A (mkW cR cY m0 m1 m2 (ro, sz, op, kd, tk, la, li, bt, mn)) = A at hD ⊢
  have hS : va_S A s.heap s.heap [] := va_S.rf
  refine lv_aload_n hx hb dX1_add_0 rfl (lv_at hl 0 rfl) ?_
  refine va_get (D := D) (ci := 1) (v := .int kd) (C := RX1) (T := TX1) (N := 9) hx hb hts hin hown hK hP 0 rfl rfl 3 (by decide) lk13 (fun _ h9 => h9) rfl dX1_add_1 ?_
  refine lv_if_lt (tgt := 40) hx hb dX1_add_4 (by decide) (fun c1 => ?_) (fun c1 => ?_)
  · refine lv_iconst (v := 0) hx hb dX1_add_40 (by decide) ?_
    have hres : 0 = (mk_add (ro, sz, op, kd, tk, la, li, bt, mn) x1).1 := by
      first | rfl | (simp only [mk_add, mk_add2, if_pos c1]; done) | (simp [mk_add, mk_add2, if_pos c1]; done)
    have hre2 : (ro, sz, op, kd, tk, la, li, bt, mn) = (mk_add (ro, sz, op, kd, tk, la, li, bt, mn) x1).2 := by
      first | rfl | (simp only [mk_add, mk_add2, if_pos c1]; done) | (simp [mk_add, mk_add2, if_pos c1]; done)
    exact W.zret (v := 0) (ty := .boolean) hx hb hr rfl (fun t ht hW => ⟨⟨0, (ro, sz, op, kd, tk, la, li, bt, mn), rfl, ⟨hres, hre2⟩, by show va_P D vwCl _ t.heap; rw [ht]; exact hP⟩, hS.F ht⟩) hS.2.2 dX1_add_41
  · refine lv_aload_n hx hb dX1_add_7 rfl (lv_at hl 0 rfl) ?_
    refine va_get (D := D) (ci := 1) (v := .int kd) (C := RX1) (T := TX1) (N := 9) hx hb hts hin hown hK hP 0 rfl rfl 3 (by decide) lk13 (fun _ h9 => h9) rfl dX1_add_8 ?_
    refine lv_iconst (v := 4) hx hb dX1_add_11 (by decide) ?_
    refine lv_icmp_eq (tgt := 40) hx hb dX1_add_12 (by decide) (fun c2 => ?_) (fun c2 => ?_)
    · refine lv_iconst (v := 0) hx hb dX1_add_40 (by decide) ?_
      have hres : 0 = (mk_add (ro, sz, op, kd, tk, la, li, bt, mn) x1).1 := by
        first | rfl | (simp only [mk_add, mk_add2, if_neg c1, if_pos c2]; done) | (simp [mk_add, mk_add2, if_neg c1, if_pos c2]; done)
      have hre2 : (ro, sz, op, kd, tk, la, li, bt, mn) = (mk_add (ro, sz, op, kd, tk, la, li, bt, mn) x1).2 := by
        first | rfl | (simp only [mk_add, mk_add2, if_neg c1, if_pos c2]; done) | (simp [mk_add, mk_add2, if_neg c1, if_pos c2]; done)
      exact W.zret (v := 0) (ty := .boolean) hx hb hr rfl (fun t ht hW => ⟨⟨0, (ro, sz, op, kd, tk, la, li, bt, mn), rfl, ⟨hres, hre2⟩, by show va_P D vwCl _ t.heap; rw [ht]; exact hP⟩, hS.F ht⟩) hS.2.2 dX1_add_41
    · refine lv_aload_n hx hb dX1_add_15 rfl (lv_at hl 0 rfl) ?_
      refine lv_iload_n hx hb dX1_add_16 rfl (lv_at hl 1 rfl) ?_
      refine kk_mutI (cs := mkW cR cY m0 m1 m2) (ci := 1) (q0 := 0) (rest := []) ⟨hx, hb, hml, hown, hts⟩ (cM_code l D cR cY m0 m1 m2 ro sz op kd tk la li bt mn x1) (cwV 1 hts gX1_add_X1_code rfl rfl rfl (by decide +kernel) ⟨Nat.le_of_ble_eq_true rfl, Nat.le_of_ble_eq_true rfl⟩) hK hP hD hS rfl rfl rfl hl.1 rfl (Nat.le_of_ble_eq_true rfl) dX1_add_17 ⟨Nat.zero_le _, Nat.zero_le _⟩ (fun r4 u3 H locs hu3 hP hS hzu3 hku3 => ?_)
      obtain ⟨ro3, sz3, op3, kd3, tk3, la3, li3, bt3, mn3⟩ := u3
      have eu3 : (ro3, sz3, op3, kd3, tk3, la3, li3, bt3, mn3) = (mk_code (ro, sz, op, kd, tk, la, li, bt, mn) x1).2 := hu3.2
      have er4 : r4 = (mk_code (ro, sz, op, kd, tk, la, li, bt, mn) x1).1 := hu3.1
      have hD : va_D A (mkW cR cY m0 m1 m2 (ro3, sz3, op3, kd3, tk3, la3, li3, bt3, mn3)) := kk_D_same hD rfl
      refine lv_if_eq (tgt := 40) hx hb dX1_add_20 (by decide) (fun c5 => ?_) (fun c5 => ?_)
      · refine lv_iconst (v := 0) hx hb dX1_add_40 (by decide) ?_
        have hres : 0 = (mk_add (ro, sz, op, kd, tk, la, li, bt, mn) x1).1 := by
          subst er4
          first | rfl | (simp only [mk_add, mk_add2, ← eu3, if_neg c1, if_neg c2, if_pos c5]; done) | (simp [mk_add, mk_add2, ← eu3, if_neg c1, if_neg c2, if_pos c5]; done)
        have hre2 : (ro3, sz3, op3, kd3, tk3, la3, li3, bt3, mn3) = (mk_add (ro, sz, op, kd, tk, la, li, bt, mn) x1).2 := by
          subst er4
          first | rfl | (simp only [mk_add, mk_add2, ← eu3, if_neg c1, if_neg c2, if_pos c5]; done) | (simp [mk_add, mk_add2, ← eu3, if_neg c1, if_neg c2, if_pos c5]; done)
        exact W.zret (v := 0) (ty := .boolean) hx hb hr rfl (fun t ht hW => ⟨⟨0, (ro3, sz3, op3, kd3, tk3, la3, li3, bt3, mn3), rfl, ⟨hres, hre2⟩, by show va_P D vwCl _ t.heap; rw [ht]; exact hP⟩, hS.F ht⟩) hS.2.2 dX1_add_41
      · refine lv_aload_n hx hb dX1_add_23 rfl (lv_at hl 0 rfl) ?_
        refine va_get (D := D) (ci := 1) (v := .int sz3) (C := RX1) (T := TX1) (N := 9) hx hb hts hin hown hK hP 0 rfl rfl 1 (by decide) lk23 (fun _ h9 => h9) rfl dX1_add_24 ?_
        refine lv_aload_n hx hb dX1_add_27 rfl (lv_at hl 0 rfl) ?_
        refine va_get (D := D) (ci := 1) (v := .int mn3) (C := RX1) (T := TX1) (N := 9) hx hb hts hin hown hK hP 0 rfl rfl 8 (by decide) lk33 (fun _ h9 => h9) rfl dX1_add_28 ?_
        refine lv_iadd hx hb dX1_add_31 ?_
        refine lv_topi (fun t6 et6 => ?_)
        refine lv_iconst (v := 1) hx hb dX1_add_32 (by decide) ?_
        refine lv_iadd hx hb dX1_add_33 ?_
        refine lv_topi (fun t7 et7 => ?_)
        refine lv_sipush (v := 3000) hx hb dX1_add_34 (by decide) ?_
        refine lv_icmp_le (tgt := 42) hx hb dX1_add_37 (by decide) (fun c8 => ?_) (fun c8 => ?_)
        · refine lv_iconst (v := 0) hx hb dX1_add_42 (by decide) ?_
          refine lv_istore_n (lv' := [(2, .int 0), (0, .ref m0), (1, .int x1)]) hx hb dX1_add_43 rfl hl (by decide) rfl (fun ls hl => ?_)
          obtain ⟨zz, hz1, hz2⟩ := hz
          have hq : sz3 = sz ∧ ∃ n : Nat, n ≤ 4 ∧ mn3 = nI n := by
            rcases mk_code_many (ro, sz, op, kd, tk, la, li, bt, mn) x1 with h | ⟨f, n, h1, h2⟩
            · exact absurd (by rw [er4, h]) c5
            · rw [h2] at eu3
              exact ⟨congrArg (fun z : MSt => z.2.1) eu3, n, h1, congrArg (fun z : MSt => z.2.2.2.2.2.2.2.2) eu3⟩
          obtain ⟨hq1, n, hn, hq2⟩ := hq
          have hb9 : zz + n + 1 ≤ 3000 := by
            have h := c8
            rw [et7, et6, hq1, hz1, hq2, nI_add, nI_1] at h
            exact (nI_leI (b := 3000) (by omega) (by omega)).mp h
          have hpl : mk_pall (ro3, sz3, op3, kd3, tk3, la3, li3, bt3, mn3) = mk_puts (ro3, sz3, op3, kd3, tk3, la3, li3, bt3, mn3) 0 n := by show mk_puts (ro3, sz3, op3, kd3, tk3, la3, li3, bt3, mn3) 0 (mn3).toNatClampNeg = _; rw [hq2, nI_clamp (by omega)]
          refine cM_addLoop l D cR cY m0 m1 m2 x1 (mk_pall (ro3, sz3, op3, kd3, tk3, la3, li3, bt3, mn3)) hx hb hts hown hml hK (fun k H locs ls hP hD hS hl => ?_) n 0 (ro3, sz3, op3, kd3, tk3, la3, li3, bt3, mn3) 0 H locs ls nI_0.symm (by rw [Nat.zero_add]; exact hq2) (by omega) ⟨zz, by rw [← hz1]; exact hq1, by omega⟩ hpl.symm hP hD hS (lv_sub hl [0, 1, 2] rfl)
          obtain ⟨w9, ew9⟩ : ∃ w : MSt, w = mk_pall (ro3, sz3, op3, kd3, tk3, la3, li3, bt3, mn3) := ⟨_, rfl⟩
          rw [← ew9] at hP hD
          obtain ⟨ro9, sz9, op9, kd9, tk9, la9, li9, bt9, mn9⟩ := w9
          refine lv_iconst (v := 1) hx hb dX1_add_68 (by decide) ?_
          have hres : 1 = (mk_add (ro, sz, op, kd, tk, la, li, bt, mn) x1).1 := by
            subst et7 et6 er4
            first | rfl | (simp only [mk_add, mk_add2, ← eu3, ← ew9, if_neg c1, if_neg c2, if_neg c5, if_pos c8]; done) | (simp [mk_add, mk_add2, ← eu3, ← ew9, if_neg c1, if_neg c2, if_neg c5, if_pos c8]; done)
          have hre2 : (ro9, sz9, op9, kd9, tk9, la9, li9, bt9, mn9) = (mk_add (ro, sz, op, kd, tk, la, li, bt, mn) x1).2 := by
            subst et7 et6 er4
            first | rfl | (simp only [mk_add, mk_add2, ← eu3, ← ew9, if_neg c1, if_neg c2, if_neg c5, if_pos c8]; done) | (simp [mk_add, mk_add2, ← eu3, ← ew9, if_neg c1, if_neg c2, if_neg c5, if_pos c8]; done)
          exact W.zret (v := 1) (ty := .boolean) hx hb hr rfl (fun t ht hW => ⟨⟨1, (ro9, sz9, op9, kd9, tk9, la9, li9, bt9, mn9), rfl, ⟨hres, hre2⟩, by show va_P D vwCl _ t.heap; rw [ht]; exact hP⟩, hS.F ht⟩) hS.2.2 dX1_add_69
        · refine lv_iconst (v := 0) hx hb dX1_add_40 (by decide) ?_
          have hres : 0 = (mk_add (ro, sz, op, kd, tk, la, li, bt, mn) x1).1 := by
            subst et7 et6 er4
            first | rfl | (simp only [mk_add, mk_add2, ← eu3, if_neg c1, if_neg c2, if_neg c5, if_neg c8]; done) | (simp [mk_add, mk_add2, ← eu3, if_neg c1, if_neg c2, if_neg c5, if_neg c8]; done)
          have hre2 : (ro3, sz3, op3, kd3, tk3, la3, li3, bt3, mn3) = (mk_add (ro, sz, op, kd, tk, la, li, bt, mn) x1).2 := by
            subst et7 et6 er4
            first | rfl | (simp only [mk_add, mk_add2, ← eu3, if_neg c1, if_neg c2, if_neg c5, if_neg c8]; done) | (simp [mk_add, mk_add2, ← eu3, if_neg c1, if_neg c2, if_neg c5, if_neg c8]; done)
          exact W.zret (v := 0) (ty := .boolean) hx hb hr rfl (fun t ht hW => ⟨⟨0, (ro3, sz3, op3, kd3, tk3, la3, li3, bt3, mn3), rfl, ⟨hres, hre2⟩, by show va_P D vwCl _ t.heap; rw [ht]; exact hP⟩, hS.F ht⟩) hS.2.2 dX1_add_41
set_option maxHeartbeats 4000000 in
set_option maxRecDepth 100000 in
theorem cM_textLoop (l : Launch) (D : va_G) (cR cY : ClassId) (m0 m1 m2 : Nat) (x1 : Int32) (x2 : Int32) (r : MSt) {p : Program} {e : Env} {s : State} {m : MethodId} {below : List Frame} {meth : Method} {c : Code} {args : Array Value} {H0 : Heap} {Q : State → Prop} {A : Nat → Prop} (hx : p.tables.exec = Jvm.exec) (hb : c.code = cX1_text) (hts : ∀ x ∈ wsX1_text, x.before args s = true) (hown : s.vm.findClass RX1 = some m.cls) (hml : c.maxLocals = 4) (hK : va_K D vwCl [(cR, .int), (cY, .int)] s)
    (hex : ∀ (k : Int32) (H : Heap) (locs : List Loc) (ls : Array Slot), va_P D vwCl (mkW cR cY m0 m1 m2 r) H → va_D A (mkW cR cY m0 m1 m2 r) → va_S A H0 H locs → lv_has ls 4 [(3, .int k), (0, .ref m0), (1, .int x1), (2, .int x2)] → W p l e { frames := 2, cells := 0, slots := 0, locals := 42 } s m args below meth c H locs 0 0 Q (F0 m 95 ls [])) :
    ∀ (n j : Nat) (v : MSt) (k : Int32) (H : Heap) (locs : List Loc) (ls : Array Slot), k = nI j → v.2.2.2.2.2.2.2.2 = nI (j + n) → j + n ≤ 4 → (∃ z : Nat, v.2.1 = nI z ∧ z + n ≤ 3000) → mk_puts v k n = r → va_P D vwCl (mkW cR cY m0 m1 m2 v) H → va_D A (mkW cR cY m0 m1 m2 v) → va_S A H0 H locs → lv_has ls 4 [(3, .int k), (0, .ref m0), (1, .int x1), (2, .int x2)] → W p l e { frames := 2, cells := 0, slots := 0, locals := 42 } s m args below meth c H locs 0 0 Q (F0 m 71 ls []) := by
  have hin : ∀ w ∈ wsX10, w ∈ wsX1_text := by decide +kernel
  have lk13 := hts (Cond.fieldLink RX1 13 "EventLineDeskModel" "kind" "I") (by decide +kernel)
  have lk23 := hts (Cond.fieldLink RX1 23 "EventLineDeskModel" "size" "I") (by decide +kernel)
  have lk33 := hts (Cond.fieldLink RX1 33 "EventLineDeskModel" "many" "I") (by decide +kernel)
  have lk20 := hts (Cond.fieldLink RX1 20 "EventLineDeskModel" "bytes" "[I") (by decide +kernel)
  have lk7 := hts (Cond.fieldLink RX1 7 "EventLineDeskModel" "row" "[I") (by decide +kernel)
  have lk26 := hts (Cond.fieldLink RX1 26 "EventLineDeskModel" "open" "I") (by decide +kernel)
  intro n
  induction n with
  | zero =>
    intro j v k H locs ls hk hm hj hzz hr9 hP hD hS hl
    obtain ⟨ro, sz, op, kd, tk, la, li, bt, mn⟩ := v
    have hm : mn = nI (j + 0) := hm
    refine lv_iload_n hx hb dX1_text_71 rfl (lv_at hl 0 rfl) ?_
    refine lv_aload_n hx hb dX1_text_72 rfl (lv_at hl 1 rfl) ?_
    refine va_get (D := D) (ci := 1) (v := .int mn) (C := RX1) (T := TX1) (N := 9) hx hb hts hin hown hK hP 0 rfl rfl 8 (by decide) lk33 (fun _ h9 => h9) rfl dX1_text_73 ?_
    refine lv_icmp_ge (tgt := 95) hx hb dX1_text_76 (by decide) (fun c1 => ?_) (fun c1 => ?_)
    · have hr9 : (ro, sz, op, kd, tk, la, li, bt, mn) = r := hr9
      subst hr9
      exact hex k H locs ls hP hD hS hl
    · exact absurd c1 (not_not_intro (by rw [hk, hm]; exact nI_le (Nat.le_refl _) (by omega)))
  | succ n ih =>
    intro j v k H locs ls hk hm hj hzz hr9 hP hD hS hl
    obtain ⟨ro, sz, op, kd, tk, la, li, bt, mn⟩ := v
    have hm : mn = nI (j + (n + 1)) := hm
    obtain ⟨z, hz, hzn⟩ := hzz
    have hz : sz = nI z := hz
    have hvz : vp_in sz 3000 := by rw [hz]; exact vp_in_nI (by omega) (by omega)
    refine lv_iload_n hx hb dX1_text_71 rfl (lv_at hl 0 rfl) ?_
    refine lv_aload_n hx hb dX1_text_72 rfl (lv_at hl 1 rfl) ?_
    refine va_get (D := D) (ci := 1) (v := .int mn) (C := RX1) (T := TX1) (N := 9) hx hb hts hin hown hK hP 0 rfl rfl 8 (by decide) lk33 (fun _ h9 => h9) rfl dX1_text_73 ?_
    refine lv_icmp_ge (tgt := 95) hx hb dX1_text_76 (by decide) (fun c1 => ?_) (fun c1 => ?_)
    · exact absurd c1 (by rw [hk, hm]; exact nI_ge (by omega) (by omega))
    · refine lv_aload_n hx hb dX1_text_79 rfl (lv_at hl 1 rfl) ?_
      refine lv_aload_n hx hb dX1_text_80 rfl (lv_at hl 1 rfl) ?_
      refine va_get (D := D) (ci := 1) (v := .ref m2) (C := RX1) (T := TX1) (N := 9) hx hb hts hin hown hK hP 0 rfl rfl 7 (by decide) lk20 (fun _ h9 => h9) rfl dX1_text_81 ?_
      refine lv_iload_n hx hb dX1_text_84 rfl (lv_at hl 0 rfl) ?_
      refine va_iald hx hb hK hP 2 1 rfl rfl (by rw [hk]; exact vp_in_nI (by omega) (by omega)) dX1_text_85 ?_
      refine lv_topi (fun t2 et2 => ?_)
      refine kk_mutV (cs := mkW cR cY m0 m1 m2) (ci := 1) (q0 := 0) (rest := []) ⟨hx, hb, hml, hown, hts⟩ (cM_put l D cR cY m0 m1 m2 ro sz op kd tk la li bt mn t2 hvz) (cwV 1 hts gX1_text_X1_put rfl rfl rfl (by decide +kernel) ⟨Nat.le_of_ble_eq_true rfl, Nat.le_of_ble_eq_true rfl⟩) hK hP hD hS rfl rfl rfl hl.1 rfl (Nat.le_of_ble_eq_true rfl) dX1_text_86 ⟨Nat.zero_le _, Nat.zero_le _⟩ (fun u3 H locs hu3 hP hS hzu3 hku3 => ?_)
      obtain ⟨ro3, sz3, op3, kd3, tk3, la3, li3, bt3, mn3⟩ := u3
      have eu3 : (ro3, sz3, op3, kd3, tk3, la3, li3, bt3, mn3) = mk_put (ro, sz, op, kd, tk, la, li, bt, mn) t2 := hu3
      have hD : va_D A (mkW cR cY m0 m1 m2 (ro3, sz3, op3, kd3, tk3, la3, li3, bt3, mn3)) := kk_D_same hD rfl
      obtain ⟨t4, et4⟩ : ∃ y : Int32, y = k + 1 := ⟨_, rfl⟩
      refine lv_iinc (v := t4) (lv' := [(3, .int t4), (0, .ref m0), (1, .int x1), (2, .int x2)]) hx hb dX1_text_89 hl (k := 0) rfl (by rw [et4]; rfl) (by decide) rfl (fun ls hl => ?_)
      refine lv_goto (tgt := 71) hx hb dX1_text_92 (by decide) ?_
      refine ih (j + 1) (ro3, sz3, op3, kd3, tk3, la3, li3, bt3, mn3) t4 H locs ls (by rw [et4, hk]; exact nI_1 j) ?_ (by omega) ?_ ?_ hP hD hS (lv_sub hl [0, 1, 2, 3] rfl)
      · show mn3 = nI (j + 1 + n)
        rw [show mn3 = mn from congrArg (fun z : MSt => z.2.2.2.2.2.2.2.2) eu3, hm]
        congr 1
        omega
      · refine ⟨z + 1, ?_, by omega⟩
        show sz3 = nI (z + 1)
        rw [show sz3 = sz + 1 from congrArg (fun z : MSt => z.2.1) eu3, hz]
        exact nI_1 z
      · rw [← hr9]
        subst et4 et2
        rw [eu3]
        rfl
set_option maxHeartbeats 4000000 in
set_option maxRecDepth 100000 in
theorem cM_text (l : Launch) (D : va_G) (cR cY : ClassId) (m0 m1 m2 : Nat) (ro : Nat → Int32) (sz op kd tk la li : Int32) (bt : Nat → Int32) (mn : Int32) (x1 : Int32) (hz : mk_ok sz) : mkI l yX1_text wsX1_text ({ frames := 2, cells := 0, slots := 0, locals := 42 }) D cR cY m0 m1 m2 (ro, sz, op, kd, tk, la, li, bt, mn) [.int x1] (mk_text (ro, sz, op, kd, tk, la, li, bt, mn) x1).1 (mk_text (ro, sz, op, kd, tk, la, li, bt, mn) x1).2 := by
  refine kk_of (cc := cX1_text) (maxL := 4) (ret := (some .boolean)) (by decide) rfl (Nat.le_of_ble_eq_true rfl) ?_
  intro p e s m below meth c ls hx hb hr hts hown hlocks hml hnm hP hK hD hl
  have hown : s.vm.findClass RX1 = some m.cls := hown
  have hl : lv_has ls 4 [(0, .ref m0), (1, .int x1)] := hl
  have hin : ∀ w ∈ wsX10, w ∈ wsX1_text := by decide +kernel
  have lk13 := hts (Cond.fieldLink RX1 13 "EventLineDeskModel" "kind" "I") (by decide +kernel)
  have lk23 := hts (Cond.fieldLink RX1 23 "EventLineDeskModel" "size" "I") (by decide +kernel)
  have lk33 := hts (Cond.fieldLink RX1 33 "EventLineDeskModel" "many" "I") (by decide +kernel)
  have lk20 := hts (Cond.fieldLink RX1 20 "EventLineDeskModel" "bytes" "[I") (by decide +kernel)
  generalize hAe : kk_A (mkW cR cY m0 m1 m2 (ro, sz, op, kd, tk, la, li, bt, mn)) = A at hD ⊢
  have hS : va_S A s.heap s.heap [] := va_S.rf
  refine lv_aload_n hx hb dX1_text_0 rfl (lv_at hl 0 rfl) ?_
  refine lv_iload_n hx hb dX1_text_1 rfl (lv_at hl 1 rfl) ?_
  refine kk_mutI (cs := mkW cR cY m0 m1 m2) (ci := 1) (q0 := 0) (rest := []) ⟨hx, hb, hml, hown, hts⟩ (cM_code l D cR cY m0 m1 m2 ro sz op kd tk la li bt mn x1) (cwV 1 hts gX1_text_X1_code rfl rfl rfl (by decide +kernel) ⟨Nat.le_of_ble_eq_true rfl, Nat.le_of_ble_eq_true rfl⟩) hK hP hD hS rfl rfl rfl hl.1 rfl (Nat.le_of_ble_eq_true rfl) dX1_text_2 ⟨Nat.zero_le _, Nat.zero_le _⟩ (fun r2 u1 H locs hu1 hP hS hzu1 hku1 => ?_)
  obtain ⟨ro1, sz1, op1, kd1, tk1, la1, li1, bt1, mn1⟩ := u1
  have eu1 : (ro1, sz1, op1, kd1, tk1, la1, li1, bt1, mn1) = (mk_code (ro, sz, op, kd, tk, la, li, bt, mn) x1).2 := hu1.2
  have er2 : r2 = (mk_code (ro, sz, op, kd, tk, la, li, bt, mn) x1).1 := hu1.1
  have hD : va_D A (mkW cR cY m0 m1 m2 (ro1, sz1, op1, kd1, tk1, la1, li1, bt1, mn1)) := kk_D_same hD rfl
  refine lv_if_ne (tgt := 10) hx hb dX1_text_5 (by decide) (fun c3 => ?_) (fun c3 => ?_)
  · refine lv_aload_n hx hb dX1_text_10 rfl (lv_at hl 0 rfl) ?_
    refine va_get (D := D) (ci := 1) (v := .int kd1) (C := RX1) (T := TX1) (N := 9) hx hb hts hin hown hK hP 0 rfl rfl 3 (by decide) lk13 (fun _ h9 => h9) rfl dX1_text_11 ?_
    refine lv_iconst (v := 4) hx hb dX1_text_14 (by decide) ?_
    refine lv_icmp_ne (tgt := 22) hx hb dX1_text_15 (by decide) (fun c4 => ?_) (fun c4 => ?_)
    · refine lv_aload_n hx hb dX1_text_22 rfl (lv_at hl 0 rfl) ?_
      refine va_get (D := D) (ci := 1) (v := .int kd1) (C := RX1) (T := TX1) (N := 9) hx hb hts hin hown hK hP 0 rfl rfl 3 (by decide) lk13 (fun _ h9 => h9) rfl dX1_text_23 ?_
      refine lv_if_lt (tgt := 33) hx hb dX1_text_26 (by decide) (fun c5 => ?_) (fun c5 => ?_)
      · refine lv_iconst (v := 1) hx hb dX1_text_33 (by decide) ?_
        refine lv_istore_n (lv' := [(2, .int 1), (0, .ref m0), (1, .int x1)]) hx hb dX1_text_34 rfl hl (by decide) rfl (fun ls hl => ?_)
        refine lv_aload_n hx hb dX1_text_35 rfl (lv_at hl 1 rfl) ?_
        refine va_get (D := D) (ci := 1) (v := .int sz1) (C := RX1) (T := TX1) (N := 9) hx hb hts hin hown hK hP 0 rfl rfl 1 (by decide) lk23 (fun _ h9 => h9) rfl dX1_text_36 ?_
        refine lv_iload_n hx hb dX1_text_39 rfl (lv_at hl 0 rfl) ?_
        refine lv_iadd hx hb dX1_text_40 ?_
        refine lv_topi (fun t6 et6 => ?_)
        refine lv_aload_n hx hb dX1_text_41 rfl (lv_at hl 1 rfl) ?_
        refine va_get (D := D) (ci := 1) (v := .int mn1) (C := RX1) (T := TX1) (N := 9) hx hb hts hin hown hK hP 0 rfl rfl 8 (by decide) lk33 (fun _ h9 => h9) rfl dX1_text_42 ?_
        refine lv_iadd hx hb dX1_text_45 ?_
        refine lv_topi (fun t7 et7 => ?_)
        refine lv_iconst (v := 1) hx hb dX1_text_46 (by decide) ?_
        refine lv_iadd hx hb dX1_text_47 ?_
        refine lv_topi (fun t8 et8 => ?_)
        refine lv_sipush (v := 3000) hx hb dX1_text_48 (by decide) ?_
        refine lv_icmp_le (tgt := 56) hx hb dX1_text_51 (by decide) (fun c9 => ?_) (fun c9 => ?_)
        · refine lv_aload_n hx hb dX1_text_56 rfl (lv_at hl 1 rfl) ?_
          refine va_get (D := D) (ci := 1) (v := .int kd1) (C := RX1) (T := TX1) (N := 9) hx hb hts hin hown hK hP 0 rfl rfl 3 (by decide) lk13 (fun _ h9 => h9) rfl dX1_text_57 ?_
          refine lv_iconst (v := 4) hx hb dX1_text_60 (by decide) ?_
          refine lv_icmp_eq (tgt := 69) hx hb dX1_text_61 (by decide) (fun c10 => ?_) (fun c10 => ?_)
          · exact absurd c10 c4
          · refine lv_aload_n hx hb dX1_text_64 rfl (lv_at hl 1 rfl) ?_
            refine lv_iconst (v := 4) hx hb dX1_text_65 (by decide) ?_
            obtain ⟨zz, hz1, hz2⟩ := hz
            have hq : sz1 = sz ∧ ∃ n : Nat, n ≤ 4 ∧ mn1 = nI n := by
              rcases mk_code_many (ro, sz, op, kd, tk, la, li, bt, mn) x1 with h | ⟨f, n, h1, h2⟩
              · exact absurd (by rw [er2, h]) c3
              · rw [h2] at eu1
                exact ⟨congrArg (fun z : MSt => z.2.1) eu1, n, h1, congrArg (fun z : MSt => z.2.2.2.2.2.2.2.2) eu1⟩
            obtain ⟨hq1, n, hn, hq2⟩ := hq
            have hb9 : zz + 1 + n + 1 ≤ 3000 := by
              have h : nI zz + nI 1 + nI n + nI 1 ≤ nI 3000 := by
                have h := c9
                rw [et8, et7, et6, hq1, hz1, hq2] at h
                exact h
              rw [nI_add, nI_add, nI_add] at h
              exact (nI_leI (by omega) (by omega)).mp h
            have hzz : sz1 = nI zz := hq1.trans hz1
            refine kk_mutV (cs := mkW cR cY m0 m1 m2) (ci := 1) (q0 := 0) (rest := []) ⟨hx, hb, hml, hown, hts⟩ (cM_start l D cR cY m0 m1 m2 ro1 sz1 op1 kd1 tk1 la1 li1 bt1 mn1 4 (fun _ => by rw [hzz]; exact vp_in_nI (by omega) (by omega)) (fun h => absurd c5 h)) (cwV 1 hts gX1_text_X1_start rfl rfl rfl (by decide +kernel) ⟨Nat.le_of_ble_eq_true rfl, Nat.le_of_ble_eq_true rfl⟩) hK hP hD hS rfl rfl rfl hl.1 rfl (Nat.le_of_ble_eq_true rfl) dX1_text_66 ⟨Nat.zero_le _, Nat.zero_le _⟩ (fun u11 H locs hu11 hP hS hzu11 hku11 => ?_)
            obtain ⟨ro11, sz11, op11, kd11, tk11, la11, li11, bt11, mn11⟩ := u11
            have eu11 : (ro11, sz11, op11, kd11, tk11, la11, li11, bt11, mn11) = mk_start (ro1, sz1, op1, kd1, tk1, la1, li1, bt1, mn1) 4 := hu11
            have hD : va_D A (mkW cR cY m0 m1 m2 (ro11, sz11, op11, kd11, tk11, la11, li11, bt11, mn11)) := kk_D_same hD rfl
            refine lv_iconst (v := 0) hx hb dX1_text_69 (by decide) ?_
            refine lv_istore_n (lv' := [(3, .int 0), (2, .int 1), (0, .ref m0), (1, .int x1)]) hx hb dX1_text_70 rfl hl (by decide) rfl (fun ls hl => ?_)
            have hsf := mk_start_f (ro1, sz1, op1, kd1, tk1, la1, li1, bt1, mn1) 4
            rw [← eu11] at hsf
            have hqs : sz11 = nI (zz + 1) := by rw [show sz11 = sz1 + 1 from hsf.1 c5, hq1, hz1]; exact nI_1 zz
            have hqm : mn11 = nI n := by rw [show mn11 = mn1 from hsf.2.2]; exact hq2
            have hpl : mk_pall (ro11, sz11, op11, kd11, tk11, la11, li11, bt11, mn11) = mk_puts (ro11, sz11, op11, kd11, tk11, la11, li11, bt11, mn11) 0 n := by show mk_puts (ro11, sz11, op11, kd11, tk11, la11, li11, bt11, mn11) 0 (mn11).toNatClampNeg = _; rw [hqm, nI_clamp (by omega)]
            refine cM_textLoop l D cR cY m0 m1 m2 x1 1 (mk_pall (ro11, sz11, op11, kd11, tk11, la11, li11, bt11, mn11)) hx hb hts hown hml hK (fun k H locs ls hP hD hS hl => ?_) n 0 (ro11, sz11, op11, kd11, tk11, la11, li11, bt11, mn11) 0 H locs ls nI_0.symm (by rw [Nat.zero_add]; exact hqm) (by omega) ⟨(zz + 1), hqs, by omega⟩ hpl.symm hP hD hS (lv_sub hl [0, 2, 3, 1] rfl)
            obtain ⟨w12, ew12⟩ : ∃ w : MSt, w = mk_pall (ro11, sz11, op11, kd11, tk11, la11, li11, bt11, mn11) := ⟨_, rfl⟩
            rw [← ew12] at hP hD
            obtain ⟨ro12, sz12, op12, kd12, tk12, la12, li12, bt12, mn12⟩ := w12
            refine lv_iconst (v := 1) hx hb dX1_text_95 (by decide) ?_
            have hres : 1 = (mk_text (ro, sz, op, kd, tk, la, li, bt, mn) x1).1 := by
              subst et8 et7 et6 er2
              first | rfl | (simp only [mk_text, mk_text2, mk_text3, ← eu1, ← eu11, ← ew12, if_pos c3, if_pos c4, if_pos c5, if_pos c9, if_neg c4]; done) | (simp [mk_text, mk_text2, mk_text3, ← eu1, ← eu11, ← ew12, if_pos c3, if_pos c4, if_pos c5, if_pos c9, if_neg c4]; done)
            have hre2 : (ro12, sz12, op12, kd12, tk12, la12, li12, bt12, mn12) = (mk_text (ro, sz, op, kd, tk, la, li, bt, mn) x1).2 := by
              subst et8 et7 et6 er2
              first | rfl | (simp only [mk_text, mk_text2, mk_text3, ← eu1, ← eu11, ← ew12, if_pos c3, if_pos c4, if_pos c5, if_pos c9, if_neg c4]; done) | (simp [mk_text, mk_text2, mk_text3, ← eu1, ← eu11, ← ew12, if_pos c3, if_pos c4, if_pos c5, if_pos c9, if_neg c4]; done)
            exact W.zret (v := 1) (ty := .boolean) hx hb hr rfl (fun t ht hW => ⟨⟨1, (ro12, sz12, op12, kd12, tk12, la12, li12, bt12, mn12), rfl, ⟨hres, hre2⟩, by show va_P D vwCl _ t.heap; rw [ht]; exact hP⟩, hS.F ht⟩) hS.2.2 dX1_text_96
        · refine lv_iconst (v := 0) hx hb dX1_text_54 (by decide) ?_
          have hres : 0 = (mk_text (ro, sz, op, kd, tk, la, li, bt, mn) x1).1 := by
            subst et8 et7 et6 er2
            first | rfl | (simp only [mk_text, mk_text2, mk_text3, ← eu1, if_pos c3, if_pos c4, if_pos c5, if_neg c9]; done) | (simp [mk_text, mk_text2, mk_text3, ← eu1, if_pos c3, if_pos c4, if_pos c5, if_neg c9]; done)
          have hre2 : (ro1, sz1, op1, kd1, tk1, la1, li1, bt1, mn1) = (mk_text (ro, sz, op, kd, tk, la, li, bt, mn) x1).2 := by
            subst et8 et7 et6 er2
            first | rfl | (simp only [mk_text, mk_text2, mk_text3, ← eu1, if_pos c3, if_pos c4, if_pos c5, if_neg c9]; done) | (simp [mk_text, mk_text2, mk_text3, ← eu1, if_pos c3, if_pos c4, if_pos c5, if_neg c9]; done)
          exact W.zret (v := 0) (ty := .boolean) hx hb hr rfl (fun t ht hW => ⟨⟨0, (ro1, sz1, op1, kd1, tk1, la1, li1, bt1, mn1), rfl, ⟨hres, hre2⟩, by show va_P D vwCl _ t.heap; rw [ht]; exact hP⟩, hS.F ht⟩) hS.2.2 dX1_text_55
      · refine lv_iconst (v := 2) hx hb dX1_text_29 (by decide) ?_
        refine lv_goto (tgt := 34) hx hb dX1_text_30 (by decide) ?_
        refine lv_istore_n (lv' := [(2, .int 2), (0, .ref m0), (1, .int x1)]) hx hb dX1_text_34 rfl hl (by decide) rfl (fun ls hl => ?_)
        refine lv_aload_n hx hb dX1_text_35 rfl (lv_at hl 1 rfl) ?_
        refine va_get (D := D) (ci := 1) (v := .int sz1) (C := RX1) (T := TX1) (N := 9) hx hb hts hin hown hK hP 0 rfl rfl 1 (by decide) lk23 (fun _ h9 => h9) rfl dX1_text_36 ?_
        refine lv_iload_n hx hb dX1_text_39 rfl (lv_at hl 0 rfl) ?_
        refine lv_iadd hx hb dX1_text_40 ?_
        refine lv_topi (fun t13 et13 => ?_)
        refine lv_aload_n hx hb dX1_text_41 rfl (lv_at hl 1 rfl) ?_
        refine va_get (D := D) (ci := 1) (v := .int mn1) (C := RX1) (T := TX1) (N := 9) hx hb hts hin hown hK hP 0 rfl rfl 8 (by decide) lk33 (fun _ h9 => h9) rfl dX1_text_42 ?_
        refine lv_iadd hx hb dX1_text_45 ?_
        refine lv_topi (fun t14 et14 => ?_)
        refine lv_iconst (v := 1) hx hb dX1_text_46 (by decide) ?_
        refine lv_iadd hx hb dX1_text_47 ?_
        refine lv_topi (fun t15 et15 => ?_)
        refine lv_sipush (v := 3000) hx hb dX1_text_48 (by decide) ?_
        refine lv_icmp_le (tgt := 56) hx hb dX1_text_51 (by decide) (fun c16 => ?_) (fun c16 => ?_)
        · refine lv_aload_n hx hb dX1_text_56 rfl (lv_at hl 1 rfl) ?_
          refine va_get (D := D) (ci := 1) (v := .int kd1) (C := RX1) (T := TX1) (N := 9) hx hb hts hin hown hK hP 0 rfl rfl 3 (by decide) lk13 (fun _ h9 => h9) rfl dX1_text_57 ?_
          refine lv_iconst (v := 4) hx hb dX1_text_60 (by decide) ?_
          refine lv_icmp_eq (tgt := 69) hx hb dX1_text_61 (by decide) (fun c17 => ?_) (fun c17 => ?_)
          · exact absurd c17 c4
          · refine lv_aload_n hx hb dX1_text_64 rfl (lv_at hl 1 rfl) ?_
            refine lv_iconst (v := 4) hx hb dX1_text_65 (by decide) ?_
            obtain ⟨zz, hz1, hz2⟩ := hz
            have hq : sz1 = sz ∧ ∃ n : Nat, n ≤ 4 ∧ mn1 = nI n := by
              rcases mk_code_many (ro, sz, op, kd, tk, la, li, bt, mn) x1 with h | ⟨f, n, h1, h2⟩
              · exact absurd (by rw [er2, h]) c3
              · rw [h2] at eu1
                exact ⟨congrArg (fun z : MSt => z.2.1) eu1, n, h1, congrArg (fun z : MSt => z.2.2.2.2.2.2.2.2) eu1⟩
            obtain ⟨hq1, n, hn, hq2⟩ := hq
            have hb9 : zz + 2 + n + 1 ≤ 3000 := by
              have h : nI zz + nI 2 + nI n + nI 1 ≤ nI 3000 := by
                have h := c16
                rw [et15, et14, et13, hq1, hz1, hq2] at h
                exact h
              rw [nI_add, nI_add, nI_add] at h
              exact (nI_leI (by omega) (by omega)).mp h
            have hzz : sz1 = nI zz := hq1.trans hz1
            refine kk_mutV (cs := mkW cR cY m0 m1 m2) (ci := 1) (q0 := 0) (rest := []) ⟨hx, hb, hml, hown, hts⟩ (cM_start l D cR cY m0 m1 m2 ro1 sz1 op1 kd1 tk1 la1 li1 bt1 mn1 4 (fun h => absurd h c5) (fun _ => ⟨by rw [hzz]; exact vp_in_nI (by omega) (by omega), by rw [hzz, nI_1]; exact vp_in_nI (by omega) (by omega)⟩)) (cwV 1 hts gX1_text_X1_start rfl rfl rfl (by decide +kernel) ⟨Nat.le_of_ble_eq_true rfl, Nat.le_of_ble_eq_true rfl⟩) hK hP hD hS rfl rfl rfl hl.1 rfl (Nat.le_of_ble_eq_true rfl) dX1_text_66 ⟨Nat.zero_le _, Nat.zero_le _⟩ (fun u18 H locs hu18 hP hS hzu18 hku18 => ?_)
            obtain ⟨ro18, sz18, op18, kd18, tk18, la18, li18, bt18, mn18⟩ := u18
            have eu18 : (ro18, sz18, op18, kd18, tk18, la18, li18, bt18, mn18) = mk_start (ro1, sz1, op1, kd1, tk1, la1, li1, bt1, mn1) 4 := hu18
            have hD : va_D A (mkW cR cY m0 m1 m2 (ro18, sz18, op18, kd18, tk18, la18, li18, bt18, mn18)) := kk_D_same hD rfl
            refine lv_iconst (v := 0) hx hb dX1_text_69 (by decide) ?_
            refine lv_istore_n (lv' := [(3, .int 0), (2, .int 2), (0, .ref m0), (1, .int x1)]) hx hb dX1_text_70 rfl hl (by decide) rfl (fun ls hl => ?_)
            have hsf := mk_start_f (ro1, sz1, op1, kd1, tk1, la1, li1, bt1, mn1) 4
            rw [← eu18] at hsf
            have hqs : sz18 = nI (zz + 2) := by rw [show sz18 = sz1 + 1 + 1 from hsf.2.1 c5, hq1, hz1, nI_1]; exact nI_1 (zz + 1)
            have hqm : mn18 = nI n := by rw [show mn18 = mn1 from hsf.2.2]; exact hq2
            have hpl : mk_pall (ro18, sz18, op18, kd18, tk18, la18, li18, bt18, mn18) = mk_puts (ro18, sz18, op18, kd18, tk18, la18, li18, bt18, mn18) 0 n := by show mk_puts (ro18, sz18, op18, kd18, tk18, la18, li18, bt18, mn18) 0 (mn18).toNatClampNeg = _; rw [hqm, nI_clamp (by omega)]
            refine cM_textLoop l D cR cY m0 m1 m2 x1 2 (mk_pall (ro18, sz18, op18, kd18, tk18, la18, li18, bt18, mn18)) hx hb hts hown hml hK (fun k H locs ls hP hD hS hl => ?_) n 0 (ro18, sz18, op18, kd18, tk18, la18, li18, bt18, mn18) 0 H locs ls nI_0.symm (by rw [Nat.zero_add]; exact hqm) (by omega) ⟨(zz + 2), hqs, by omega⟩ hpl.symm hP hD hS (lv_sub hl [0, 2, 3, 1] rfl)
            obtain ⟨w19, ew19⟩ : ∃ w : MSt, w = mk_pall (ro18, sz18, op18, kd18, tk18, la18, li18, bt18, mn18) := ⟨_, rfl⟩
            rw [← ew19] at hP hD
            obtain ⟨ro19, sz19, op19, kd19, tk19, la19, li19, bt19, mn19⟩ := w19
            refine lv_iconst (v := 1) hx hb dX1_text_95 (by decide) ?_
            have hres : 1 = (mk_text (ro, sz, op, kd, tk, la, li, bt, mn) x1).1 := by
              subst et15 et14 et13 er2
              first | rfl | (simp only [mk_text, mk_text2, mk_text3, ← eu1, ← eu18, ← ew19, if_pos c3, if_pos c4, if_neg c5, if_pos c16, if_neg c4]; done) | (simp [mk_text, mk_text2, mk_text3, ← eu1, ← eu18, ← ew19, if_pos c3, if_pos c4, if_neg c5, if_pos c16, if_neg c4]; done)
            have hre2 : (ro19, sz19, op19, kd19, tk19, la19, li19, bt19, mn19) = (mk_text (ro, sz, op, kd, tk, la, li, bt, mn) x1).2 := by
              subst et15 et14 et13 er2
              first | rfl | (simp only [mk_text, mk_text2, mk_text3, ← eu1, ← eu18, ← ew19, if_pos c3, if_pos c4, if_neg c5, if_pos c16, if_neg c4]; done) | (simp [mk_text, mk_text2, mk_text3, ← eu1, ← eu18, ← ew19, if_pos c3, if_pos c4, if_neg c5, if_pos c16, if_neg c4]; done)
            exact W.zret (v := 1) (ty := .boolean) hx hb hr rfl (fun t ht hW => ⟨⟨1, (ro19, sz19, op19, kd19, tk19, la19, li19, bt19, mn19), rfl, ⟨hres, hre2⟩, by show va_P D vwCl _ t.heap; rw [ht]; exact hP⟩, hS.F ht⟩) hS.2.2 dX1_text_96
        · refine lv_iconst (v := 0) hx hb dX1_text_54 (by decide) ?_
          have hres : 0 = (mk_text (ro, sz, op, kd, tk, la, li, bt, mn) x1).1 := by
            subst et15 et14 et13 er2
            first | rfl | (simp only [mk_text, mk_text2, mk_text3, ← eu1, if_pos c3, if_pos c4, if_neg c5, if_neg c16]; done) | (simp [mk_text, mk_text2, mk_text3, ← eu1, if_pos c3, if_pos c4, if_neg c5, if_neg c16]; done)
          have hre2 : (ro1, sz1, op1, kd1, tk1, la1, li1, bt1, mn1) = (mk_text (ro, sz, op, kd, tk, la, li, bt, mn) x1).2 := by
            subst et15 et14 et13 er2
            first | rfl | (simp only [mk_text, mk_text2, mk_text3, ← eu1, if_pos c3, if_pos c4, if_neg c5, if_neg c16]; done) | (simp [mk_text, mk_text2, mk_text3, ← eu1, if_pos c3, if_pos c4, if_neg c5, if_neg c16]; done)
          exact W.zret (v := 0) (ty := .boolean) hx hb hr rfl (fun t ht hW => ⟨⟨0, (ro1, sz1, op1, kd1, tk1, la1, li1, bt1, mn1), rfl, ⟨hres, hre2⟩, by show va_P D vwCl _ t.heap; rw [ht]; exact hP⟩, hS.F ht⟩) hS.2.2 dX1_text_55
    · refine lv_iconst (v := 0) hx hb dX1_text_18 (by decide) ?_
      refine lv_goto (tgt := 34) hx hb dX1_text_19 (by decide) ?_
      refine lv_istore_n (lv' := [(2, .int 0), (0, .ref m0), (1, .int x1)]) hx hb dX1_text_34 rfl hl (by decide) rfl (fun ls hl => ?_)
      refine lv_aload_n hx hb dX1_text_35 rfl (lv_at hl 1 rfl) ?_
      refine va_get (D := D) (ci := 1) (v := .int sz1) (C := RX1) (T := TX1) (N := 9) hx hb hts hin hown hK hP 0 rfl rfl 1 (by decide) lk23 (fun _ h9 => h9) rfl dX1_text_36 ?_
      refine lv_iload_n hx hb dX1_text_39 rfl (lv_at hl 0 rfl) ?_
      refine lv_iadd hx hb dX1_text_40 ?_
      refine lv_topi (fun t20 et20 => ?_)
      refine lv_aload_n hx hb dX1_text_41 rfl (lv_at hl 1 rfl) ?_
      refine va_get (D := D) (ci := 1) (v := .int mn1) (C := RX1) (T := TX1) (N := 9) hx hb hts hin hown hK hP 0 rfl rfl 8 (by decide) lk33 (fun _ h9 => h9) rfl dX1_text_42 ?_
      refine lv_iadd hx hb dX1_text_45 ?_
      refine lv_topi (fun t21 et21 => ?_)
      refine lv_iconst (v := 1) hx hb dX1_text_46 (by decide) ?_
      refine lv_iadd hx hb dX1_text_47 ?_
      refine lv_topi (fun t22 et22 => ?_)
      refine lv_sipush (v := 3000) hx hb dX1_text_48 (by decide) ?_
      refine lv_icmp_le (tgt := 56) hx hb dX1_text_51 (by decide) (fun c23 => ?_) (fun c23 => ?_)
      · refine lv_aload_n hx hb dX1_text_56 rfl (lv_at hl 1 rfl) ?_
        refine va_get (D := D) (ci := 1) (v := .int kd1) (C := RX1) (T := TX1) (N := 9) hx hb hts hin hown hK hP 0 rfl rfl 3 (by decide) lk13 (fun _ h9 => h9) rfl dX1_text_57 ?_
        refine lv_iconst (v := 4) hx hb dX1_text_60 (by decide) ?_
        refine lv_icmp_eq (tgt := 69) hx hb dX1_text_61 (by decide) (fun c24 => ?_) (fun c24 => ?_)
        · refine lv_iconst (v := 0) hx hb dX1_text_69 (by decide) ?_
          refine lv_istore_n (lv' := [(3, .int 0), (2, .int 0), (0, .ref m0), (1, .int x1)]) hx hb dX1_text_70 rfl hl (by decide) rfl (fun ls hl => ?_)
          obtain ⟨zz, hz1, hz2⟩ := hz
          have hq : sz1 = sz ∧ ∃ n : Nat, n ≤ 4 ∧ mn1 = nI n := by
            rcases mk_code_many (ro, sz, op, kd, tk, la, li, bt, mn) x1 with h | ⟨f, n, h1, h2⟩
            · exact absurd (by rw [er2, h]) c3
            · rw [h2] at eu1
              exact ⟨congrArg (fun z : MSt => z.2.1) eu1, n, h1, congrArg (fun z : MSt => z.2.2.2.2.2.2.2.2) eu1⟩
          obtain ⟨hq1, n, hn, hq2⟩ := hq
          have hb9 : zz + 0 + n + 1 ≤ 3000 := by
            have h : nI zz + nI 0 + nI n + nI 1 ≤ nI 3000 := by
              have h := c23
              rw [et22, et21, et20, hq1, hz1, hq2] at h
              exact h
            rw [nI_add, nI_add, nI_add] at h
            exact (nI_leI (by omega) (by omega)).mp h
          have hqs : sz1 = nI zz := hq1.trans hz1
          have hqm : mn1 = nI n := hq2
          have hpl : mk_pall (ro1, sz1, op1, kd1, tk1, la1, li1, bt1, mn1) = mk_puts (ro1, sz1, op1, kd1, tk1, la1, li1, bt1, mn1) 0 n := by show mk_puts (ro1, sz1, op1, kd1, tk1, la1, li1, bt1, mn1) 0 (mn1).toNatClampNeg = _; rw [hqm, nI_clamp (by omega)]
          refine cM_textLoop l D cR cY m0 m1 m2 x1 0 (mk_pall (ro1, sz1, op1, kd1, tk1, la1, li1, bt1, mn1)) hx hb hts hown hml hK (fun k H locs ls hP hD hS hl => ?_) n 0 (ro1, sz1, op1, kd1, tk1, la1, li1, bt1, mn1) 0 H locs ls nI_0.symm (by rw [Nat.zero_add]; exact hqm) (by omega) ⟨zz, hqs, by omega⟩ hpl.symm hP hD hS (lv_sub hl [0, 2, 3, 1] rfl)
          obtain ⟨w25, ew25⟩ : ∃ w : MSt, w = mk_pall (ro1, sz1, op1, kd1, tk1, la1, li1, bt1, mn1) := ⟨_, rfl⟩
          rw [← ew25] at hP hD
          obtain ⟨ro25, sz25, op25, kd25, tk25, la25, li25, bt25, mn25⟩ := w25
          refine lv_iconst (v := 1) hx hb dX1_text_95 (by decide) ?_
          have hres : 1 = (mk_text (ro, sz, op, kd, tk, la, li, bt, mn) x1).1 := by
            subst et22 et21 et20 er2
            first | rfl | (simp only [mk_text, mk_text2, mk_text3, ← eu1, ← ew25, if_pos c3, if_neg (not_not_intro c4), if_pos c23, if_pos c4]; done) | (simp [mk_text, mk_text2, mk_text3, ← eu1, ← ew25, if_pos c3, if_neg (not_not_intro c4), if_pos c23, if_pos c4]; done)
          have hre2 : (ro25, sz25, op25, kd25, tk25, la25, li25, bt25, mn25) = (mk_text (ro, sz, op, kd, tk, la, li, bt, mn) x1).2 := by
            subst et22 et21 et20 er2
            first | rfl | (simp only [mk_text, mk_text2, mk_text3, ← eu1, ← ew25, if_pos c3, if_neg (not_not_intro c4), if_pos c23, if_pos c4]; done) | (simp [mk_text, mk_text2, mk_text3, ← eu1, ← ew25, if_pos c3, if_neg (not_not_intro c4), if_pos c23, if_pos c4]; done)
          exact W.zret (v := 1) (ty := .boolean) hx hb hr rfl (fun t ht hW => ⟨⟨1, (ro25, sz25, op25, kd25, tk25, la25, li25, bt25, mn25), rfl, ⟨hres, hre2⟩, by show va_P D vwCl _ t.heap; rw [ht]; exact hP⟩, hS.F ht⟩) hS.2.2 dX1_text_96
        · exact absurd c4 c24
      · refine lv_iconst (v := 0) hx hb dX1_text_54 (by decide) ?_
        have hres : 0 = (mk_text (ro, sz, op, kd, tk, la, li, bt, mn) x1).1 := by
          subst et22 et21 et20 er2
          first | rfl | (simp only [mk_text, mk_text2, mk_text3, ← eu1, if_pos c3, if_neg (not_not_intro c4), if_neg c23]; done) | (simp [mk_text, mk_text2, mk_text3, ← eu1, if_pos c3, if_neg (not_not_intro c4), if_neg c23]; done)
        have hre2 : (ro1, sz1, op1, kd1, tk1, la1, li1, bt1, mn1) = (mk_text (ro, sz, op, kd, tk, la, li, bt, mn) x1).2 := by
          subst et22 et21 et20 er2
          first | rfl | (simp only [mk_text, mk_text2, mk_text3, ← eu1, if_pos c3, if_neg (not_not_intro c4), if_neg c23]; done) | (simp [mk_text, mk_text2, mk_text3, ← eu1, if_pos c3, if_neg (not_not_intro c4), if_neg c23]; done)
        exact W.zret (v := 0) (ty := .boolean) hx hb hr rfl (fun t ht hW => ⟨⟨0, (ro1, sz1, op1, kd1, tk1, la1, li1, bt1, mn1), rfl, ⟨hres, hre2⟩, by show va_P D vwCl _ t.heap; rw [ht]; exact hP⟩, hS.F ht⟩) hS.2.2 dX1_text_55
  · refine lv_iconst (v := 0) hx hb dX1_text_8 (by decide) ?_
    have hres : 0 = (mk_text (ro, sz, op, kd, tk, la, li, bt, mn) x1).1 := by
      subst er2
      first | rfl | (simp only [mk_text, mk_text2, mk_text3, ← eu1, if_neg (not_not_intro c3)]; done) | (simp [mk_text, mk_text2, mk_text3, ← eu1, if_neg (not_not_intro c3)]; done)
    have hre2 : (ro1, sz1, op1, kd1, tk1, la1, li1, bt1, mn1) = (mk_text (ro, sz, op, kd, tk, la, li, bt, mn) x1).2 := by
      subst er2
      first | rfl | (simp only [mk_text, mk_text2, mk_text3, ← eu1, if_neg (not_not_intro c3)]; done) | (simp [mk_text, mk_text2, mk_text3, ← eu1, if_neg (not_not_intro c3)]; done)
    exact W.zret (v := 0) (ty := .boolean) hx hb hr rfl (fun t ht hW => ⟨⟨0, (ro1, sz1, op1, kd1, tk1, la1, li1, bt1, mn1), rfl, ⟨hres, hre2⟩, by show va_P D vwCl _ t.heap; rw [ht]; exact hP⟩, hS.F ht⟩) hS.2.2 dX1_text_9
end
section
set_option maxHeartbeats 4000000 in
set_option maxRecDepth 100000 in
theorem cM_countLoop (l : Launch) (D : va_G) (cR cY : ClassId) (m0 m1 m2 : Nat)  (ro : Nat → Int32) (sz op kd tk la li : Int32) (bt : Nat → Int32) (mn : Int32) (x1 r : Int32) {H : Heap} {locs : List Loc} {p : Program} {e : Env} {s : State} {m : MethodId} {below : List Frame} {meth : Method} {c : Code} {args : Array Value} {H0 : Heap} {Q : State → Prop} {A : Nat → Prop} (hx : p.tables.exec = Jvm.exec) (hb : c.code = cX1_count) (hts : ∀ x ∈ wsX1_count, x.before args s = true) (hown : s.vm.findClass RX1 = some m.cls) (hml : c.maxLocals = 4) (hK : va_K D vwCl [(cR, .int), (cY, .int)] s) (hP : va_P D vwCl (mkW cR cY m0 m1 m2 (ro, sz, op, kd, tk, la, li, bt, mn)) H) (hD : va_D A (mkW cR cY m0 m1 m2 (ro, sz, op, kd, tk, la, li, bt, mn)))
    (hex : ∀ (ls : Array Slot) (k : Int32), lv_has ls 4 [(3, .int k), (2, .int r), (0, .ref m0), (1, .int x1)] → W p l e { frames := 0, cells := 0, slots := 0, locals := 0 } s m args below meth c H locs 0 0 Q (F0 m 92 ls [])) :
    ∀ (n j : Nat) (acc k : Int32) (ls : Array Slot), k = nI j → sz = nI (j + n) → j + n ≤ 3000 → mk_cn ro acc k n = r → lv_has ls 4 [(3, .int k), (2, .int acc), (0, .ref m0), (1, .int x1)] → W p l e { frames := 0, cells := 0, slots := 0, locals := 0 } s m args below meth c H locs 0 0 Q (F0 m 59 ls []) := by
  have hin : ∀ w ∈ wsX10, w ∈ wsX1_count := by decide +kernel
  have lk23 := hts (.fieldLink RX1 23 "EventLineDeskModel" "size" "I") (by decide +kernel)
  have lk13 := hts (.fieldLink RX1 13 "EventLineDeskModel" "kind" "I") (by decide +kernel)
  have lk26 := hts (.fieldLink RX1 26 "EventLineDeskModel" "open" "I") (by decide +kernel)
  have lk53 := hts (.fieldLink RX1 53 "EventLineDeskModel" "lines" "I") (by decide +kernel)
  have lk7 := hts (.fieldLink RX1 7 "EventLineDeskModel" "row" "[I") (by decide +kernel)
  intro n
  induction n with
  | zero =>
    intro j acc k ls hk hm hj hr9 hl
    refine lv_iload_n hx hb dX1_count_59 rfl (lv_at hl 0 rfl) ?_
    refine lv_aload_n hx hb dX1_count_60 rfl (lv_at hl 2 rfl) ?_
    refine va_get (D := D) (ci := 1) (v := .int sz) (C := RX1) (T := TX1) (N := 9) hx hb hts hin hown hK hP 0 rfl rfl 1 (by decide) lk23 (fun _ h9 => h9) rfl dX1_count_61 ?_
    refine lv_icmp_ge (tgt := 92) hx hb dX1_count_64 (by decide) (fun c1 => ?_) (fun c1 => ?_)
    · have hr9 : acc = r := hr9
      subst hr9
      exact hex ls k hl
    · exact absurd c1 (not_not_intro (by rw [hk, hm]; exact nI_le (Nat.le_refl _) (by omega)))
  | succ n ih =>
    intro j acc k ls hk hm hj hr9 hl
    refine lv_iload_n hx hb dX1_count_59 rfl (lv_at hl 0 rfl) ?_
    refine lv_aload_n hx hb dX1_count_60 rfl (lv_at hl 2 rfl) ?_
    refine va_get (D := D) (ci := 1) (v := .int sz) (C := RX1) (T := TX1) (N := 9) hx hb hts hin hown hK hP 0 rfl rfl 1 (by decide) lk23 (fun _ h9 => h9) rfl dX1_count_61 ?_
    refine lv_icmp_ge (tgt := 92) hx hb dX1_count_64 (by decide) (fun c1 => ?_) (fun c1 => ?_)
    · exact absurd c1 (by rw [hk, hm]; exact nI_ge (by omega) (by omega))
    · refine lv_iload_n hx hb dX1_count_67 rfl (lv_at hl 1 rfl) ?_
      refine lv_aload_n hx hb dX1_count_68 rfl (lv_at hl 2 rfl) ?_
      refine va_get (D := D) (ci := 1) (v := .ref m1) (C := RX1) (T := TX1) (N := 9) hx hb hts hin hown hK hP 0 rfl rfl 0 (by decide) lk7 (fun _ h9 => h9) rfl dX1_count_69 ?_
      refine lv_iload_n hx hb dX1_count_72 rfl (lv_at hl 0 rfl) ?_
      refine va_iald hx hb hK hP 1 0 rfl rfl (by rw [hk]; exact vp_in_nI (by omega) (by omega)) dX1_count_73 ?_
      refine lv_topi (fun t2 et2 => ?_)
      refine lv_bipush (v := 10) hx hb dX1_count_74 (by decide) ?_
      refine lv_icmp_ne (tgt := 83) hx hb dX1_count_76 (by decide) (fun c3 => ?_) (fun c3 => ?_)
      · refine lv_iconst (v := 0) hx hb dX1_count_83 (by decide) ?_
        refine lv_iadd hx hb dX1_count_84 ?_
        refine lv_topi (fun t4 et4 => ?_)
        refine lv_istore_n (lv' := [(2, .int t4), (3, .int k), (0, .ref m0), (1, .int x1)]) hx hb dX1_count_85 rfl hl (by decide) rfl (fun ls hl => ?_)
        obtain ⟨t5, et5⟩ : ∃ y : Int32, y = k + 1 := ⟨_, rfl⟩
        refine lv_iinc (v := t5) (lv' := [(3, .int t5), (2, .int t4), (0, .ref m0), (1, .int x1)]) hx hb dX1_count_86 hl (k := 1) rfl (by rw [et5]; rfl) (by decide) rfl (fun ls hl => ?_)
        refine lv_goto (tgt := 59) hx hb dX1_count_89 (by decide) ?_
        refine ih (j + 1) t4 t5 ls (by rw [et5, hk]; exact nI_1 j) (by rw [hm]; congr 1; omega) (by omega) ?_ (lv_sub hl [0, 1, 2, 3] rfl)
        rw [← hr9]
        subst et5 et4 et2
        simp only [mk_cn, if_pos c3]
      · refine lv_iconst (v := 1) hx hb dX1_count_79 (by decide) ?_
        refine lv_goto (tgt := 84) hx hb dX1_count_80 (by decide) ?_
        refine lv_iadd hx hb dX1_count_84 ?_
        refine lv_topi (fun t6 et6 => ?_)
        refine lv_istore_n (lv' := [(2, .int t6), (3, .int k), (0, .ref m0), (1, .int x1)]) hx hb dX1_count_85 rfl hl (by decide) rfl (fun ls hl => ?_)
        obtain ⟨t7, et7⟩ : ∃ y : Int32, y = k + 1 := ⟨_, rfl⟩
        refine lv_iinc (v := t7) (lv' := [(3, .int t7), (2, .int t6), (0, .ref m0), (1, .int x1)]) hx hb dX1_count_86 hl (k := 1) rfl (by rw [et7]; rfl) (by decide) rfl (fun ls hl => ?_)
        refine lv_goto (tgt := 59) hx hb dX1_count_89 (by decide) ?_
        refine ih (j + 1) t6 t7 ls (by rw [et7, hk]; exact nI_1 j) (by rw [hm]; congr 1; omega) (by omega) ?_ (lv_sub hl [0, 1, 2, 3] rfl)
        rw [← hr9]
        subst et7 et6 et2
        simp only [mk_cn, if_neg (not_not_intro c3)]
set_option maxHeartbeats 4000000 in
set_option maxRecDepth 100000 in
theorem cM_count (l : Launch) (D : va_G) (cR cY : ClassId) (m0 m1 m2 : Nat) (ro : Nat → Int32) (sz op kd tk la li : Int32) (bt : Nat → Int32) (mn : Int32) (x1 : Int32) (hz : mk_ok sz) : mkR l yX1_count wsX1_count ({ frames := 0, cells := 0, slots := 0, locals := 0 }) D cR cY m0 m1 m2 (ro, sz, op, kd, tk, la, li, bt, mn) [.int x1] (mk_count (ro, sz, op, kd, tk, la, li, bt, mn) x1) := by
  refine kk_of (cc := cX1_count) (maxL := 4) (ret := (some .int)) (by decide) rfl (Nat.le_of_ble_eq_true rfl) ?_
  intro p e s m below meth c ls hx hb hr hts hown hlocks hml hnm hP hK hD hl
  have hown : s.vm.findClass RX1 = some m.cls := hown
  have hl : lv_has ls 4 [(0, .ref m0), (1, .int x1)] := hl
  have hin : ∀ w ∈ wsX10, w ∈ wsX1_count := by decide +kernel
  have lk23 := hts (.fieldLink RX1 23 "EventLineDeskModel" "size" "I") (by decide +kernel)
  have lk13 := hts (.fieldLink RX1 13 "EventLineDeskModel" "kind" "I") (by decide +kernel)
  have lk26 := hts (.fieldLink RX1 26 "EventLineDeskModel" "open" "I") (by decide +kernel)
  have lk53 := hts (.fieldLink RX1 53 "EventLineDeskModel" "lines" "I") (by decide +kernel)
  have lk7 := hts (.fieldLink RX1 7 "EventLineDeskModel" "row" "[I") (by decide +kernel)
  refine lv_iload_n hx hb dX1_count_0 rfl (lv_at hl 1 rfl) ?_
  rcases dk_sw4 x1 with c1 | c1 | c1 | c1 | c1
  · refine lv_tableOut (tgt := 50) hx hb dX1_count_1 c1 (by decide) ?_
    obtain ⟨c1_0, c1_1, c1_2, c1_3⟩ := dk_ne4 c1
    refine lv_iconst (v := (-1)) hx hb dX1_count_50 (by decide) ?_
    have hres : (-1) = mk_count (ro, sz, op, kd, tk, la, li, bt, mn) x1 := by
      first | rfl | (simp only [mk_count, if_neg c1_0, if_neg c1_1, if_neg c1_2, if_neg c1_3]; done) | (simp [mk_count, if_neg c1_0, if_neg c1_1, if_neg c1_2, if_neg c1_3]; done)
    exact W.iret (v := (-1)) hx hb hr (fun t ht hW => ⟨congrArg (fun z => Outcome.returned (some (Value.int z))) hres, ht⟩) (fun q h => absurd h List.not_mem_nil) dX1_count_51
  · refine lv_tableIn (tgt := 32) hx hb dX1_count_1 (by rw [c1]; decide) (by rw [c1]; decide) (off := 31) (by rw [c1]; rfl) (by decide) ?_
    refine lv_aload_n hx hb dX1_count_32 rfl (lv_at hl 0 rfl) ?_
    refine va_get (D := D) (ci := 1) (v := .int sz) (C := RX1) (T := TX1) (N := 9) hx hb hts hin hown hK hP 0 rfl rfl 1 (by decide) lk23 (fun _ h9 => h9) rfl dX1_count_33 ?_
    have hres : sz = mk_count (ro, sz, op, kd, tk, la, li, bt, mn) x1 := by
      first | (rw [c1]; rfl) | (simp only [c1, mk_count]; done) | (simp [c1, mk_count]; done)
    exact W.iret (v := sz) hx hb hr (fun t ht hW => ⟨congrArg (fun z => Outcome.returned (some (Value.int z))) hres, ht⟩) (fun q h => absurd h List.not_mem_nil) dX1_count_36
  · refine lv_tableIn (tgt := 37) hx hb dX1_count_1 (by rw [c1]; decide) (by rw [c1]; decide) (off := 36) (by rw [c1]; rfl) (by decide) ?_
    refine lv_goto (tgt := 52) hx hb dX1_count_37 (by decide) ?_
    refine lv_aload_n hx hb dX1_count_52 rfl (lv_at hl 0 rfl) ?_
    refine va_get (D := D) (ci := 1) (v := .int li) (C := RX1) (T := TX1) (N := 9) hx hb hts hin hown hK hP 0 rfl rfl 6 (by decide) lk53 (fun _ h9 => h9) rfl dX1_count_53 ?_
    refine lv_istore_n (lv' := [(2, .int li), (0, .ref m0), (1, .int x1)]) hx hb dX1_count_56 rfl hl (by decide) rfl (fun ls hl => ?_)
    refine lv_iconst (v := 0) hx hb dX1_count_57 (by decide) ?_
    refine lv_istore_n (lv' := [(3, .int 0), (2, .int li), (0, .ref m0), (1, .int x1)]) hx hb dX1_count_58 rfl hl (by decide) rfl (fun ls hl => ?_)
    obtain ⟨zz, hz1, hz2⟩ := hz
    refine cM_countLoop (H0 := s.heap) l D cR cY m0 m1 m2 ro sz op kd tk la li bt mn x1 (mk_cn ro li 0 zz) hx hb hts hown hml hK hP hD (fun ls k hl => ?_) zz 0 li 0 ls nI_0.symm (by rw [Nat.zero_add]; exact hz1) (by omega) rfl (lv_sub hl [0, 1, 2, 3] rfl)
    have hq9 : mk_cn ro li 0 zz = mk_cn ro li 0 sz.toNatClampNeg := by rw [hz1, nI_clamp (by omega)]
    rw [hq9] at hl
    refine lv_iload_n hx hb dX1_count_92 rfl (lv_at hl 1 rfl) ?_
    have hres : (mk_cn ro li 0 sz.toNatClampNeg) = mk_count (ro, sz, op, kd, tk, la, li, bt, mn) x1 := by
      first | (rw [c1]; rfl) | (simp only [c1, mk_count]; done) | (simp [c1, mk_count]; done)
    exact W.iret (v := (mk_cn ro li 0 sz.toNatClampNeg)) hx hb hr (fun t ht hW => ⟨congrArg (fun z => Outcome.returned (some (Value.int z))) hres, ht⟩) (fun q h => absurd h List.not_mem_nil) dX1_count_93
  · refine lv_tableIn (tgt := 40) hx hb dX1_count_1 (by rw [c1]; decide) (by rw [c1]; decide) (off := 39) (by rw [c1]; rfl) (by decide) ?_
    refine lv_aload_n hx hb dX1_count_40 rfl (lv_at hl 0 rfl) ?_
    refine va_get (D := D) (ci := 1) (v := .int kd) (C := RX1) (T := TX1) (N := 9) hx hb hts hin hown hK hP 0 rfl rfl 3 (by decide) lk13 (fun _ h9 => h9) rfl dX1_count_41 ?_
    have hres : kd = mk_count (ro, sz, op, kd, tk, la, li, bt, mn) x1 := by
      first | (rw [c1]; rfl) | (simp only [c1, mk_count]; done) | (simp [c1, mk_count]; done)
    exact W.iret (v := kd) hx hb hr (fun t ht hW => ⟨congrArg (fun z => Outcome.returned (some (Value.int z))) hres, ht⟩) (fun q h => absurd h List.not_mem_nil) dX1_count_44
  · refine lv_tableIn (tgt := 45) hx hb dX1_count_1 (by rw [c1]; decide) (by rw [c1]; decide) (off := 44) (by rw [c1]; rfl) (by decide) ?_
    refine lv_aload_n hx hb dX1_count_45 rfl (lv_at hl 0 rfl) ?_
    refine va_get (D := D) (ci := 1) (v := .int op) (C := RX1) (T := TX1) (N := 9) hx hb hts hin hown hK hP 0 rfl rfl 2 (by decide) lk26 (fun _ h9 => h9) rfl dX1_count_46 ?_
    have hres : op = mk_count (ro, sz, op, kd, tk, la, li, bt, mn) x1 := by
      first | (rw [c1]; rfl) | (simp only [c1, mk_count]; done) | (simp [c1, mk_count]; done)
    exact W.iret (v := op) hx hb hr (fun t ht hW => ⟨congrArg (fun z => Outcome.returned (some (Value.int z))) hres, ht⟩) (fun q h => absurd h List.not_mem_nil) dX1_count_49
set_option maxHeartbeats 4000000 in
set_option maxRecDepth 100000 in
theorem cM_takeL1 (l : Launch) (D : va_G) (cR cY : ClassId) (m0 m1 m2 : Nat) (ro : Nat → Int32) (sz op kd tk la : Int32) (bt : Nat → Int32) (mn : Int32) (nn : Int32) (r1 : Int64) (r2 : Int32) {p : Program} {e : Env} {s : State} {m : MethodId} {below : List Frame} {meth : Method} {c : Code} {args : Array Value} {H0 : Heap} {Q : State → Prop} {A : Nat → Prop} (hx : p.tables.exec = Jvm.exec) (hb : c.code = cX1_take) (hts : ∀ x ∈ wsX1_take, x.before args s = true) (hown : s.vm.findClass RX1 = some m.cls) (hml : c.maxLocals = 5) (hK : va_K D vwCl [(cR, .int), (cY, .int)] s)
    (hex : ∀ (k : Int32) (H : Heap) (locs : List Loc) (ls : Array Slot), va_P D vwCl (mkW cR cY m0 m1 m2 (ro, sz, op, kd, tk, la, r2, bt, mn)) H → va_D A (mkW cR cY m0 m1 m2 (ro, sz, op, kd, tk, la, r2, bt, mn)) → va_S A H0 H locs → lv_has ls 5 [(4, .int k), (2, .long r1), (1, .int nn), (0, .ref m0)] → W p l e { frames := 0, cells := 0, slots := 0, locals := 0 } s m args below meth c H locs 0 0 Q (F0 m 102 ls [])) :
    ∀ (n j : Nat) (out : Int64) (li k : Int32) (H : Heap) (locs : List Loc) (ls : Array Slot), k = nI j → nn = nI (j + n) → j + n ≤ 3000 → mk_t1 ro out k n = r1 → mk_cn ro li k n = r2 → va_P D vwCl (mkW cR cY m0 m1 m2 (ro, sz, op, kd, tk, la, li, bt, mn)) H → va_D A (mkW cR cY m0 m1 m2 (ro, sz, op, kd, tk, la, li, bt, mn)) → va_S A H0 H locs → lv_has ls 5 [(4, .int k), (2, .long out), (1, .int nn), (0, .ref m0)] → W p l e { frames := 0, cells := 0, slots := 0, locals := 0 } s m args below meth c H locs 0 0 Q (F0 m 44 ls []) := by
  have hin : ∀ w ∈ wsX10, w ∈ wsX1_take := by decide +kernel
  have lk23 := hts (.fieldLink RX1 23 "EventLineDeskModel" "size" "I") (by decide +kernel)
  have lk26 := hts (.fieldLink RX1 26 "EventLineDeskModel" "open" "I") (by decide +kernel)
  have lk7 := hts (.fieldLink RX1 7 "EventLineDeskModel" "row" "[I") (by decide +kernel)
  have lk53 := hts (.fieldLink RX1 53 "EventLineDeskModel" "lines" "I") (by decide +kernel)
  have lk17 := hts (.fieldLink RX1 17 "EventLineDeskModel" "last" "I") (by decide +kernel)
  have lk50 := hts (.fieldLink RX1 50 "EventLineDeskModel" "taken" "I") (by decide +kernel)
  intro n
  induction n with
  | zero =>
    intro j out li k H locs ls hk hm hj hr9 hr8 hP hD hS hl
    refine lv_iload hx hb dX1_take_44 (lv_at hl 0 rfl) ?_
    refine lv_iload_n hx hb dX1_take_46 rfl (lv_at hl 2 rfl) ?_
    refine lv_icmp_ge (tgt := 102) hx hb dX1_take_47 (by decide) (fun c1 => ?_) (fun c1 => ?_)
    · have hr9 : out = r1 := hr9
      have hr8 : li = r2 := hr8
      subst hr9
      subst hr8
      exact hex k H locs ls hP hD hS hl
    · exact absurd c1 (not_not_intro (by rw [hk, hm]; exact nI_le (Nat.le_refl _) (by omega)))
  | succ n ih =>
    intro j out li k H locs ls hk hm hj hr9 hr8 hP hD hS hl
    refine lv_iload hx hb dX1_take_44 (lv_at hl 0 rfl) ?_
    refine lv_iload_n hx hb dX1_take_46 rfl (lv_at hl 2 rfl) ?_
    refine lv_icmp_ge (tgt := 102) hx hb dX1_take_47 (by decide) (fun c1 => ?_) (fun c1 => ?_)
    · exact absurd c1 (by rw [hk, hm]; exact nI_ge (by omega) (by omega))
    · refine lv_lload_n hx hb dX1_take_50 rfl (lv_at hl 1 rfl) ?_
      refine lv_aload_n hx hb dX1_take_51 rfl (lv_at hl 3 rfl) ?_
      refine va_get (D := D) (ci := 1) (v := .ref m1) (C := RX1) (T := TX1) (N := 9) hx hb hts hin hown hK hP 0 rfl rfl 0 (by decide) lk7 (fun _ h9 => h9) rfl dX1_take_52 ?_
      refine lv_iload hx hb dX1_take_55 (lv_at hl 0 rfl) ?_
      refine va_iald hx hb hK hP 1 0 rfl rfl (by rw [hk]; exact vp_in_nI (by omega) (by omega)) dX1_take_57 ?_
      refine lv_topi (fun t2 et2 => ?_)
      refine lv_i2l hx hb dX1_take_58 rfl ?_
      refine lv_topl (fun t3 et3 => ?_)
      refine lv_bipush (v := 48) hx hb dX1_take_59 (by decide) ?_
      refine lv_bipush (v := 8) hx hb dX1_take_61 (by decide) ?_
      refine lv_iload hx hb dX1_take_63 (lv_at hl 0 rfl) ?_
      refine lv_imul hx hb dX1_take_65 ?_
      refine lv_topi (fun t4 et4 => ?_)
      refine lv_isub hx hb dX1_take_66 ?_
      refine lv_topi (fun t5 et5 => ?_)
      refine lv_lshl hx hb dX1_take_67 rfl ?_
      refine lv_topl (fun t6 et6 => ?_)
      refine lv_lor hx hb dX1_take_68 ?_
      refine lv_topl (fun t7 et7 => ?_)
      refine lv_lstore_n (lv' := [(2, .long t7), (4, .int k), (1, .int nn), (0, .ref m0)]) hx hb dX1_take_69 rfl hl (by decide) rfl (fun ls hl => ?_)
      refine lv_aload_n hx hb dX1_take_70 rfl (lv_at hl 3 rfl) ?_
      refine lv_aload_n hx hb dX1_take_71 rfl (lv_at hl 3 rfl) ?_
      refine va_get (D := D) (ci := 1) (v := .int li) (C := RX1) (T := TX1) (N := 9) hx hb hts hin hown hK hP 0 rfl rfl 6 (by decide) lk53 (fun _ h9 => h9) rfl dX1_take_72 ?_
      refine lv_aload_n hx hb dX1_take_75 rfl (lv_at hl 3 rfl) ?_
      refine va_get (D := D) (ci := 1) (v := .ref m1) (C := RX1) (T := TX1) (N := 9) hx hb hts hin hown hK hP 0 rfl rfl 0 (by decide) lk7 (fun _ h9 => h9) rfl dX1_take_76 ?_
      refine lv_iload hx hb dX1_take_79 (lv_at hl 1 rfl) ?_
      refine va_iald hx hb hK hP 1 0 rfl rfl (by rw [hk]; exact vp_in_nI (by omega) (by omega)) dX1_take_81 ?_
      refine lv_topi (fun t8 et8 => ?_)
      refine lv_bipush (v := 10) hx hb dX1_take_82 (by decide) ?_
      refine lv_icmp_ne (tgt := 91) hx hb dX1_take_84 (by decide) (fun c9 => ?_) (fun c9 => ?_)
      · refine lv_iconst (v := 0) hx hb dX1_take_91 (by decide) ?_
        refine lv_iadd hx hb dX1_take_92 ?_
        refine lv_topi (fun t10 et10 => ?_)
        refine va_put (D := D) (ci := 1) (v := .int t10) (ty := .int) (C := RX1) (T := TX1) (N := 9) hx hb hts hin tyX1 tyX1_ok nmX1 hown hK hP hD hS 0 rfl rfl 6 (by decide) lk53 (fun _ h9 => h9) rfl (by decide +kernel) rfl rfl (Nat.le_of_ble_eq_true rfl) dX1_take_93 (fun H locs hP hD hS => ?_)
        have hP : va_P D vwCl (mkW cR cY m0 m1 m2 (ro, sz, op, kd, tk, la, t10, bt, mn)) H := hP
        have hD : va_D A (mkW cR cY m0 m1 m2 (ro, sz, op, kd, tk, la, t10, bt, mn)) := hD
        obtain ⟨t11, et11⟩ : ∃ y : Int32, y = k + 1 := ⟨_, rfl⟩
        refine lv_iinc (v := t11) (lv' := [(4, .int t11), (2, .long t7), (1, .int nn), (0, .ref m0)]) hx hb dX1_take_96 hl (k := 1) rfl (by rw [et11]; rfl) (by decide) rfl (fun ls hl => ?_)
        refine lv_goto (tgt := 44) hx hb dX1_take_99 (by decide) ?_
        refine ih (j + 1) t7 t10 t11 H locs ls (by rw [et11, hk]; exact nI_1 j) (by rw [hm]; congr 1; omega) (by omega) ?_ ?_ hP hD hS (lv_sub hl [0, 1, 2, 3] rfl)
        · rw [← hr9]
          subst et11 et10 et8 et7 et6 et5 et4 et3 et2
          simp only [mk_t1]
        · rw [← hr8]
          subst et11 et10 et8 et7 et6 et5 et4 et3 et2
          simp only [mk_cn, if_pos c9]
      · refine lv_iconst (v := 1) hx hb dX1_take_87 (by decide) ?_
        refine lv_goto (tgt := 92) hx hb dX1_take_88 (by decide) ?_
        refine lv_iadd hx hb dX1_take_92 ?_
        refine lv_topi (fun t12 et12 => ?_)
        refine va_put (D := D) (ci := 1) (v := .int t12) (ty := .int) (C := RX1) (T := TX1) (N := 9) hx hb hts hin tyX1 tyX1_ok nmX1 hown hK hP hD hS 0 rfl rfl 6 (by decide) lk53 (fun _ h9 => h9) rfl (by decide +kernel) rfl rfl (Nat.le_of_ble_eq_true rfl) dX1_take_93 (fun H locs hP hD hS => ?_)
        have hP : va_P D vwCl (mkW cR cY m0 m1 m2 (ro, sz, op, kd, tk, la, t12, bt, mn)) H := hP
        have hD : va_D A (mkW cR cY m0 m1 m2 (ro, sz, op, kd, tk, la, t12, bt, mn)) := hD
        obtain ⟨t13, et13⟩ : ∃ y : Int32, y = k + 1 := ⟨_, rfl⟩
        refine lv_iinc (v := t13) (lv' := [(4, .int t13), (2, .long t7), (1, .int nn), (0, .ref m0)]) hx hb dX1_take_96 hl (k := 1) rfl (by rw [et13]; rfl) (by decide) rfl (fun ls hl => ?_)
        refine lv_goto (tgt := 44) hx hb dX1_take_99 (by decide) ?_
        refine ih (j + 1) t7 t12 t13 H locs ls (by rw [et13, hk]; exact nI_1 j) (by rw [hm]; congr 1; omega) (by omega) ?_ ?_ hP hD hS (lv_sub hl [0, 1, 2, 3] rfl)
        · rw [← hr9]
          subst et13 et12 et8 et7 et6 et5 et4 et3 et2
          simp only [mk_t1]
        · rw [← hr8]
          subst et13 et12 et8 et7 et6 et5 et4 et3 et2
          simp only [mk_cn, if_neg (not_not_intro c9)]
set_option maxHeartbeats 4000000 in
set_option maxRecDepth 100000 in
theorem cM_takeL2 (l : Launch) (D : va_G) (cR cY : ClassId) (m0 m1 m2 : Nat) (sz op kd tk la li : Int32) (bt : Nat → Int32) (mn : Int32) (nn : Int32) (out : Int64) (r : Nat → Int32) (n0 : Nat) (hn0 : nn = nI n0) {p : Program} {e : Env} {s : State} {m : MethodId} {below : List Frame} {meth : Method} {c : Code} {args : Array Value} {H0 : Heap} {Q : State → Prop} {A : Nat → Prop} (hx : p.tables.exec = Jvm.exec) (hb : c.code = cX1_take) (hts : ∀ x ∈ wsX1_take, x.before args s = true) (hown : s.vm.findClass RX1 = some m.cls) (hml : c.maxLocals = 5) (hK : va_K D vwCl [(cR, .int), (cY, .int)] s)
    (hex : ∀ (k : Int32) (H : Heap) (locs : List Loc) (ls : Array Slot), va_P D vwCl (mkW cR cY m0 m1 m2 (r, sz, op, kd, tk, la, li, bt, mn)) H → va_D A (mkW cR cY m0 m1 m2 (r, sz, op, kd, tk, la, li, bt, mn)) → va_S A H0 H locs → lv_has ls 5 [(4, .int k), (2, .long out), (1, .int nn), (0, .ref m0)] → W p l e { frames := 0, cells := 0, slots := 0, locals := 0 } s m args below meth c H locs 0 0 Q (F0 m 148 ls [])) :
    ∀ (n j : Nat) (ro : Nat → Int32) (k : Int32) (H : Heap) (locs : List Loc) (ls : Array Slot), k = nI j → sz = nI (j + n) → j + n ≤ 3000 → n0 ≤ j → mk_sh ro nn k n = r → va_P D vwCl (mkW cR cY m0 m1 m2 (ro, sz, op, kd, tk, la, li, bt, mn)) H → va_D A (mkW cR cY m0 m1 m2 (ro, sz, op, kd, tk, la, li, bt, mn)) → va_S A H0 H locs → lv_has ls 5 [(4, .int k), (2, .long out), (1, .int nn), (0, .ref m0)] → W p l e { frames := 0, cells := 0, slots := 0, locals := 0 } s m args below meth c H locs 0 0 Q (F0 m 117 ls []) := by
  have hin : ∀ w ∈ wsX10, w ∈ wsX1_take := by decide +kernel
  have lk23 := hts (.fieldLink RX1 23 "EventLineDeskModel" "size" "I") (by decide +kernel)
  have lk26 := hts (.fieldLink RX1 26 "EventLineDeskModel" "open" "I") (by decide +kernel)
  have lk7 := hts (.fieldLink RX1 7 "EventLineDeskModel" "row" "[I") (by decide +kernel)
  have lk53 := hts (.fieldLink RX1 53 "EventLineDeskModel" "lines" "I") (by decide +kernel)
  have lk17 := hts (.fieldLink RX1 17 "EventLineDeskModel" "last" "I") (by decide +kernel)
  have lk50 := hts (.fieldLink RX1 50 "EventLineDeskModel" "taken" "I") (by decide +kernel)
  intro n
  induction n with
  | zero =>
    intro j ro k H locs ls hk hm hj hnj hr9 hP hD hS hl
    refine lv_iload hx hb dX1_take_117 (lv_at hl 0 rfl) ?_
    refine lv_aload_n hx hb dX1_take_119 rfl (lv_at hl 3 rfl) ?_
    refine va_get (D := D) (ci := 1) (v := .int sz) (C := RX1) (T := TX1) (N := 9) hx hb hts hin hown hK hP 0 rfl rfl 1 (by decide) lk23 (fun _ h9 => h9) rfl dX1_take_120 ?_
    refine lv_icmp_ge (tgt := 148) hx hb dX1_take_123 (by decide) (fun c1 => ?_) (fun c1 => ?_)
    · have hr9 : ro = r := hr9
      subst hr9
      exact hex k H locs ls hP hD hS hl
    · exact absurd c1 (not_not_intro (by rw [hk, hm]; exact nI_le (Nat.le_refl _) (by omega)))
  | succ n ih =>
    intro j ro k H locs ls hk hm hj hnj hr9 hP hD hS hl
    refine lv_iload hx hb dX1_take_117 (lv_at hl 0 rfl) ?_
    refine lv_aload_n hx hb dX1_take_119 rfl (lv_at hl 3 rfl) ?_
    refine va_get (D := D) (ci := 1) (v := .int sz) (C := RX1) (T := TX1) (N := 9) hx hb hts hin hown hK hP 0 rfl rfl 1 (by decide) lk23 (fun _ h9 => h9) rfl dX1_take_120 ?_
    refine lv_icmp_ge (tgt := 148) hx hb dX1_take_123 (by decide) (fun c1 => ?_) (fun c1 => ?_)
    · exact absurd c1 (by rw [hk, hm]; exact nI_ge (by omega) (by omega))
    · refine lv_aload_n hx hb dX1_take_126 rfl (lv_at hl 3 rfl) ?_
      refine va_get (D := D) (ci := 1) (v := .ref m1) (C := RX1) (T := TX1) (N := 9) hx hb hts hin hown hK hP 0 rfl rfl 0 (by decide) lk7 (fun _ h9 => h9) rfl dX1_take_127 ?_
      refine lv_iload hx hb dX1_take_130 (lv_at hl 0 rfl) ?_
      refine lv_iload_n hx hb dX1_take_132 rfl (lv_at hl 2 rfl) ?_
      refine lv_isub hx hb dX1_take_133 ?_
      refine lv_topi (fun t2 et2 => ?_)
      refine lv_aload_n hx hb dX1_take_134 rfl (lv_at hl 3 rfl) ?_
      refine va_get (D := D) (ci := 1) (v := .ref m1) (C := RX1) (T := TX1) (N := 9) hx hb hts hin hown hK hP 0 rfl rfl 0 (by decide) lk7 (fun _ h9 => h9) rfl dX1_take_135 ?_
      refine lv_iload hx hb dX1_take_138 (lv_at hl 0 rfl) ?_
      refine va_iald hx hb hK hP 1 0 rfl rfl (by rw [hk]; exact vp_in_nI (by omega) (by omega)) dX1_take_140 ?_
      refine lv_topi (fun t3 et3 => ?_)
      refine va_iast hx hb hK hP hD hS 1 0 rfl rfl (by rw [et2, hk, hn0, pk_sub hnj]; exact vp_in_nI (by omega) (by omega)) dX1_take_141 (fun H locs hP hD hS => ?_)
      obtain ⟨g4, eg4⟩ : ∃ y : Nat → Int32, y = upd ro t2.toNatClampNeg t3 := ⟨_, rfl⟩
      have hP : va_P D vwCl (mkW cR cY m0 m1 m2 (g4, sz, op, kd, tk, la, li, bt, mn)) H := by rw [eg4]; exact hP
      have hD : va_D A (mkW cR cY m0 m1 m2 (g4, sz, op, kd, tk, la, li, bt, mn)) := kk_D_same hD rfl
      obtain ⟨t5, et5⟩ : ∃ y : Int32, y = k + 1 := ⟨_, rfl⟩
      refine lv_iinc (v := t5) (lv' := [(4, .int t5), (2, .long out), (1, .int nn), (0, .ref m0)]) hx hb dX1_take_142 hl (k := 0) rfl (by rw [et5]; rfl) (by decide) rfl (fun ls hl => ?_)
      refine lv_goto (tgt := 117) hx hb dX1_take_145 (by decide) ?_
      refine ih (j + 1) g4 t5 H locs ls (by rw [et5, hk]; exact nI_1 j) (by rw [hm]; congr 1; omega) (by omega) (by omega) ?_ hP hD hS (lv_sub hl [0, 1, 2, 3] rfl)
      rw [← hr9]
      subst et5 eg4 et3 et2
      rfl
set_option maxHeartbeats 4000000 in
set_option maxRecDepth 100000 in
theorem cM_take (l : Launch) (D : va_G) (cR cY : ClassId) (m0 m1 m2 : Nat) (ro : Nat → Int32) (sz op kd tk la li : Int32) (bt : Nat → Int32) (mn : Int32)  (hz : mk_ok2 sz op) : mkL l yX1_take wsX1_take ({ frames := 0, cells := 0, slots := 0, locals := 0 }) D cR cY m0 m1 m2 (ro, sz, op, kd, tk, la, li, bt, mn) [] (mk_take (ro, sz, op, kd, tk, la, li, bt, mn)).1 (mk_take (ro, sz, op, kd, tk, la, li, bt, mn)).2 := by
  refine kk_of (cc := cX1_take) (maxL := 5) (ret := (some .long)) (by decide) rfl (Nat.le_of_ble_eq_true rfl) ?_
  intro p e s m below meth c ls hx hb hr hts hown hlocks hml hnm hP hK hD hl
  have hown : s.vm.findClass RX1 = some m.cls := hown
  have hl : lv_has ls 5 [(0, .ref m0)] := hl
  have hin : ∀ w ∈ wsX10, w ∈ wsX1_take := by decide +kernel
  have lk23 := hts (.fieldLink RX1 23 "EventLineDeskModel" "size" "I") (by decide +kernel)
  have lk26 := hts (.fieldLink RX1 26 "EventLineDeskModel" "open" "I") (by decide +kernel)
  have lk7 := hts (.fieldLink RX1 7 "EventLineDeskModel" "row" "[I") (by decide +kernel)
  have lk53 := hts (.fieldLink RX1 53 "EventLineDeskModel" "lines" "I") (by decide +kernel)
  have lk17 := hts (.fieldLink RX1 17 "EventLineDeskModel" "last" "I") (by decide +kernel)
  have lk50 := hts (.fieldLink RX1 50 "EventLineDeskModel" "taken" "I") (by decide +kernel)
  generalize hAe : kk_A (mkW cR cY m0 m1 m2 (ro, sz, op, kd, tk, la, li, bt, mn)) = A at hD ⊢
  have hS : va_S A s.heap s.heap [] := va_S.rf
  refine lv_aload_n hx hb dX1_take_0 rfl (lv_at hl 0 rfl) ?_
  refine va_get (D := D) (ci := 1) (v := .int sz) (C := RX1) (T := TX1) (N := 9) hx hb hts hin hown hK hP 0 rfl rfl 1 (by decide) lk23 (fun _ h9 => h9) rfl dX1_take_1 ?_
  refine lv_aload_n hx hb dX1_take_4 rfl (lv_at hl 0 rfl) ?_
  refine va_get (D := D) (ci := 1) (v := .int op) (C := RX1) (T := TX1) (N := 9) hx hb hts hin hown hK hP 0 rfl rfl 2 (by decide) lk26 (fun _ h9 => h9) rfl dX1_take_5 ?_
  refine lv_isub hx hb dX1_take_8 ?_
  refine lv_topi (fun t1 et1 => ?_)
  refine lv_bipush (v := 7) hx hb dX1_take_9 (by decide) ?_
  refine lv_icmp_ge (tgt := 26) hx hb dX1_take_11 (by decide) (fun c2 => ?_) (fun c2 => ?_)
  · refine lv_bipush (v := 7) hx hb dX1_take_26 (by decide) ?_
    refine lv_istore_n (lv' := [(1, .int 7), (0, .ref m0)]) hx hb dX1_take_28 rfl hl (by decide) rfl (fun ls hl => ?_)
    refine lv_iload_n hx hb dX1_take_29 rfl (lv_at hl 0 rfl) ?_
    refine lv_if_ne (tgt := 35) hx hb dX1_take_30 (by decide) (fun c3 => ?_) (fun c3 => ?_)
    · refine lv_iload_n hx hb dX1_take_35 rfl (lv_at hl 0 rfl) ?_
      refine lv_i2l hx hb dX1_take_36 rfl ?_
      refine lv_topl (fun t4 et4 => ?_)
      refine lv_bipush (v := 56) hx hb dX1_take_37 (by decide) ?_
      refine lv_lshl hx hb dX1_take_39 rfl ?_
      refine lv_topl (fun t5 et5 => ?_)
      refine lv_lstore_n (lv' := [(2, .long t5), (1, .int 7), (0, .ref m0)]) hx hb dX1_take_40 rfl hl (by decide) rfl (fun ls hl => ?_)
      refine lv_iconst (v := 0) hx hb dX1_take_41 (by decide) ?_
      refine lv_istore (lv' := [(4, .int 0), (2, .long t5), (1, .int 7), (0, .ref m0)]) hx hb dX1_take_42 hl (by decide) rfl (fun ls hl => ?_)
      obtain ⟨nn0, zz, hn9, hz1, hnz, hz3⟩ := mk_nI hz
      have hnn : (7 : Int32) = nI nn0 := by have h := hn9; rw [if_pos (by have h := c2; rw [et1] at h; exact h)] at h; exact h
      have hcl : (7 : Int32).toNatClampNeg = nn0 := by rw [hnn, nI_clamp (by omega)]
      refine cM_takeL1 l D cR cY m0 m1 m2 ro sz op kd tk la bt mn 7 (mk_t1 ro t5 0 nn0) (mk_cn ro li 0 nn0) hx hb hts hown hml hK (fun k H locs ls hP hD hS hl => ?_) nn0 0 t5 li 0 _ _ ls nI_0.symm (by rw [Nat.zero_add]; exact hnn) (by omega) rfl rfl hP hD hS (lv_sub hl [0, 1, 2, 3] rfl)
      obtain ⟨t6, et6⟩ : ∃ y : Int64, y = mk_t1 ro t5 0 (7 : Int32).toNatClampNeg := ⟨_, rfl⟩
      obtain ⟨t7, et7⟩ : ∃ y : Int32, y = mk_cn ro li 0 (7 : Int32).toNatClampNeg := ⟨_, rfl⟩
      rw [← hcl, ← et6] at hl
      rw [← hcl, ← et7] at hP hD
      refine lv_aload_n hx hb dX1_take_102 rfl (lv_at hl 3 rfl) ?_
      refine lv_aload_n hx hb dX1_take_103 rfl (lv_at hl 3 rfl) ?_
      refine va_get (D := D) (ci := 1) (v := .ref m1) (C := RX1) (T := TX1) (N := 9) hx hb hts hin hown hK hP 0 rfl rfl 0 (by decide) lk7 (fun _ h9 => h9) rfl dX1_take_104 ?_
      refine lv_iload_n hx hb dX1_take_107 rfl (lv_at hl 2 rfl) ?_
      refine lv_iconst (v := 1) hx hb dX1_take_108 (by decide) ?_
      refine lv_isub hx hb dX1_take_109 ?_
      refine lv_topi (fun t8 et8 => ?_)
      obtain rfl : t8 = 6 := by rw [et8]; decide
      refine va_iald hx hb hK hP 1 0 rfl rfl (show ¬ ((6 : Int32) < 0 ∨ 3000 ≤ (6 : Int32).toNatClampNeg) from by decide) dX1_take_110 ?_
      refine lv_topi (fun t9 et9 => ?_)
      refine va_put (D := D) (ci := 1) (v := .int t9) (ty := .int) (C := RX1) (T := TX1) (N := 9) hx hb hts hin tyX1 tyX1_ok nmX1 hown hK hP hD hS 0 rfl rfl 5 (by decide) lk17 (fun _ h9 => h9) rfl (by decide +kernel) rfl rfl (Nat.le_of_ble_eq_true rfl) dX1_take_111 (fun H locs hP hD hS => ?_)
      have hP : va_P D vwCl (mkW cR cY m0 m1 m2 (ro, sz, op, kd, tk, t9, t7, bt, mn)) H := hP
      have hD : va_D A (mkW cR cY m0 m1 m2 (ro, sz, op, kd, tk, t9, t7, bt, mn)) := hD
      refine lv_iload_n hx hb dX1_take_114 rfl (lv_at hl 2 rfl) ?_
      refine lv_istore (lv' := [(4, .int 7), (2, .long t6), (1, .int 7), (0, .ref m0)]) hx hb dX1_take_115 hl (by decide) rfl (fun ls hl => ?_)
      have hcs : (sz - 7).toNatClampNeg = zz - nn0 := by rw [hz1, hnn, pk_sub hnz, nI_clamp (by omega)]
      refine cM_takeL2 l D cR cY m0 m1 m2 sz op kd tk t9 t7 bt mn 7 t6 (mk_sh ro 7 7 (zz - nn0)) nn0 hnn hx hb hts hown hml hK (fun k H locs ls hP hD hS hl => ?_) (zz - nn0) nn0 ro 7 _ _ ls hnn (by rw [hz1]; congr 1; omega) (by omega) (Nat.le_refl _) rfl hP hD hS (lv_sub hl [0, 1, 2, 3] rfl)
      obtain ⟨g10, eg10⟩ : ∃ y : Nat → Int32, y = mk_sh ro 7 7 (sz - 7).toNatClampNeg := ⟨_, rfl⟩
      rw [← hcs, ← eg10] at hP hD
      refine lv_aload_n hx hb dX1_take_148 rfl (lv_at hl 3 rfl) ?_
      refine lv_aload_n hx hb dX1_take_149 rfl (lv_at hl 3 rfl) ?_
      refine va_get (D := D) (ci := 1) (v := .int sz) (C := RX1) (T := TX1) (N := 9) hx hb hts hin hown hK hP 0 rfl rfl 1 (by decide) lk23 (fun _ h9 => h9) rfl dX1_take_150 ?_
      refine lv_iload_n hx hb dX1_take_153 rfl (lv_at hl 2 rfl) ?_
      refine lv_isub hx hb dX1_take_154 ?_
      refine lv_topi (fun t11 et11 => ?_)
      refine va_put (D := D) (ci := 1) (v := .int t11) (ty := .int) (C := RX1) (T := TX1) (N := 9) hx hb hts hin tyX1 tyX1_ok nmX1 hown hK hP hD hS 0 rfl rfl 1 (by decide) lk23 (fun _ h9 => h9) rfl (by decide +kernel) rfl rfl (Nat.le_of_ble_eq_true rfl) dX1_take_155 (fun H locs hP hD hS => ?_)
      have hP : va_P D vwCl (mkW cR cY m0 m1 m2 (g10, t11, op, kd, tk, t9, t7, bt, mn)) H := hP
      have hD : va_D A (mkW cR cY m0 m1 m2 (g10, t11, op, kd, tk, t9, t7, bt, mn)) := hD
      refine lv_aload_n hx hb dX1_take_158 rfl (lv_at hl 3 rfl) ?_
      refine lv_aload_n hx hb dX1_take_159 rfl (lv_at hl 3 rfl) ?_
      refine va_get (D := D) (ci := 1) (v := .int tk) (C := RX1) (T := TX1) (N := 9) hx hb hts hin hown hK hP 0 rfl rfl 4 (by decide) lk50 (fun _ h9 => h9) rfl dX1_take_160 ?_
      refine lv_iload_n hx hb dX1_take_163 rfl (lv_at hl 2 rfl) ?_
      refine lv_iadd hx hb dX1_take_164 ?_
      refine lv_topi (fun t12 et12 => ?_)
      refine va_put (D := D) (ci := 1) (v := .int t12) (ty := .int) (C := RX1) (T := TX1) (N := 9) hx hb hts hin tyX1 tyX1_ok nmX1 hown hK hP hD hS 0 rfl rfl 4 (by decide) lk50 (fun _ h9 => h9) rfl (by decide +kernel) rfl rfl (Nat.le_of_ble_eq_true rfl) dX1_take_165 (fun H locs hP hD hS => ?_)
      have hP : va_P D vwCl (mkW cR cY m0 m1 m2 (g10, t11, op, kd, t12, t9, t7, bt, mn)) H := hP
      have hD : va_D A (mkW cR cY m0 m1 m2 (g10, t11, op, kd, t12, t9, t7, bt, mn)) := hD
      refine lv_lload_n hx hb dX1_take_168 rfl (lv_at hl 1 rfl) ?_
      have hres : t6 = (mk_take (ro, sz, op, kd, tk, la, li, bt, mn)).1 := by
        subst et12 et11 eg10 et9 et7 et6 et5 et4 et1
        first | rfl | (simp only [mk_take, mk_take2, mk_n, mk_tk, if_pos c2]; done) | (simp [mk_take, mk_take2, mk_n, mk_tk, if_pos c2]; done)
      have hre2 : (g10, t11, op, kd, t12, t9, t7, bt, mn) = (mk_take (ro, sz, op, kd, tk, la, li, bt, mn)).2 := by
        subst et12 et11 eg10 et9 et7 et6 et5 et4 et1
        first | rfl | (simp only [mk_take, mk_take2, mk_n, mk_tk, if_pos c2]; done) | (simp [mk_take, mk_take2, mk_n, mk_tk, if_pos c2]; done)
      exact W.lret (v := t6) hx hb hr (fun t ht hW => ⟨⟨t6, (g10, t11, op, kd, t12, t9, t7, bt, mn), rfl, ⟨hres, hre2⟩, by show va_P D vwCl _ t.heap; rw [ht]; exact hP⟩, hS.F ht⟩) hS.2.2 dX1_take_169
    · exact absurd c3 (by decide)
  · refine lv_aload_n hx hb dX1_take_14 rfl (lv_at hl 0 rfl) ?_
    refine va_get (D := D) (ci := 1) (v := .int sz) (C := RX1) (T := TX1) (N := 9) hx hb hts hin hown hK hP 0 rfl rfl 1 (by decide) lk23 (fun _ h9 => h9) rfl dX1_take_15 ?_
    refine lv_aload_n hx hb dX1_take_18 rfl (lv_at hl 0 rfl) ?_
    refine va_get (D := D) (ci := 1) (v := .int op) (C := RX1) (T := TX1) (N := 9) hx hb hts hin hown hK hP 0 rfl rfl 2 (by decide) lk26 (fun _ h9 => h9) rfl dX1_take_19 ?_
    refine lv_isub hx hb dX1_take_22 ?_
    refine lv_topi (fun t13 et13 => ?_)
    refine lv_goto (tgt := 28) hx hb dX1_take_23 (by decide) ?_
    refine lv_istore_n (lv' := [(1, .int t13), (0, .ref m0)]) hx hb dX1_take_28 rfl hl (by decide) rfl (fun ls hl => ?_)
    refine lv_iload_n hx hb dX1_take_29 rfl (lv_at hl 0 rfl) ?_
    refine lv_if_ne (tgt := 35) hx hb dX1_take_30 (by decide) (fun c14 => ?_) (fun c14 => ?_)
    · refine lv_iload_n hx hb dX1_take_35 rfl (lv_at hl 0 rfl) ?_
      refine lv_i2l hx hb dX1_take_36 rfl ?_
      refine lv_topl (fun t15 et15 => ?_)
      refine lv_bipush (v := 56) hx hb dX1_take_37 (by decide) ?_
      refine lv_lshl hx hb dX1_take_39 rfl ?_
      refine lv_topl (fun t16 et16 => ?_)
      refine lv_lstore_n (lv' := [(2, .long t16), (1, .int t13), (0, .ref m0)]) hx hb dX1_take_40 rfl hl (by decide) rfl (fun ls hl => ?_)
      refine lv_iconst (v := 0) hx hb dX1_take_41 (by decide) ?_
      refine lv_istore (lv' := [(4, .int 0), (2, .long t16), (1, .int t13), (0, .ref m0)]) hx hb dX1_take_42 hl (by decide) rfl (fun ls hl => ?_)
      obtain ⟨nn0, zz, hn9, hz1, hnz, hz3⟩ := mk_nI hz
      have hnn : t13 = nI nn0 := by have h := hn9; rw [if_neg (by have h := c2; rw [et1] at h; exact h)] at h; rw [et13]; exact h
      have hcl : (t13 : Int32).toNatClampNeg = nn0 := by rw [hnn, nI_clamp (by omega)]
      refine cM_takeL1 l D cR cY m0 m1 m2 ro sz op kd tk la bt mn t13 (mk_t1 ro t16 0 nn0) (mk_cn ro li 0 nn0) hx hb hts hown hml hK (fun k H locs ls hP hD hS hl => ?_) nn0 0 t16 li 0 _ _ ls nI_0.symm (by rw [Nat.zero_add]; exact hnn) (by omega) rfl rfl hP hD hS (lv_sub hl [0, 1, 2, 3] rfl)
      obtain ⟨t17, et17⟩ : ∃ y : Int64, y = mk_t1 ro t16 0 (t13 : Int32).toNatClampNeg := ⟨_, rfl⟩
      obtain ⟨t18, et18⟩ : ∃ y : Int32, y = mk_cn ro li 0 (t13 : Int32).toNatClampNeg := ⟨_, rfl⟩
      rw [← hcl, ← et17] at hl
      rw [← hcl, ← et18] at hP hD
      refine lv_aload_n hx hb dX1_take_102 rfl (lv_at hl 3 rfl) ?_
      refine lv_aload_n hx hb dX1_take_103 rfl (lv_at hl 3 rfl) ?_
      refine va_get (D := D) (ci := 1) (v := .ref m1) (C := RX1) (T := TX1) (N := 9) hx hb hts hin hown hK hP 0 rfl rfl 0 (by decide) lk7 (fun _ h9 => h9) rfl dX1_take_104 ?_
      refine lv_iload_n hx hb dX1_take_107 rfl (lv_at hl 2 rfl) ?_
      refine lv_iconst (v := 1) hx hb dX1_take_108 (by decide) ?_
      refine lv_isub hx hb dX1_take_109 ?_
      refine lv_topi (fun t19 et19 => ?_)
      refine va_iald hx hb hK hP 1 0 rfl rfl (by rw [et19]; exact mk_inN hnn (by omega) (fun h => c14 h)) dX1_take_110 ?_
      refine lv_topi (fun t20 et20 => ?_)
      refine va_put (D := D) (ci := 1) (v := .int t20) (ty := .int) (C := RX1) (T := TX1) (N := 9) hx hb hts hin tyX1 tyX1_ok nmX1 hown hK hP hD hS 0 rfl rfl 5 (by decide) lk17 (fun _ h9 => h9) rfl (by decide +kernel) rfl rfl (Nat.le_of_ble_eq_true rfl) dX1_take_111 (fun H locs hP hD hS => ?_)
      have hP : va_P D vwCl (mkW cR cY m0 m1 m2 (ro, sz, op, kd, tk, t20, t18, bt, mn)) H := hP
      have hD : va_D A (mkW cR cY m0 m1 m2 (ro, sz, op, kd, tk, t20, t18, bt, mn)) := hD
      refine lv_iload_n hx hb dX1_take_114 rfl (lv_at hl 2 rfl) ?_
      refine lv_istore (lv' := [(4, .int t13), (2, .long t17), (1, .int t13), (0, .ref m0)]) hx hb dX1_take_115 hl (by decide) rfl (fun ls hl => ?_)
      have hcs : (sz - t13).toNatClampNeg = zz - nn0 := by rw [hz1, hnn, pk_sub hnz, nI_clamp (by omega)]
      refine cM_takeL2 l D cR cY m0 m1 m2 sz op kd tk t20 t18 bt mn t13 t17 (mk_sh ro t13 t13 (zz - nn0)) nn0 hnn hx hb hts hown hml hK (fun k H locs ls hP hD hS hl => ?_) (zz - nn0) nn0 ro t13 _ _ ls hnn (by rw [hz1]; congr 1; omega) (by omega) (Nat.le_refl _) rfl hP hD hS (lv_sub hl [0, 1, 2, 3] rfl)
      obtain ⟨g21, eg21⟩ : ∃ y : Nat → Int32, y = mk_sh ro t13 t13 (sz - t13).toNatClampNeg := ⟨_, rfl⟩
      rw [← hcs, ← eg21] at hP hD
      refine lv_aload_n hx hb dX1_take_148 rfl (lv_at hl 3 rfl) ?_
      refine lv_aload_n hx hb dX1_take_149 rfl (lv_at hl 3 rfl) ?_
      refine va_get (D := D) (ci := 1) (v := .int sz) (C := RX1) (T := TX1) (N := 9) hx hb hts hin hown hK hP 0 rfl rfl 1 (by decide) lk23 (fun _ h9 => h9) rfl dX1_take_150 ?_
      refine lv_iload_n hx hb dX1_take_153 rfl (lv_at hl 2 rfl) ?_
      refine lv_isub hx hb dX1_take_154 ?_
      refine lv_topi (fun t22 et22 => ?_)
      refine va_put (D := D) (ci := 1) (v := .int t22) (ty := .int) (C := RX1) (T := TX1) (N := 9) hx hb hts hin tyX1 tyX1_ok nmX1 hown hK hP hD hS 0 rfl rfl 1 (by decide) lk23 (fun _ h9 => h9) rfl (by decide +kernel) rfl rfl (Nat.le_of_ble_eq_true rfl) dX1_take_155 (fun H locs hP hD hS => ?_)
      have hP : va_P D vwCl (mkW cR cY m0 m1 m2 (g21, t22, op, kd, tk, t20, t18, bt, mn)) H := hP
      have hD : va_D A (mkW cR cY m0 m1 m2 (g21, t22, op, kd, tk, t20, t18, bt, mn)) := hD
      refine lv_aload_n hx hb dX1_take_158 rfl (lv_at hl 3 rfl) ?_
      refine lv_aload_n hx hb dX1_take_159 rfl (lv_at hl 3 rfl) ?_
      refine va_get (D := D) (ci := 1) (v := .int tk) (C := RX1) (T := TX1) (N := 9) hx hb hts hin hown hK hP 0 rfl rfl 4 (by decide) lk50 (fun _ h9 => h9) rfl dX1_take_160 ?_
      refine lv_iload_n hx hb dX1_take_163 rfl (lv_at hl 2 rfl) ?_
      refine lv_iadd hx hb dX1_take_164 ?_
      refine lv_topi (fun t23 et23 => ?_)
      refine va_put (D := D) (ci := 1) (v := .int t23) (ty := .int) (C := RX1) (T := TX1) (N := 9) hx hb hts hin tyX1 tyX1_ok nmX1 hown hK hP hD hS 0 rfl rfl 4 (by decide) lk50 (fun _ h9 => h9) rfl (by decide +kernel) rfl rfl (Nat.le_of_ble_eq_true rfl) dX1_take_165 (fun H locs hP hD hS => ?_)
      have hP : va_P D vwCl (mkW cR cY m0 m1 m2 (g21, t22, op, kd, t23, t20, t18, bt, mn)) H := hP
      have hD : va_D A (mkW cR cY m0 m1 m2 (g21, t22, op, kd, t23, t20, t18, bt, mn)) := hD
      refine lv_lload_n hx hb dX1_take_168 rfl (lv_at hl 1 rfl) ?_
      have hres : t17 = (mk_take (ro, sz, op, kd, tk, la, li, bt, mn)).1 := by
        subst et23 et22 eg21 et20 et19 et18 et17 et16 et15 et13 et1
        first | rfl | (simp only [mk_take, mk_take2, mk_n, mk_tk, if_neg c2, if_pos c14]; done) | (simp [mk_take, mk_take2, mk_n, mk_tk, if_neg c2, if_pos c14]; done)
      have hre2 : (g21, t22, op, kd, t23, t20, t18, bt, mn) = (mk_take (ro, sz, op, kd, tk, la, li, bt, mn)).2 := by
        subst et23 et22 eg21 et20 et19 et18 et17 et16 et15 et13 et1
        first | rfl | (simp only [mk_take, mk_take2, mk_n, mk_tk, if_neg c2, if_pos c14]; done) | (simp [mk_take, mk_take2, mk_n, mk_tk, if_neg c2, if_pos c14]; done)
      exact W.lret (v := t17) hx hb hr (fun t ht hW => ⟨⟨t17, (g21, t22, op, kd, t23, t20, t18, bt, mn), rfl, ⟨hres, hre2⟩, by show va_P D vwCl _ t.heap; rw [ht]; exact hP⟩, hS.F ht⟩) hS.2.2 dX1_take_169
    · refine lv_lconst (v := 0) hx hb dX1_take_33 (by decide) ?_
      have hres : 0 = (mk_take (ro, sz, op, kd, tk, la, li, bt, mn)).1 := by
        subst et13 et1
        first | rfl | (simp only [mk_take, mk_take2, mk_n, mk_tk, if_neg c2, if_neg (not_not_intro c14)]; done) | (simp [mk_take, mk_take2, mk_n, mk_tk, if_neg c2, if_neg (not_not_intro c14)]; done)
      have hre2 : (ro, sz, op, kd, tk, la, li, bt, mn) = (mk_take (ro, sz, op, kd, tk, la, li, bt, mn)).2 := by
        subst et13 et1
        first | rfl | (simp only [mk_take, mk_take2, mk_n, mk_tk, if_neg c2, if_neg (not_not_intro c14)]; done) | (simp [mk_take, mk_take2, mk_n, mk_tk, if_neg c2, if_neg (not_not_intro c14)]; done)
      exact W.lret (v := 0) hx hb hr (fun t ht hW => ⟨⟨0, (ro, sz, op, kd, tk, la, li, bt, mn), rfl, ⟨hres, hre2⟩, by show va_P D vwCl _ t.heap; rw [ht]; exact hP⟩, hS.F ht⟩) hS.2.2 dX1_take_34
set_option maxHeartbeats 4000000 in
set_option maxRecDepth 100000 in
theorem cM_init (l : Launch) (D : va_G) (q0 sz : Nat) : Met l yX1_init wsX1_init ({ frames := 1, cells := 2, slots := 3004, locals := 12 }) (va_Pc [.ref q0] (fun U => U.heap.size = sz ∧ va_P D vwCl [(q0, .inr (1, [.null, .int 0, .int 0, .int 0, .int 0, .int 0, .int 0, .null, .int 0]))] U.heap ∧ va_K D vwCl [] U ∧ va_D (fun _ => True) [(q0, .inr (1, [.null, .int 0, .int 0, .int 0, .int 0, .int 0, .int 0, .null, .int 0]))])) (va_Qv (fun _ : ClassId × Nat × ClassId × Nat => True) (fun (u : ClassId × Nat × ClassId × Nat) t => va_P D vwCl [(q0, .inr (1, [.ref u.2.1, .int 0, .int 0, .int (-1), .int 0, .int 10, .int 0, .ref u.2.2.2, .int 0])), (u.2.1, .inl (u.1, 3000, .inl (fun _ => 0))), (u.2.2.2, .inl (u.2.2.1, 4, .inl (fun _ => 0)))] t.heap ∧ va_K D vwCl [(u.1, .int), (u.2.2.1, .int)] t ∧ va_D (va_A [(q0, .inr (1, [.null, .int 0, .int 0, .int 0, .int 0, .int 0, .int 0, .null, .int 0]))] sz) [(q0, .inr (1, [.ref u.2.1, .int 0, .int 0, .int (-1), .int 0, .int 10, .int 0, .ref u.2.2.2, .int 0])), (u.2.1, .inl (u.1, 3000, .inl (fun _ => 0))), (u.2.2.2, .inl (u.2.2.1, 4, .inl (fun _ => 0)))]) (va_A [(q0, .inr (1, [.null, .int 0, .int 0, .int 0, .int 0, .int 0, .int 0, .null, .int 0]))] sz)) 2 3004 (va_A [(q0, .inr (1, [.null, .int 0, .int 0, .int 0, .int 0, .int 0, .int 0, .null, .int 0]))] sz) := by
  refine Met.ofW (cc := cX1_init) (maxL := 1) (ret := none) (by decide) rfl ?_
  intro p e s m args below meth c s₁ B hml hv
  obtain ⟨rfl, hsz, hP, hK, hD0⟩ := hv
  have hx := B.exec
  have hb := B.bytes
  have hr := B.returns
  have hts := atoms_spec (ws := wsX1_init) B.pre
  have hown : s.vm.findClass RX1 = some m.cls := findClass_of_methodNamed B.named
  have hlocks := B.notSynchronized
  have hnm : meth.name = "<init>" := (name_of_methodNamed B.named B.method).1
  subst hsz
  have hD := hD0.self (sz := s.heap.size)
  have hin : ∀ w ∈ wsX10, w ∈ wsX1_init := by decide +kernel
  generalize hAe : va_A [(q0, .inr (1, [.null, .int 0, .int 0, .int 0, .int 0, .int 0, .int 0, .null, .int 0]))] s.heap.size = A at hD ⊢
  have hA : ∀ q : Nat, s.heap.size ≤ q → A q := fun q h => by rw [← hAe]; exact Or.inr h
  have hS : va_S A s.heap s.heap [] := va_S.rf
  have hl := lv_entry ([.ref q0]) (n := 1) (Nat.le_of_ble_eq_true rfl)
  rw [lg_entry_eq]
  generalize (lg_sl ([.ref q0]) ++ List.replicate (1 - (lg_sl ([.ref q0])).length) Slot.unset).toArray = ls at hl ⊢
  have hl : lv_has ls 1 [(0, .ref q0)] := hl
  refine lv_aload_n hx hb dX1_init_0 rfl (lv_at hl 0 rfl) ?_
  refine W.objInit hx hb hown (hts (.methodLink RX1 1 objectInit) (by decide +kernel)) (hts (.instanceMethod objectInit) (by decide +kernel)) (hts (.code objectInit ⟨#[0xb1]⟩ 1 none) (List.mem_of_getElem? (i := 3) rfl)) rfl (by rw [hml]; exact hl.1) rfl dX1_init_1 (Nat.le_of_ble_eq_true rfl) (Nat.le_of_ble_eq_true rfl) ?_
  refine W.eq (g2 := F0 m 4 ls []) rfl ?_
  refine lv_aload_n hx hb dX1_init_4 rfl (lv_at hl 0 rfl) ?_
  refine lv_sipush (v := 3000) hx hb dX1_init_5 (by decide) ?_
  refine va_newa (atype := .int) (a0 := (3000, .inl (fun _ => 0))) (N' := 3000) (ty := .int) hx hb (hts (.arrayClass .int) (by decide +kernel)) rfl hK hP hD hS hA (fun cA => vp_cell_i cA 3000 (fun _ => 0)) (by decide +kernel) (by decide +kernel) (by decide +kernel) (Nat.le_of_ble_eq_true rfl) (show 0 + 3000 ≤ 3004 from by decide +kernel) dX1_init_8 (fun q1 cA1 H hK hP hD hS => ?_)
  have hP : va_P D vwCl [(q0, .inr (1, [.null, .int 0, .int 0, .int 0, .int 0, .int 0, .int 0, .null, .int 0])), (q1, .inl (cA1, 3000, .inl (fun _ => 0)))] H := hP
  have hD : va_D A [(q0, .inr (1, [.null, .int 0, .int 0, .int 0, .int 0, .int 0, .int 0, .null, .int 0])), (q1, .inl (cA1, 3000, .inl (fun _ => 0)))] := hD
  have hK : va_K D vwCl [(cA1, .int)] s := hK
  refine W.widen (k := 1) (n := 3000) (by omega) (by omega) ?_
  refine va_putF (D := D) (ci := 1) (v := .ref q1) (ty := .array .int) (C := RX1) (T := TX1) (N := 9) hx hb hts hin tyX1 tyX1_ok nmX1 hown hK hP hD hS 0 rfl rfl 0 (by decide) (hts (.fieldLink RX1 7 "EventLineDeskModel" "row" "[I") (by decide +kernel)) (fun _ h9 => h9) rfl hnm rfl (by decide +kernel) rfl rfl (Nat.le_of_ble_eq_true rfl) dX1_init_10 (fun H locs hP hD hS => ?_)
  have hP : va_P D vwCl [(q0, .inr (1, [.ref q1, .int 0, .int 0, .int 0, .int 0, .int 0, .int 0, .null, .int 0])), (q1, .inl (cA1, 3000, .inl (fun _ => 0)))] H := hP
  have hD : va_D A [(q0, .inr (1, [.ref q1, .int 0, .int 0, .int 0, .int 0, .int 0, .int 0, .null, .int 0])), (q1, .inl (cA1, 3000, .inl (fun _ => 0)))] := hD
  refine lv_aload_n hx hb dX1_init_13 rfl (lv_at hl 0 rfl) ?_
  refine lv_iconst (v := (-1)) hx hb dX1_init_14 (by decide) ?_
  refine va_put (D := D) (ci := 1) (v := .int (-1)) (ty := .int) (C := RX1) (T := TX1) (N := 9) hx hb hts hin tyX1 tyX1_ok nmX1 hown hK hP hD hS 0 rfl rfl 3 (by decide) (hts (.fieldLink RX1 13 "EventLineDeskModel" "kind" "I") (by decide +kernel)) (fun _ h9 => h9) rfl (by decide +kernel) rfl rfl (Nat.le_of_ble_eq_true rfl) dX1_init_15 (fun H locs hP hD hS => ?_)
  have hP : va_P D vwCl [(q0, .inr (1, [.ref q1, .int 0, .int 0, .int (-1), .int 0, .int 0, .int 0, .null, .int 0])), (q1, .inl (cA1, 3000, .inl (fun _ => 0)))] H := hP
  have hD : va_D A [(q0, .inr (1, [.ref q1, .int 0, .int 0, .int (-1), .int 0, .int 0, .int 0, .null, .int 0])), (q1, .inl (cA1, 3000, .inl (fun _ => 0)))] := hD
  refine lv_aload_n hx hb dX1_init_18 rfl (lv_at hl 0 rfl) ?_
  refine lv_bipush (v := 10) hx hb dX1_init_19 (by decide) ?_
  refine va_put (D := D) (ci := 1) (v := .int 10) (ty := .int) (C := RX1) (T := TX1) (N := 9) hx hb hts hin tyX1 tyX1_ok nmX1 hown hK hP hD hS 0 rfl rfl 5 (by decide) (hts (.fieldLink RX1 17 "EventLineDeskModel" "last" "I") (by decide +kernel)) (fun _ h9 => h9) rfl (by decide +kernel) rfl rfl (Nat.le_of_ble_eq_true rfl) dX1_init_21 (fun H locs hP hD hS => ?_)
  have hP : va_P D vwCl [(q0, .inr (1, [.ref q1, .int 0, .int 0, .int (-1), .int 0, .int 10, .int 0, .null, .int 0])), (q1, .inl (cA1, 3000, .inl (fun _ => 0)))] H := hP
  have hD : va_D A [(q0, .inr (1, [.ref q1, .int 0, .int 0, .int (-1), .int 0, .int 10, .int 0, .null, .int 0])), (q1, .inl (cA1, 3000, .inl (fun _ => 0)))] := hD
  refine lv_aload_n hx hb dX1_init_24 rfl (lv_at hl 0 rfl) ?_
  refine lv_iconst (v := 4) hx hb dX1_init_25 (by decide) ?_
  refine va_newa (atype := .int) (a0 := (4, .inl (fun _ => 0))) (N' := 4) (ty := .int) hx hb (hts (.arrayClass .int) (by decide +kernel)) rfl hK hP hD hS hA (fun cA => vp_cell_i cA 4 (fun _ => 0)) (by decide +kernel) (by decide +kernel) (by decide +kernel) (Nat.le_of_ble_eq_true rfl) (show 3000 + 4 ≤ 3004 from by decide +kernel) dX1_init_26 (fun q2 cA2 H hK hP hD hS => ?_)
  have hP : va_P D vwCl [(q0, .inr (1, [.ref q1, .int 0, .int 0, .int (-1), .int 0, .int 10, .int 0, .null, .int 0])), (q1, .inl (cA1, 3000, .inl (fun _ => 0))), (q2, .inl (cA2, 4, .inl (fun _ => 0)))] H := hP
  have hD : va_D A [(q0, .inr (1, [.ref q1, .int 0, .int 0, .int (-1), .int 0, .int 10, .int 0, .null, .int 0])), (q1, .inl (cA1, 3000, .inl (fun _ => 0))), (q2, .inl (cA2, 4, .inl (fun _ => 0)))] := hD
  have hK : va_K D vwCl [(cA1, .int), (cA2, .int)] s := hK
  refine W.widen (k := 2) (n := 3004) (by omega) (by omega) ?_
  refine va_putF (D := D) (ci := 1) (v := .ref q2) (ty := .array .int) (C := RX1) (T := TX1) (N := 9) hx hb hts hin tyX1 tyX1_ok nmX1 hown hK hP hD hS 0 rfl rfl 7 (by decide) (hts (.fieldLink RX1 20 "EventLineDeskModel" "bytes" "[I") (by decide +kernel)) (fun _ h9 => h9) rfl hnm rfl (by decide +kernel) rfl rfl (Nat.le_of_ble_eq_true rfl) dX1_init_28 (fun H locs hP hD hS => ?_)
  have hP : va_P D vwCl [(q0, .inr (1, [.ref q1, .int 0, .int 0, .int (-1), .int 0, .int 10, .int 0, .ref q2, .int 0])), (q1, .inl (cA1, 3000, .inl (fun _ => 0))), (q2, .inl (cA2, 4, .inl (fun _ => 0)))] H := hP
  have hD : va_D A [(q0, .inr (1, [.ref q1, .int 0, .int 0, .int (-1), .int 0, .int 10, .int 0, .ref q2, .int 0])), (q1, .inl (cA1, 3000, .inl (fun _ => 0))), (q2, .inl (cA2, 4, .inl (fun _ => 0)))] := hD
  exact W.vret hx hb hr (fun t ht hW => ⟨⟨(cA1, q1, cA2, q2), rfl, trivial, by rw [ht]; exact hP, va_K.moved hW.alike hK, hD⟩, hS.F ht⟩) hS.2.2 dX1_init_31
end
section
/-! ===== a byte read unsigned ===== -/
theorem bp_b (x : Int32) : x.toInt8.toInt32 &&& 255 = x &&& 255 := by
  apply Int32.toBitVec_inj.mp
  rw [Int32.toBitVec_and, Int32.toBitVec_and, Int8.toBitVec_toInt32, Int32.toBitVec_toInt8]
  apply BitVec.eq_of_getLsbD_eq
  intro i hi
  rw [BitVec.getLsbD_and, BitVec.getLsbD_and]
  have hm : ∀ i < 32, 8 ≤ i → (255 : Int32).toBitVec.getLsbD i = false := by decide
  rcases Nat.lt_or_ge i 8 with z | z
  · rw [BitVec.getLsbD_signExtend, BitVec.getLsbD_signExtend, if_pos z, if_pos hi]
    simp only [z, hi, decide_true, Bool.true_and]
  · rw [hm i hi z]; simp
/-! ===== lN n to 2^64: shifts, and, or, masks, one bit ===== -/
theorem wb_tb (n : Nat) : (lN n).toBitVec = BitVec.ofNat 64 n := rfl
theorem wb_inj {a b : Int64} (h : a.toBitVec = b.toBitVec) : a = b := Int64.toBitVec_inj.mp h
theorem wb_tn {n : Nat} (h : n < 2 ^ 64) : (lN n).toBitVec.toNat = n := by rw [wb_tb, BitVec.toNat_ofNat, Nat.mod_eq_of_lt h]
theorem wb_of (x : Int64) : ∃ n, n < 2 ^ 64 ∧ x = lN n := ⟨x.toBitVec.toNat, x.toBitVec.isLt, wb_inj (by rw [wb_tb]; simp)⟩
theorem wb_of32 (x : Int32) : ∃ n, n < 2 ^ 32 ∧ x = nI n := ⟨x.toBitVec.toNat, x.toBitVec.isLt, Int32.toBitVec_inj.mp (by show _ = BitVec.ofNat 32 _; simp)⟩
theorem wb_c : ∀ k, k < 64 → ((nI k).toInt64 &&& 63) = lN k := by decide +kernel
theorem wb_cu : ∀ k, k < 64 → ((nI k).toInt64.toUInt64 &&& Int64.toUInt64 63) = UInt64.ofNat k := by decide +kernel
theorem wb_sm : ∀ k, k < 64 → (BitVec.ofNat 64 k).smod 64 = BitVec.ofNat 64 k := by decide +kernel
theorem wb_pw {a b : Nat} (h : a ≤ b) : 2 ^ b = 2 ^ a * 2 ^ (b - a) := by rw [← Nat.pow_add]; congr 1; omega
theorem wb_lt2 {a b : Nat} (h : a < b) : 2 ^ a < 2 ^ b := Nat.pow_lt_pow_right (by decide) h
theorem wb_mod (n : Nat) : lN n = lN (n % 2 ^ 64) := wb_inj (by rw [wb_tb, wb_tb]; apply BitVec.eq_of_toNat_eq; rw [BitVec.toNat_ofNat, BitVec.toNat_ofNat, Nat.mod_mod])
theorem wb_shr {n k : Nat} (hn : n < 2 ^ 64) (hk : k < 64) : ((lN n).toUInt64 >>> ((nI k).toInt64.toUInt64 &&& Int64.toUInt64 63)).toInt64 = lN (n / 2 ^ k) := by
  rw [wb_cu k hk]
  apply wb_inj
  apply BitVec.eq_of_toNat_eq
  show ((lN n).toUInt64 >>> UInt64.ofNat k).toNat = (BitVec.ofNat 64 _).toNat
  have h1 : (UInt64.ofNat k).toNat = k := by
    show (BitVec.ofNat 64 k).toNat = k
    rw [BitVec.toNat_ofNat, Nat.mod_eq_of_lt (by omega)]
  have h2 : (lN n).toUInt64.toNat = n := wb_tn hn
  rw [UInt64.toNat_shiftRight, h1, h2, Nat.mod_eq_of_lt hk, Nat.shiftRight_eq_div_pow, BitVec.toNat_ofNat, Nat.mod_eq_of_lt (Nat.lt_of_le_of_lt (Nat.div_le_self _ _) hn)]
theorem wb_shl (n : Nat) {k : Nat} (hk : k < 64) : lN n <<< ((nI k).toInt64 &&& 63) = lN (n * 2 ^ k) := by
  rw [wb_c k hk]
  apply wb_inj
  rw [Int64.toBitVec_shiftLeft, wb_tb, wb_tb, wb_tb, wb_sm k hk]
  apply BitVec.eq_of_toNat_eq
  rw [BitVec.shiftLeft_eq', BitVec.toNat_shiftLeft, BitVec.toNat_ofNat, BitVec.toNat_ofNat, BitVec.toNat_ofNat, Nat.mod_eq_of_lt (show k < 2 ^ 64 by omega), Nat.shiftLeft_eq, Nat.mul_mod, Nat.mod_mod, ← Nat.mul_mod]
theorem wb_and {a b : Nat} (ha : a < 2 ^ 64) (hb : b < 2 ^ 64) : lN a &&& lN b = lN (a &&& b) := by
  apply wb_inj
  rw [Int64.toBitVec_and, wb_tb, wb_tb, wb_tb]
  apply BitVec.eq_of_toNat_eq
  rw [BitVec.toNat_and, BitVec.toNat_ofNat, BitVec.toNat_ofNat, BitVec.toNat_ofNat, Nat.mod_eq_of_lt ha, Nat.mod_eq_of_lt hb, Nat.mod_eq_of_lt (Nat.and_lt_two_pow _ hb)]
theorem wb_or {a b : Nat} (ha : a < 2 ^ 64) (hb : b < 2 ^ 64) : lN a ||| lN b = lN (a ||| b) := by
  apply wb_inj
  rw [Int64.toBitVec_or, wb_tb, wb_tb, wb_tb]
  apply BitVec.eq_of_toNat_eq
  rw [BitVec.toNat_or, BitVec.toNat_ofNat, BitVec.toNat_ofNat, BitVec.toNat_ofNat, Nat.mod_eq_of_lt ha, Nat.mod_eq_of_lt hb, Nat.mod_eq_of_lt (Nat.or_lt_two_pow ha hb)]
theorem wb_mask {n k : Nat} (hn : n < 2 ^ 64) (hk : k < 64) : lN n &&& lN (2 ^ k - 1) = lN (n % 2 ^ k) := by
  rw [wb_and hn (by have := wb_lt2 hk; omega), Nat.and_two_pow_sub_one_eq_mod]
theorem wb_a1 {n : Nat} (hn : n < 2 ^ 64) : lN n &&& 1 = lN (n % 2) := wb_mask (k := 1) hn (by decide)
theorem wb_bit {n k : Nat} (hn : n < 2 ^ 64) (hk : k < 64) : ((lN n).toUInt64 >>> ((nI k).toInt64.toUInt64 &&& Int64.toUInt64 63)).toInt64 &&& 1 = lN (n / 2 ^ k % 2) := by
  rw [wb_shr hn hk, wb_a1 (Nat.lt_of_le_of_lt (Nat.div_le_self _ _) hn)]
theorem wb_xor {q k : Nat} (hk : k < 63) (h : 2 ^ k ≤ q) (h2 : q < 2 ^ (k + 1)) : lN q ^^^ lN (2 ^ k) = lN (q - 2 ^ k) := by
  obtain ⟨r, rfl⟩ : ∃ r, q = 2 ^ k + r := ⟨q - 2 ^ k, by omega⟩
  have hr : r < 2 ^ k := by rw [Nat.pow_succ] at h2; omega
  have hx : (2 ^ k + r) ^^^ 2 ^ k = r := by
    apply Nat.eq_of_testBit_eq
    intro i
    rw [Nat.testBit_xor, Nat.testBit_two_pow]
    rcases Nat.lt_trichotomy i k with h | h | h
    · rw [Nat.testBit_two_pow_add_gt h]
      simp [show ¬ k = i by omega]
    · subst h
      rw [Nat.testBit_two_pow_add_eq]
      simp
    · have a1 : 2 ^ (k + 1) ≤ 2 ^ i := Nat.pow_le_pow_right (by decide) h
      rw [Nat.testBit_lt_two_pow (show 2 ^ k + r < 2 ^ i by omega), Nat.testBit_lt_two_pow (show r < 2 ^ i by omega)]
      simp [show ¬ k = i by omega]
  have b1 := wb_lt2 (show k + 1 < 64 by omega)
  have b2 := wb_lt2 (show k < 64 by omega)
  apply wb_inj
  rw [Int64.toBitVec_xor, wb_tb, wb_tb, wb_tb]
  apply BitVec.eq_of_toNat_eq
  rw [BitVec.toNat_xor, BitVec.toNat_ofNat, BitVec.toNat_ofNat, BitVec.toNat_ofNat, Nat.mod_eq_of_lt (by omega : 2 ^ k + r < 2 ^ 64), Nat.mod_eq_of_lt b2, hx, Nat.add_sub_cancel_left, Nat.mod_eq_of_lt (by omega)]
/-! ===== lN: masks, 'or' of parts that don't overlap is a sum ===== -/
theorem u_tn {n : Nat} (h : n < 2 ^ 64) : (UInt64.ofNat n).toNat = n := Nat.mod_eq_of_lt h
theorem g_and {a b c : Nat} (ha : a < 2 ^ 64) (hb : b < 2 ^ 64) (hc : a &&& b = c) : lN a &&& lN b = lN c := by
  subst hc
  have h : UInt64.ofNat a &&& UInt64.ofNat b = UInt64.ofNat (a &&& b) := UInt64.toNat_inj.mp (by rw [UInt64.toNat_and, u_tn ha, u_tn hb, u_tn (Nat.and_lt_two_pow a hb)])
  have h2 := congrArg UInt64.toInt64 h
  exact h2
theorem g_and1 {a : Nat} (ha : a < 2 ^ 64) : lN a &&& 1 = lN (a % 2) := g_and (b := 1) ha (by decide) (Nat.and_two_pow_sub_one_eq_mod a 1)
theorem g_mask {a s p : Nat} (hp : 2 ^ s = p) (hs : s < 64) (ha : a < 2 ^ 64) : lN a &&& lN (p - 1) = lN (a % p) := by
  subst hp
  have := Nat.pow_lt_pow_right (show 1 < 2 by decide) hs
  exact g_and ha (by omega) (Nat.and_two_pow_sub_one_eq_mod a s)
theorem g_or {k p a b : Nat} (hp : 2 ^ k = p) (ha : a < p) (h : b * p + a < 2 ^ 64) : lN (b * p) ||| lN a = lN (b * p + a) := by
  subst hp
  have h1 : b * 2 ^ k ||| a = b * 2 ^ k + a := by rw [← Nat.shiftLeft_eq, Nat.shiftLeft_add_eq_or_of_lt ha]
  have h3 : UInt64.ofNat (b * 2 ^ k) ||| UInt64.ofNat a = UInt64.ofNat (b * 2 ^ k + a) := UInt64.toNat_inj.mp (by rw [UInt64.toNat_or, u_tn (by omega), u_tn (by omega), u_tn h, h1])
  have h2 := congrArg UInt64.toInt64 h3
  exact h2
theorem g_or' {k p a b : Nat} (hp : 2 ^ k = p) (ha : a < p) (h : a + b * p < 2 ^ 64) : lN a ||| lN (b * p) = lN (a + b * p) := by
  rw [Int64.or_comm, g_or hp ha (by omega), Nat.add_comm]
theorem g_ushr {a k p : Nat} {y : UInt64} (hy : y = UInt64.ofNat k) (hk : k < 64) (hp : 2 ^ k = p) (ha : a < 2 ^ 64) : ((lN a).toUInt64 >>> y).toInt64 = lN (a / p) := by
  subst hy hp
  have h : UInt64.ofNat a >>> UInt64.ofNat k = UInt64.ofNat (a / 2 ^ k) := UInt64.toNat_inj.mp (by rw [UInt64.toNat_shiftRight, u_tn ha, u_tn (by omega), u_tn (Nat.lt_of_le_of_lt (Nat.div_le_self _ _) ha), Nat.mod_eq_of_lt hk, Nat.shiftRight_eq_div_pow])
  have h2 := congrArg UInt64.toInt64 h
  exact h2
theorem g_shl {a k p : Nat} {y : Int64} (hy : y.toBitVec.smod 64 = BitVec.ofNat 64 k) (hk : k < 64) (hp : 2 ^ k = p) (ha : a < 2 ^ 64) : lN a <<< y = lN (a * p) := by
  subst hp
  apply Int64.toBitVec_inj.mp
  rw [Int64.toBitVec_shiftLeft, hy]
  apply BitVec.eq_of_toNat_eq
  have hb : (lN a).toBitVec.toNat = a := Nat.mod_eq_of_lt ha
  have hk' : (BitVec.ofNat 64 k).toNat = k := Nat.mod_eq_of_lt (by omega)
  have h : ((lN a).toBitVec <<< BitVec.ofNat 64 k).toNat = (a * 2 ^ k) % 2 ^ 64 := by simp only [BitVec.shiftLeft_eq', BitVec.toNat_shiftLeft, hb, hk', Nat.shiftLeft_eq]
  exact h
end
section
/-! the two states side by side: n bytes in all, k of them taken -/
def dm_cnt (f : Nat → Int32) : Nat → Nat
  | 0 => 0
  | n + 1 => dm_cnt f n + (if f n &&& 255 = 10 then 1 else 0)
theorem dm_cnt_upd (f : Nat → Int32) (n : Nat) (x : Int32) : ∀ m, m ≤ n → dm_cnt (upd f n x) m = dm_cnt f m
  | 0, _ => rfl
  | m + 1, h => by
    show dm_cnt (upd f n x) m + _ = dm_cnt f m + _
    rw [dm_cnt_upd f n x m (by omega), pk_un (by omega)]
theorem dm_cnt_le (f : Nat → Int32) (n : Nat) : dm_cnt f n ≤ n := by
  induction n with
  | zero => exact Nat.le_refl _
  | succ n ih =>
    show dm_cnt f n + (if f n &&& 255 = 10 then 1 else 0) ≤ n + 1
    split <;> omega
theorem dm_cnt_mono (f : Nat → Int32) {a b : Nat} (h : a ≤ b) : dm_cnt f a ≤ dm_cnt f b := by
  induction b with
  | zero => rw [show a = 0 by omega]; exact Nat.le_refl _
  | succ b ih =>
    by_cases e : a = b + 1
    · rw [e]; exact Nat.le_refl _
    · exact Nat.le_trans (ih (by omega)) (by show dm_cnt f b ≤ dm_cnt f b + _; omega)
def dmB (n k : Nat) (u : DSt) (v : MSt) : Prop := u.2.1 = nI n ∧ u.2.2.1 = nI k ∧ k ≤ n ∧ u.2.2.2.1 = nI (dm_cnt u.1 n) ∧ v.2.1 = nI (n - k) ∧ v.2.2.2.2.1 = nI k ∧ v.2.2.2.2.2.2.1 = nI (dm_cnt u.1 k) ∧ (∀ i, i < n - k → v.1 i = u.1 (k + i) &&& 255) ∧ (v.2.2.2.2.2.1 = 10 ↔ (k = 0 ∨ u.1 (k - 1) &&& 255 = 10))
def dmK (n k : Nat) (u : DSt) (v : MSt) : Prop := (u.2.2.2.2.1 = -1 ∧ v.2.2.2.1 = -1 ∧ v.2.2.1 = 0) ∨ ∃ o : Nat, ¬ u.2.2.2.2.1 < 0 ∧ v.2.2.2.1 = u.2.2.2.2.1 ∧ u.2.2.2.2.2 = nI o ∧ v.2.2.1 = nI (n - o) ∧ k ≤ o ∧ o ≤ n ∧ n - k + 1 ≤ 3000
def dmI (j : Nat) (u : DSt) (v : MSt) : Prop := ∃ n k : Nat, dmB n k u v ∧ dmK n k u v ∧ n ≤ 6 * j ∧ n - k ≤ 3000
theorem dm_ix {n : Nat} (h : n < 4096) : (nI n &&& 4095).toNatClampNeg = n := by
  rw [pk_andN (by omega) 12 (by decide), Nat.mod_eq_of_lt (by omega), nI_clamp (by omega)]
theorem dm_put {n k : Nat} {u : DSt} {v : MSt} {x b : Int32} (h : dmB n k u v) (hn : n < 4096) (hx : x &&& 255 = b) (hb : ¬ b = 10) : dmB (n + 1) k (dk_put u x) (mk_put v b) := by
  obtain ⟨f, tt, tk, en, ki, os⟩ := u
  obtain ⟨ro, sz, op, kd, ta, la, li, bt, mn⟩ := v
  obtain ⟨h1, h2, h3, h4, h5, h6, h7, h8, h9⟩ := h
  dsimp only at h1 h2 h4 h5 h6 h7 h8 h9
  subst h1 h2 h5
  have e1 : dk_put (f, nI n, nI k, en, ki, os) x = (upd f n x.toInt8.toInt32, nI (n + 1), nI k, en, ki, os) := by
    unfold dk_put
    dsimp only
    rw [dm_ix hn, nI_1]
  have e2 : mk_put (ro, nI (n - k), op, kd, ta, la, li, bt, mn) b = (upd ro (n - k) b, nI (n - k + 1), op + 1, kd, ta, la, li, bt, mn) := by
    unfold mk_put
    dsimp only
    rw [nI_clamp (by omega), nI_1]
  have hv : (upd f n x.toInt8.toInt32) n &&& 255 = b := by rw [pk_us, bp_b, hx]
  rw [e1, e2]
  refine ⟨rfl, rfl, by omega, ?_, ?_, h6, ?_, ?_, ?_⟩
  · show en = nI (dm_cnt (upd f n x.toInt8.toInt32) n + (if (upd f n x.toInt8.toInt32) n &&& 255 = 10 then 1 else 0))
    rw [hv, if_neg hb, dm_cnt_upd f n _ n (Nat.le_refl _)]
    exact h4
  · show nI (n - k + 1) = nI (n + 1 - k)
    congr 1
    omega
  · show li = nI (dm_cnt (upd f n x.toInt8.toInt32) k)
    rw [dm_cnt_upd f n _ k h3]
    exact h7
  · intro i hi
    show upd ro (n - k) b i = upd f n x.toInt8.toInt32 (k + i) &&& 255
    by_cases e : i = n - k
    · subst e
      rw [pk_us, show k + (n - k) = n by omega]
      exact hv.symm
    · rw [pk_un e, pk_un (by omega)]
      exact h8 i (by omega)
  · show la = 10 ↔ (k = 0 ∨ upd f n x.toInt8.toInt32 (k - 1) &&& 255 = 10)
    by_cases e : k = 0
    · exact ⟨fun _ => Or.inl e, fun _ => h9.mpr (Or.inl e)⟩
    · rw [pk_un (by omega)]
      exact h9
theorem dm_close {n k : Nat} {u : DSt} {v : MSt} (h : dmB n k u v) (hn : n < 4096) : dmB (n + 1) k (dk_endL u) (mk_close v) := by
  obtain ⟨f, tt, tk, en, ki, os⟩ := u
  obtain ⟨ro, sz, op, kd, ta, la, li, bt, mn⟩ := v
  obtain ⟨h1, h2, h3, h4, h5, h6, h7, h8, h9⟩ := h
  dsimp only at h1 h2 h4 h5 h6 h7 h8 h9
  subst h1 h2 h5
  have e1 : dk_endL (f, nI n, nI k, en, ki, os) = (upd f n (10 : Int32).toInt8.toInt32, nI (n + 1), nI k, en + 1, -1, os) := by
    unfold dk_endL dk_e2 dk_put
    dsimp only
    rw [dm_ix hn, nI_1]
  have e2 : mk_close (ro, nI (n - k), op, kd, ta, la, li, bt, mn) = (upd ro (n - k) 10, nI (n - k + 1), 0, -1, ta, la, li, bt, mn) := by
    unfold mk_close
    dsimp only
    rw [nI_clamp (by omega), nI_1]
  have hv : (upd f n (10 : Int32).toInt8.toInt32) n &&& 255 = 10 := by rw [pk_us]; decide
  rw [e1, e2]
  refine ⟨rfl, rfl, by omega, ?_, ?_, h6, ?_, ?_, ?_⟩
  · show en + 1 = nI (dm_cnt (upd f n (10 : Int32).toInt8.toInt32) n + (if (upd f n (10 : Int32).toInt8.toInt32) n &&& 255 = 10 then 1 else 0))
    rw [if_pos hv, dm_cnt_upd f n _ n (Nat.le_refl _), h4]
    exact nI_1 _
  · show nI (n - k + 1) = nI (n + 1 - k)
    congr 1
    omega
  · show li = nI (dm_cnt (upd f n (10 : Int32).toInt8.toInt32) k)
    rw [dm_cnt_upd f n _ k h3]
    exact h7
  · intro i hi
    show upd ro (n - k) 10 i = upd f n (10 : Int32).toInt8.toInt32 (k + i) &&& 255
    by_cases e : i = n - k
    · subst e
      rw [pk_us, show k + (n - k) = n by omega]
      exact hv.symm
    · rw [pk_un e, pk_un (by omega)]
      exact h8 i (by omega)
  · show la = 10 ↔ (k = 0 ∨ upd f n (10 : Int32).toInt8.toInt32 (k - 1) &&& 255 = 10)
    by_cases e : k = 0
    · exact ⟨fun _ => Or.inl e, fun _ => h9.mpr (Or.inl e)⟩
    · rw [pk_un (by omega)]
      exact h9
/-- a character's bytes, one after the other, on both sides -/
theorem dm_puts : ∀ (l : List Int32) (n k i : Nat) (u : DSt) (v : MSt), dmB n k u v → n + l.length ≤ 4096 → (∀ (t : Nat) (x : Int32), l[t]? = some x → x &&& 255 = v.2.2.2.2.2.2.2.1 (i + t) ∧ ¬ v.2.2.2.2.2.2.2.1 (i + t) = 10) → i + l.length ≤ 4 → dmB (n + l.length) k (l.foldl dk_put u) (mk_puts v (nI i) l.length) ∧ (l.foldl dk_put u).2.2.2.2.1 = u.2.2.2.2.1 ∧ (l.foldl dk_put u).2.2.2.2.2 = u.2.2.2.2.2 ∧ (mk_puts v (nI i) l.length).2.2.2.1 = v.2.2.2.1 ∧ (mk_puts v (nI i) l.length).2.2.1 = v.2.2.1 + nI l.length
  | [], n, k, i, u, v, h, _, _, _ => by
    refine ⟨h, rfl, rfl, rfl, ?_⟩
    show v.2.2.1 = v.2.2.1 + nI 0
    rw [nI_0, Int32.add_zero]
  | x :: l, n, k, i, u, v, h, hn, hx, hi => by
    have hl : (x :: l).length = l.length + 1 := rfl
    rw [hl] at hn hi ⊢
    have h0 := hx 0 x rfl
    rw [Nat.add_zero] at h0
    have h1 := dm_put h (by omega) h0.1 h0.2
    have e0 : (nI i).toNatClampNeg = i := nI_clamp (by omega)
    have e1 : mk_puts v (nI i) (l.length + 1) = mk_puts (mk_put v (v.2.2.2.2.2.2.2.1 i)) (nI (i + 1)) l.length := by
      show mk_puts (mk_put v (v.2.2.2.2.2.2.2.1 (nI i).toNatClampNeg)) (nI i + 1) l.length = _
      rw [e0, nI_1]
    have h2 := dm_puts l (n + 1) k (i + 1) (dk_put u x) (mk_put v (v.2.2.2.2.2.2.2.1 i)) h1 (by omega) (fun t y hy => by
      have := hx (t + 1) y hy
      rw [show i + 1 + t = i + (t + 1) by omega]
      exact this) (by omega)
    obtain ⟨a1, a2, a3, a4, a5⟩ := h2
    rw [e1]
    refine ⟨?_, a2, a3, a4, ?_⟩
    · rw [show n + (l.length + 1) = n + 1 + l.length by omega]
      exact a1
    · rw [a5]
      show v.2.2.1 + 1 + nI l.length = v.2.2.1 + nI (l.length + 1)
      rw [← nI_1, Int32.add_assoc, Int32.add_comm 1]
theorem dm_fb (k : Int32) : dk_fb k &&& 255 = mk_fb k ∧ ¬ mk_fb k = 10 := by
  unfold dk_fb mk_fb
  by_cases h0 : k = 0
  · subst h0; decide
  by_cases h1 : k = 1
  · subst h1; decide
  by_cases h2 : k = 2
  · subst h2; decide
  by_cases h3 : k = 3
  · subst h3; decide
  rw [if_neg h0, if_neg h1, if_neg h2, if_neg h3, if_pos h0, if_pos h1, if_pos h2, if_pos h3]
  decide
theorem dm_neg1 : (-1 : Int32) < 0 := by decide
/-- a line is opened on both sides -/
theorem dm_open {n k : Nat} {u : DSt} {v : MSt} {c : Int32} (h : dmB n k u v) (hk : dmK n k u v) (hn : n + 2 ≤ 4096) (hr : (if u.2.2.2.2.1 = -1 then n + 1 else n + 2) - k + 1 ≤ 3000) (hc : ¬ c < 0) : ∃ o, (o = n ∨ o = n + 1) ∧ o = (if u.2.2.2.2.1 = -1 then n else n + 1) ∧ dmB (o + 1) k (dk_open u c) (mk_start v c) ∧ dmK (o + 1) k (dk_open u c) (mk_start v c) ∧ (dk_open u c).2.2.2.2.1 = c ∧ (mk_start v c).2.2.2.2.2.2.2 = v.2.2.2.2.2.2.2 := by
  have h3 := h.2.2.1
  have hf := dm_fb c
  rcases hk with ⟨k1, k2, k3⟩ | ⟨o, k1, k2, k3, k4, k5, k6, k7⟩
  · have e1 : dk_open u c = dk_put (dk_o2 u c) (dk_fb c) := by unfold dk_open; rw [if_pos k1]
    have e2 : mk_start v c = mk_put (mk_sk v c) (mk_fb c) := by unfold mk_start; rw [if_pos (by rw [k2]; decide)]
    have hB : dmB n k (dk_o2 u c) (mk_sk v c) := h
    have h1 := dm_put hB (by omega) hf.1 hf.2
    rw [if_pos k1] at hr
    refine ⟨n, Or.inl rfl, by rw [if_pos k1], ?_, ?_, ?_, ?_⟩
    · rw [e1, e2]; exact h1
    · rw [e1, e2]
      refine Or.inr ⟨n, hc, rfl, h.1, ?_, h3, by omega, by omega⟩
      show v.2.2.1 + 1 = nI (n + 1 - n)
      rw [k3, show n + 1 - n = 1 by omega]
      decide
    · rw [e1]; rfl
    · rw [e2]; rfl
  · have hm : ¬ u.2.2.2.2.1 = -1 := fun q => k1 (by rw [q]; decide)
    have e1 : dk_open u c = dk_put (dk_o2 (dk_endL u) c) (dk_fb c) := by unfold dk_open; rw [if_neg hm]
    have e2 : mk_start v c = mk_put (mk_sk (mk_close v) c) (mk_fb c) := by unfold mk_start; rw [if_neg (by rw [k2]; exact k1)]
    have hC := dm_close h (by omega)
    have hB : dmB (n + 1) k (dk_o2 (dk_endL u) c) (mk_sk (mk_close v) c) := hC
    have h1 := dm_put hB (by omega) hf.1 hf.2
    rw [if_neg hm] at hr
    refine ⟨n + 1, Or.inr rfl, by rw [if_neg hm], ?_, ?_, ?_, ?_⟩
    · rw [e1, e2]; exact h1
    · rw [e1, e2]
      refine Or.inr ⟨n + 1, hc, rfl, hC.1, ?_, by omega, by omega, by omega⟩
      show (0 : Int32) + 1 = nI (n + 1 + 1 - (n + 1))
      rw [show n + 1 + 1 - (n + 1) = 1 by omega]
      decide
    · rw [e1]; rfl
    · rw [e2]; rfl
end
section
/-! characters: both sides take the same ones, and write the same bytes -/
theorem dm_or192 : ∀ q, q < 32 → ((192 : Int32) ||| nI q) = nI (192 + q) := by decide +kernel
theorem dm_or224 : ∀ q, q < 16 → ((224 : Int32) ||| nI q) = nI (224 + q) := by decide +kernel
theorem dm_or240 : ∀ q, q < 8 → ((240 : Int32) ||| nI q) = nI (240 + q) := by decide +kernel
theorem dm_or128 : ∀ q, q < 64 → ((128 : Int32) ||| nI q) = nI (128 + q) := by decide +kernel
theorem dm_a255 : ∀ q, q < 256 → nI q &&& 255 = nI q := by decide +kernel
theorem dm_ne10 : ∀ q, q < 256 → 128 ≤ q → ¬ nI q = 10 := by decide +kernel
theorem dm_tl {a : Nat} (h : a < 2 ^ 31) : (128 ||| (nI a &&& 63)) &&& 255 = 128 + mk_rem (nI a) ∧ ¬ 128 + mk_rem (nI a) = 10 := by
  have h1 : nI a &&& 63 = nI (a % 64) := pk_andN (by omega) 6 (by decide)
  have h2 : mk_rem (nI a) = nI (a % 64) := pk_rem (d := 64) h (by omega) (by omega)
  have h3 : a % 64 < 64 := Nat.mod_lt _ (by omega)
  have h4 : (128 : Int32) + nI (a % 64) = nI (128 + a % 64) := nI_add 128 (a % 64)
  rw [h1, h2, dm_or128 _ h3, h4, dm_a255 _ (by omega)]
  exact ⟨rfl, dm_ne10 _ (by omega) (by omega)⟩
theorem dm_shr {a : Nat} (h : a < 2 ^ 31) : nI a >>> ((6 : Int32) &&& 31) = nI (a / 64) ∧ nI a >>> ((12 : Int32) &&& 31) = nI (a / 64 / 64) ∧ nI a >>> ((18 : Int32) &&& 31) = nI (a / 64 / 64 / 64) := by
  refine ⟨pk_shrN h _ 6 (by decide), ?_, ?_⟩
  · rw [pk_shrN h _ 12 (by decide), Nat.div_div_eq_div_mul]
  · rw [pk_shrN h _ 18 (by decide), Nat.div_div_eq_div_mul, Nat.div_div_eq_div_mul]
theorem dm_div {a : Nat} (h : a < 2 ^ 31) : nI a / 64 = nI (a / 64) := pk_div (d := 64) h (by omega) (by omega)
/-- what a character is -/
def dm_ch (c : Int32) : Prop := ∃ a : Nat, c = nI a ∧ a ≤ 1114111 ∧ (a < 55296 ∨ 57344 ≤ a)
theorem dm_lits : (57344 : Int32) = nI 57344 ∧ (1114111 : Int32) = nI 1114111 ∧ (55295 : Int32) = nI 55295 ∧ (55296 : Int32) = nI 55296 ∧ (128 : Int32) = nI 128 ∧ (2048 : Int32) = nI 2048 ∧ (65536 : Int32) = nI 65536 := ⟨rfl, rfl, rfl, rfl, rfl, rfl, rfl⟩
theorem dm_isC {c : Int32} (h : dm_ch c) : dk_isC c = 1 := by
  obtain ⟨a, rfl, h1, h2⟩ := h
  unfold dk_isC
  rw [if_neg (nI_pos (by omega))]
  by_cases h3 : a < 55296
  · rw [if_pos (show nI a ≤ (55295 : Int32) from nI_le (b := 55295) (by omega) (by omega))]
  · rw [if_neg (show ¬ nI a ≤ (55295 : Int32) from nI_ge (a := 55295) (by omega) (by omega)), if_neg (show ¬ nI a < (57344 : Int32) from nI_nlt (b := 57344) (by omega) (by omega)), if_neg (show ¬ (1114111 : Int32) < nI a from nI_nlt (a := 1114111) (by omega) (by omega))]
theorem dm_notC {c : Int32} (h : ¬ dm_ch c) : dk_isC c = 0 ∧ ∀ v, mk_code v c = (0, v) := by
  by_cases h0 : c < 0
  · have h1 : c < 57344 := Int32.lt_trans h0 (by decide)
    refine ⟨?_, fun v => ?_⟩
    · unfold dk_isC; rw [if_pos h0, if_pos h1]
    · unfold mk_code; rw [if_pos h0]
  · obtain ⟨a, ha, rfl⟩ := nI_of h0
    by_cases h1 : a ≤ 1114111
    · have h2 : 55296 ≤ a ∧ a < 57344 := by
        refine ⟨Nat.le_of_not_lt fun q => h ⟨a, rfl, h1, Or.inl q⟩, Nat.lt_of_not_le fun q => h ⟨a, rfl, h1, Or.inr q⟩⟩
      refine ⟨?_, fun v => ?_⟩
      · unfold dk_isC
        rw [if_neg h0, if_neg (show ¬ nI a ≤ (55295 : Int32) from nI_ge (a := 55295) (by omega) (by omega)), if_pos (show nI a < (57344 : Int32) from nI_lt (b := 57344) (by omega) (by omega))]
      · unfold mk_code
        rw [if_neg h0, if_neg (show ¬ (1114111 : Int32) < nI a from nI_nlt (a := 1114111) (by omega) (by omega)), if_neg (show ¬ nI a < (55296 : Int32) from nI_nlt (b := 55296) (by omega) (by omega)), if_neg (show ¬ (57344 : Int32) ≤ nI a from nI_ge (b := 57344) (by omega) (by omega))]
    · refine ⟨?_, fun v => ?_⟩
      · unfold dk_isC
        rw [if_neg h0, if_neg (show ¬ nI a ≤ (55295 : Int32) from nI_ge (a := 55295) (by omega) (by omega)), if_neg (show ¬ nI a < (57344 : Int32) from nI_nlt (b := 57344) (by omega) (by omega)), if_pos (show (1114111 : Int32) < nI a from nI_lt (a := 1114111) (by omega) (by omega))]
      · unfold mk_code
        rw [if_neg h0, if_pos (show (1114111 : Int32) < nI a from nI_lt (a := 1114111) (by omega) (by omega))]
theorem dm_code {c : Int32} (h : dm_ch c) (v : MSt) : mk_code v c = (1, mk_c3 (mk_cm v c) c) := by
  obtain ⟨a, rfl, h1, h2⟩ := h
  unfold mk_code
  rw [if_neg (nI_pos (by omega)), if_neg (show ¬ (1114111 : Int32) < nI a from nI_nlt (a := 1114111) (by omega) (by omega))]
  by_cases h3 : a < 55296
  · rw [if_pos (show nI a < (55296 : Int32) from nI_lt (b := 55296) (by omega) (by omega))]
  · rw [if_neg (show ¬ nI a < (55296 : Int32) from nI_nlt (b := 55296) (by omega) (by omega)), if_pos (show (57344 : Int32) ≤ nI a from nI_le (a := 57344) (by omega) (by omega))]
def dm_bytes (c : Int32) (l : List Int32) : Prop := 1 ≤ l.length ∧ l.length ≤ 4 ∧ dk_size c = nI l.length ∧ (∀ u, dk_putC u c = l.foldl dk_put u) ∧ ∀ v, ∃ g, mk_code v c = (1, mk_sb v g (nI l.length)) ∧ ∀ (t : Nat) (x : Int32), l[t]? = some x → x &&& 255 = g t ∧ ¬ g t = 10
theorem dm_z0 : (0 : Int32).toNatClampNeg = 0 ∧ (1 : Int32).toNatClampNeg = 1 ∧ (2 : Int32).toNatClampNeg = 2 ∧ (3 : Int32).toNatClampNeg = 3 := by decide
theorem dm_esc {c o : Int32} (hc : dm_ch c) (h1 : ¬ dk_esc c = 0) (h2 : dk_esc c = o) (h3 : ∀ v, mk_c3 v c = mk_c4 v o) (h4 : o &&& 255 = o ∧ ¬ o = 10) : dm_bytes c [92, o] := by
  refine ⟨by show 1 ≤ 2; omega, by show 2 ≤ 4; omega, ?_, ?_, ?_⟩
  · unfold dk_size; rw [if_neg h1]; rfl
  · intro u
    unfold dk_putC
    rw [if_neg h1, h2]
    rfl
  · intro v
    obtain ⟨f, n, -, e⟩ := mk_cm_many v c
    refine ⟨upd (upd f 0 92) 1 o, ?_, ?_⟩
    · rw [dm_code hc, h3, e]
      unfold mk_c4
      rw [dm_z0.1, dm_z0.2.1]
      rfl
    · intro t x hx
      match t, hx with
      | 0, hx =>
        cases hx
        rw [pk_un (by decide), pk_us]
        decide
      | 1, hx =>
        cases hx
        rw [pk_us]
        exact h4
      | t + 2, hx => cases hx
theorem dm_plain {c : Int32} (h1 : ¬ c = 92) (h2 : ¬ c = 10) (h3 : ¬ c = 9) (h4 : ¬ c = 13) : dk_esc c = 0 ∧ ∀ v, mk_c3 v c = v := by
  refine ⟨?_, fun v => ?_⟩
  · unfold dk_esc; rw [if_neg h3, if_neg h2, if_neg h4, if_neg h1]
  · unfold mk_c3; rw [if_pos h1, if_pos h2, if_pos h3, if_pos h4]
/-- every character has its bytes -/
theorem dm_char {c : Int32} (hc : dm_ch c) : ∃ l, dm_bytes c l := by
  by_cases h1 : c = 92
  · subst h1; exact ⟨_, dm_esc (o := 92) hc (by decide) (by decide) (fun v => by unfold mk_c3; rw [if_neg (by decide)]) (by decide)⟩
  by_cases h2 : c = 10
  · subst h2; exact ⟨_, dm_esc (o := 110) hc (by decide) (by decide) (fun v => by unfold mk_c3; rw [if_pos (by decide), if_neg (by decide)]) (by decide)⟩
  by_cases h3 : c = 9
  · subst h3; exact ⟨_, dm_esc (o := 116) hc (by decide) (by decide) (fun v => by unfold mk_c3; rw [if_pos (by decide), if_pos (by decide), if_neg (by decide)]) (by decide)⟩
  by_cases h4 : c = 13
  · subst h4; exact ⟨_, dm_esc (o := 114) hc (by decide) (by decide) (fun v => by unfold mk_c3; rw [if_pos (by decide), if_pos (by decide), if_pos (by decide), if_neg (by decide)]) (by decide)⟩
  obtain ⟨he, h5⟩ := dm_plain h1 h2 h3 h4
  have hcode : ∀ v, mk_code v c = (1, mk_cm v c) := fun v => by rw [dm_code hc, h5]
  obtain ⟨a, rfl, ha, hb⟩ := hc
  have hsz : dk_size (nI a) = (if (128 : Int32) ≤ nI a then (if (2048 : Int32) ≤ nI a then (if (65536 : Int32) ≤ nI a then 4 else 3) else 2) else 1) := by
    unfold dk_size; rw [if_pos he]
  have hpc : ∀ u, dk_putC u (nI a) = dk_utf u (nI a) := fun u => by unfold dk_putC; rw [if_pos he]
  have s0 := dm_shr (a := a) (by omega)
  have d1 := dm_div (a := a) (by omega)
  have d2 := dm_div (a := a / 64) (by omega)
  have d3 := dm_div (a := a / 64 / 64) (by omega)
  have t0 := dm_tl (a := a) (by omega)
  have t1 := dm_tl (a := a / 64) (by omega)
  have t2 := dm_tl (a := a / 64 / 64) (by omega)
  obtain ⟨z0, z1, z2, z3⟩ := dm_z0
  by_cases q1 : a < 128
  · have c1 : ¬ (128 : Int32) ≤ nI a := nI_ge (b := 128) q1 (by omega)
    refine ⟨[nI a], by show 1 ≤ 1; omega, by show 1 ≤ 4; omega, ?_, ?_, ?_⟩
    · rw [hsz, if_neg c1]; rfl
    · intro u; rw [hpc]; unfold dk_utf; rw [if_neg c1]; rfl
    · intro v
      refine ⟨mk_by1 v.2.2.2.2.2.2.2.1 (nI a), ?_, ?_⟩
      · rw [hcode]; unfold mk_cm; rw [if_neg c1]; rfl
      · intro t x hx
        match t, hx with
        | 0, hx =>
          cases hx
          unfold mk_by1
          rw [z0, pk_us]
          exact ⟨dm_a255 a (by omega), h2⟩
        | t + 1, hx => cases hx
  have c1 : (128 : Int32) ≤ nI a := nI_le (a := 128) (by omega) (by omega)
  by_cases q2 : a < 2048
  · have c2 : ¬ (2048 : Int32) ≤ nI a := nI_ge (b := 2048) q2 (by omega)
    refine ⟨[192 ||| (nI a >>> ((6 : Int32) &&& 31)), 128 ||| (nI a &&& 63)], by show 1 ≤ 2; omega, by show 2 ≤ 4; omega, ?_, ?_, ?_⟩
    · rw [hsz, if_pos c1, if_neg c2]; rfl
    · intro u; rw [hpc]; unfold dk_utf; rw [if_pos c1, if_neg c2]; rfl
    · intro v
      refine ⟨mk_by2 v.2.2.2.2.2.2.2.1 (nI a), ?_, ?_⟩
      · rw [hcode]; unfold mk_cm; rw [if_pos c1, if_neg c2]; rfl
      · intro t x hx
        have hq : a / 64 < 32 := by omega
        unfold mk_by2
        rw [z0, z1]
        match t, hx with
        | 0, hx =>
          cases hx
          rw [pk_us, s0.1, d1, dm_or192 _ hq, show (192 : Int32) + nI (a / 64) = nI (192 + a / 64) from nI_add 192 _, dm_a255 _ (by omega)]
          exact ⟨rfl, dm_ne10 _ (by omega) (by omega)⟩
        | 1, hx =>
          cases hx
          rw [pk_un (by decide), pk_us]
          exact t0
        | t + 2, hx => cases hx
  have c2 : (2048 : Int32) ≤ nI a := nI_le (a := 2048) (by omega) (by omega)
  by_cases q3 : a < 65536
  · have c3 : ¬ (65536 : Int32) ≤ nI a := nI_ge (b := 65536) q3 (by omega)
    refine ⟨[224 ||| (nI a >>> ((12 : Int32) &&& 31)), 128 ||| ((nI a >>> ((6 : Int32) &&& 31)) &&& 63), 128 ||| (nI a &&& 63)], by show 1 ≤ 3; omega, by show 3 ≤ 4; omega, ?_, ?_, ?_⟩
    · rw [hsz, if_pos c1, if_pos c2, if_neg c3]; rfl
    · intro u; rw [hpc]; unfold dk_utf; rw [if_pos c1, if_pos c2, if_neg c3]; rfl
    · intro v
      refine ⟨mk_by3 v.2.2.2.2.2.2.2.1 (nI a), ?_, ?_⟩
      · rw [hcode]; unfold mk_cm; rw [if_pos c1, if_pos c2, if_neg c3]; rfl
      · intro t x hx
        have hq : a / 64 / 64 < 16 := by omega
        unfold mk_by3
        rw [z0, z1, z2]
        match t, hx with
        | 0, hx =>
          cases hx
          rw [pk_us, s0.2.1, d1, d2, dm_or224 _ hq, show (224 : Int32) + nI (a / 64 / 64) = nI (224 + a / 64 / 64) from nI_add 224 _, dm_a255 _ (by omega)]
          exact ⟨rfl, dm_ne10 _ (by omega) (by omega)⟩
        | 1, hx =>
          cases hx
          rw [pk_un (by decide), pk_us, s0.1, d1]
          exact t1
        | 2, hx =>
          cases hx
          rw [pk_un (by decide), pk_un (by decide), pk_us]
          exact t0
        | t + 3, hx => cases hx
  have c3 : (65536 : Int32) ≤ nI a := nI_le (a := 65536) (by omega) (by omega)
  refine ⟨[240 ||| (nI a >>> ((18 : Int32) &&& 31)), 128 ||| ((nI a >>> ((12 : Int32) &&& 31)) &&& 63), 128 ||| ((nI a >>> ((6 : Int32) &&& 31)) &&& 63), 128 ||| (nI a &&& 63)], by show 1 ≤ 4; omega, by show 4 ≤ 4; omega, ?_, ?_, ?_⟩
  · rw [hsz, if_pos c1, if_pos c2, if_pos c3]; rfl
  · intro u; rw [hpc]; unfold dk_utf; rw [if_pos c1, if_pos c2, if_pos c3]; rfl
  · intro v
    refine ⟨mk_by4 v.2.2.2.2.2.2.2.1 (nI a), ?_, ?_⟩
    · rw [hcode]; unfold mk_cm; rw [if_pos c1, if_pos c2, if_pos c3]; rfl
    · intro t x hx
      have hq : a / 64 / 64 / 64 < 8 := by omega
      unfold mk_by4
      rw [z0, z1, z2, z3]
      match t, hx with
      | 0, hx =>
        cases hx
        rw [pk_us, s0.2.2, d1, d2, d3, dm_or240 _ hq, show (240 : Int32) + nI (a / 64 / 64 / 64) = nI (240 + a / 64 / 64 / 64) from nI_add 240 _, dm_a255 _ (by omega)]
        exact ⟨rfl, dm_ne10 _ (by omega) (by omega)⟩
      | 1, hx =>
        cases hx
        rw [pk_un (by decide), pk_us, s0.2.1, d1, d2]
        exact t2
      | 2, hx =>
        cases hx
        rw [pk_un (by decide), pk_un (by decide), pk_us, s0.1, d1]
        exact t1
      | 3, hx =>
        cases hx
        rw [pk_un (by decide), pk_un (by decide), pk_un (by decide), pk_us]
        exact t0
      | t + 4, hx => cases hx
end
section
/-! call by call: the same answer, and the states stand side by side again -/
theorem dm_more {j : Nat} {u : DSt} {v : MSt} (h : dmI j u v) : dmI (j + 1) u v := by
  obtain ⟨n, k, h1, h2, h3, h4⟩ := h
  exact ⟨n, k, h1, h2, by omega, h4⟩
theorem dm_room {n k m : Nat} {u : DSt} {v : MSt} (h : dmB n k u v) (hn : n < 4096) (hm : m ≤ 100) : dk_room u (nI m) = if n - k + m + 1 ≤ 3000 then 1 else 0 := by
  obtain ⟨h1, h2, h3, -⟩ := h
  unfold dk_room
  rw [h1, h2, pk_sub h3, nI_add, nI_1]
  by_cases q : n - k + m + 1 ≤ 3000
  · rw [if_pos q, if_neg (show ¬ (3000 : Int32) < nI (n - k + m + 1) from nI_nlt (a := 3000) q (by omega))]
  · rw [if_neg q, if_pos (show (3000 : Int32) < nI (n - k + m + 1) from nI_lt (a := 3000) (by omega) (by omega))]
theorem dm_roomM {x : Nat} (hx : x < 8000) : (nI x ≤ (3000 : Int32)) ↔ x ≤ 3000 := nI_leI (b := 3000) (by omega) (by omega)
theorem dm_begin {j : Nat} {u : DSt} {v : MSt} (h : dmI j u v) (hj : j < 512) (c : Int32) : (dk_begin u c).1 = (mk_begin v c).1 ∧ dmI (j + 1) (dk_begin u c).2 (mk_begin v c).2 := by
  have h' := dm_more h
  obtain ⟨n, k, hB, hK, hn, hs⟩ := h
  have h3 := hB.2.2.1
  have h5 := hB.2.2.2.2.1
  unfold dk_begin mk_begin
  by_cases c0 : c < 0
  · rw [if_pos c0, if_pos c0]; exact ⟨rfl, h'⟩
  rw [if_neg c0, if_neg c0]
  by_cases c1 : 3 < c
  · rw [if_pos c1, if_pos c1]; exact ⟨rfl, h'⟩
  rw [if_neg c1, if_neg c1]
  have hKK := hK
  rcases hK with ⟨k1, k2, k3⟩ | ⟨o, k1, k2, k3, k4, k5, k6, k7⟩
  · have e1 : dk_bto u = nI 1 := by unfold dk_bto; rw [if_neg (not_not_intro k1)]; rfl
    have e2 : v.2.1 + 0 + 2 = nI (n - k + 2) := by rw [h5, Int32.add_zero]; exact nI_add (n - k) 2
    rw [e1, dm_room hB (by omega) (by omega), if_pos (show v.2.2.2.1 < 0 by rw [k2]; decide), e2]
    by_cases q : n - k + 2 ≤ 3000
    · rw [if_pos (show n - k + 1 + 1 ≤ 3000 by omega), if_pos (show ¬ (1 : Int32) = 0 by decide), if_pos ((dm_roomM (by omega)).mpr q)]
      obtain ⟨o, -, ho, b1, b2, -⟩ := dm_open (c := c) hB hKK (by omega) (by rw [if_pos k1]; omega) c0
      rw [if_pos k1] at ho
      exact ⟨rfl, o + 1, k, b1, b2, by omega, by omega⟩
    · rw [if_neg (show ¬ n - k + 1 + 1 ≤ 3000 by omega), if_neg (show ¬ ¬ (0 : Int32) = 0 by decide), if_neg (fun z => q ((dm_roomM (by omega)).mp z))]
      exact ⟨rfl, h'⟩
  · have hm : ¬ u.2.2.2.2.1 = -1 := fun q => k1 (by rw [q]; decide)
    have e1 : dk_bto u = nI 2 := by unfold dk_bto; rw [if_pos hm]; rfl
    have e2 : v.2.1 + 1 + 2 = nI (n - k + 3) := by rw [h5, nI_1]; exact nI_add (n - k + 1) 2
    rw [e1, dm_room hB (by omega) (by omega), if_neg (show ¬ v.2.2.2.1 < 0 by rw [k2]; exact k1), e2]
    by_cases q : n - k + 3 ≤ 3000
    · rw [if_pos (show n - k + 2 + 1 ≤ 3000 by omega), if_pos (show ¬ (1 : Int32) = 0 by decide), if_pos ((dm_roomM (by omega)).mpr q)]
      obtain ⟨o, -, ho, b1, b2, -⟩ := dm_open (c := c) hB hKK (by omega) (by rw [if_neg hm]; omega) c0
      rw [if_neg hm] at ho
      exact ⟨rfl, o + 1, k, b1, b2, by omega, by omega⟩
    · rw [if_neg (show ¬ n - k + 2 + 1 ≤ 3000 by omega), if_neg (show ¬ ¬ (0 : Int32) = 0 by decide), if_neg (fun z => q ((dm_roomM (by omega)).mp z))]
      exact ⟨rfl, h'⟩
theorem dm_addc {n k : Nat} {u : DSt} {w : MSt} {c : Int32} {l : List Int32} (hl : dm_bytes c l) (h : dmB n k u w) (hK : dmK n k u w) (ho : ¬ u.2.2.2.2.1 < 0) (hg : w.2.2.2.2.2.2.2.2 = nI l.length) (hb : ∀ (t : Nat) (x : Int32), l[t]? = some x → x &&& 255 = w.2.2.2.2.2.2.2.1 t ∧ ¬ w.2.2.2.2.2.2.2.1 t = 10) (hn : n + l.length ≤ 4096) (hr : n + l.length - k + 1 ≤ 3000) : dmB (n + l.length) k (dk_putC u c) (mk_pall w) ∧ dmK (n + l.length) k (dk_putC u c) (mk_pall w) := by
  obtain ⟨l1, l2, l3, l4, l5⟩ := hl
  have e1 : mk_pall w = mk_puts w (nI 0) l.length := by
    unfold mk_pall
    rw [hg, nI_clamp (by omega), nI_0]
  obtain ⟨a1, a2, a3, a4, a5⟩ := dm_puts l n k 0 u w h hn (fun t x hx => by rw [Nat.zero_add]; exact hb t x hx) (by omega)
  rw [l4, e1]
  refine ⟨a1, ?_⟩
  rcases hK with ⟨k1, k2, k3⟩ | ⟨o, k1, k2, k3, k4, k5, k6, k7⟩
  · exact absurd (by rw [k1]; decide) ho
  · refine Or.inr ⟨o, by rw [a2]; exact k1, by rw [a4, a2]; exact k2, by rw [a3]; exact k3, ?_, k5, by omega, hr⟩
    rw [a5, k4, nI_add]
    congr 1
    omega
theorem dm_one : (if ¬ (1 : Int32) = 0 then (1 : Int32) else 0) = 1 := by decide
theorem dm_add {j : Nat} {u : DSt} {v : MSt} (h : dmI j u v) (hj : j < 512) (c : Int32) : (dk_add u c).1 = (mk_add v c).1 ∧ dmI (j + 1) (dk_add u c).2 (mk_add v c).2 := by
  have h' := dm_more h
  obtain ⟨n, k, hB, hK, hn, hs⟩ := h
  have h3 := hB.2.2.1
  have h5 := hB.2.2.2.2.1
  unfold dk_add mk_add
  have hKK := hK
  rcases hK with ⟨k1, k2, k3⟩ | ⟨o, k1, k2, k3, k4, k5, k6, k7⟩
  · rw [if_pos k1, if_pos (show v.2.2.2.1 < 0 by rw [k2]; decide)]; exact ⟨rfl, h'⟩
  have hm : ¬ u.2.2.2.2.1 = -1 := fun q => k1 (by rw [q]; decide)
  rw [if_neg hm, if_neg (show ¬ v.2.2.2.1 < 0 by rw [k2]; exact k1)]
  by_cases q4 : u.2.2.2.2.1 = 4
  · rw [if_pos q4, if_pos (show v.2.2.2.1 = 4 by rw [k2]; exact q4)]; exact ⟨rfl, h'⟩
  rw [if_neg q4, if_neg (show ¬ v.2.2.2.1 = 4 by rw [k2]; exact q4)]
  by_cases hc : dm_ch c
  · obtain ⟨l, hl⟩ := dm_char hc
    have hl' := hl
    obtain ⟨l1, l2, l3, l4, l5⟩ := hl'
    obtain ⟨g, g1, g2⟩ := l5 v
    rw [dm_isC hc, if_pos (show ¬ (1 : Int32) = 0 by decide), l3, dm_room hB (by omega) (by omega), g1]
    have e2 : (mk_sb v g (nI l.length)).2.1 + (mk_sb v g (nI l.length)).2.2.2.2.2.2.2.2 + 1 = nI (n - k + l.length + 1) := by
      show v.2.1 + nI l.length + 1 = _
      rw [h5, nI_add, nI_1]
    unfold mk_add2
    dsimp only
    rw [if_neg (show ¬ (1 : Int32) = 0 by decide), e2]
    by_cases q : n - k + l.length + 1 ≤ 3000
    · rw [if_pos q, if_pos (show ¬ (1 : Int32) = 0 by decide), if_pos ((dm_roomM (by omega)).mpr q)]
      obtain ⟨b1, b2⟩ := dm_addc (w := mk_sb v g (nI l.length)) hl hB hKK k1 rfl g2 (by omega) (by omega)
      exact ⟨rfl, n + l.length, k, b1, b2, by omega, by omega⟩
    · rw [if_neg q, if_neg (show ¬ ¬ (0 : Int32) = 0 by decide), if_neg (fun z => q ((dm_roomM (by omega)).mp z))]
      exact ⟨rfl, h'⟩
  · obtain ⟨c1, c2⟩ := dm_notC hc
    rw [c1, if_neg (show ¬ ¬ (0 : Int32) = 0 by decide), c2 v]
    unfold mk_add2
    dsimp only
    rw [if_pos rfl]
    exact ⟨rfl, h'⟩
theorem dm_text {j : Nat} {u : DSt} {v : MSt} (h : dmI j u v) (hj : j < 512) (c : Int32) : (dk_text u c).1 = (mk_text v c).1 ∧ dmI (j + 1) (dk_text u c).2 (mk_text v c).2 := by
  have h' := dm_more h
  obtain ⟨n, k, hB, hK, hn, hs⟩ := h
  have h3 := hB.2.2.1
  have h5 := hB.2.2.2.2.1
  unfold dk_text mk_text
  by_cases hc : dm_ch c
  · obtain ⟨l, hl⟩ := dm_char hc
    have hl' := hl
    obtain ⟨l1, l2, l3, l4, l5⟩ := hl'
    obtain ⟨g, g1, g2⟩ := l5 v
    rw [dm_isC hc, if_pos (show ¬ (1 : Int32) = 0 by decide), l3, g1]
    generalize hw : mk_sb v g (nI l.length) = w
    have w1 : w.2.1 = nI (n - k) := by rw [← hw]; exact h5
    have w2 : w.2.2.2.2.2.2.2.2 = nI l.length := by rw [← hw]; rfl
    have w3 : w.2.2.2.2.2.2.2.1 = g := by rw [← hw]; rfl
    have w4 : w.2.2.2.1 = v.2.2.2.1 := by rw [← hw]; rfl
    have hBw : dmB n k u w := by rw [← hw]; exact hB
    have hKw : dmK n k u w := by rw [← hw]; exact hK
    have hIw : dmI (j + 1) u w := ⟨n, k, hBw, hKw, by omega, hs⟩
    have g2 : ∀ (t : Nat) (x : Int32), l[t]? = some x → x &&& 255 = w.2.2.2.2.2.2.2.1 t ∧ ¬ w.2.2.2.2.2.2.2.1 t = 10 := by rw [w3]; exact g2
    unfold mk_text2
    dsimp only
    rw [if_pos (show ¬ (1 : Int32) = 0 by decide)]
    have hKw' := hKw
    rcases hKw' with ⟨k1, k2, k3⟩ | ⟨o, k1, k2, k3, k4, k5, k6, k7⟩
    · have q4 : ¬ u.2.2.2.2.1 = 4 := by rw [k1]; decide
      have m4 : ¬ w.2.2.2.1 = 4 := by rw [k2]; decide
      have e1 : dk_bto u + nI l.length = nI (1 + l.length) := by
        unfold dk_bto; rw [if_neg (not_not_intro k1)]; exact nI_add 1 _
      have e2 : w.2.1 + 1 + w.2.2.2.2.2.2.2.2 + 1 = nI (n - k + 1 + l.length + 1) := by rw [w1, w2, nI_1, nI_add, nI_1]
      rw [if_pos q4, e1, dm_room hB (by omega) (by omega), if_pos m4, if_pos (show w.2.2.2.1 < 0 by rw [k2]; decide)]
      unfold mk_text3
      rw [e2]
      by_cases q : n - k + (1 + l.length) + 1 ≤ 3000
      · rw [if_pos q, if_pos (show ¬ (1 : Int32) = 0 by decide), if_pos ((dm_roomM (by omega)).mpr (by omega)), if_neg m4]
        obtain ⟨o, -, ho, b1, b2, b3, b4⟩ := dm_open (c := 4) hBw hKw (by omega) (by rw [if_pos k1]; omega) (by decide)
        rw [if_pos k1] at ho
        obtain ⟨d1, d2⟩ := dm_addc hl b1 b2 (by rw [b3]; decide) (by rw [b4]; exact w2) (by rw [b4]; exact g2) (by omega) (by omega)
        exact ⟨rfl, o + 1 + l.length, k, d1, d2, by omega, by omega⟩
      · rw [if_neg q, if_neg (show ¬ ¬ (0 : Int32) = 0 by decide), if_neg (fun z => q (by have := (dm_roomM (by omega)).mp z; omega))]
        exact ⟨rfl, hIw⟩
    · have hm : ¬ u.2.2.2.2.1 = -1 := fun q => k1 (by rw [q]; decide)
      have n0 : ¬ w.2.2.2.1 < 0 := by rw [k2]; exact k1
      by_cases q4 : u.2.2.2.2.1 = 4
      · have m4 : w.2.2.2.1 = 4 := by rw [k2]; exact q4
        have e1 : (0 : Int32) + nI l.length = nI l.length := Int32.zero_add _
        have e2 : w.2.1 + 0 + w.2.2.2.2.2.2.2.2 + 1 = nI (n - k + l.length + 1) := by rw [w1, w2, Int32.add_zero, nI_add, nI_1]
        rw [if_neg (not_not_intro q4), e1, dm_room hB (by omega) (by omega), if_neg (not_not_intro m4)]
        unfold mk_text3
        rw [e2]
        by_cases q : n - k + l.length + 1 ≤ 3000
        · rw [if_pos q, if_pos (show ¬ (1 : Int32) = 0 by decide), if_pos ((dm_roomM (by omega)).mpr q), if_pos m4]
          obtain ⟨d1, d2⟩ := dm_addc hl hBw hKw k1 w2 g2 (by omega) (by omega)
          exact ⟨rfl, n + l.length, k, d1, d2, by omega, by omega⟩
        · rw [if_neg q, if_neg (show ¬ ¬ (0 : Int32) = 0 by decide), if_neg (fun z => q ((dm_roomM (by omega)).mp z))]
          exact ⟨rfl, hIw⟩
      · have m4 : ¬ w.2.2.2.1 = 4 := by rw [k2]; exact q4
        have e1 : dk_bto u + nI l.length = nI (2 + l.length) := by
          unfold dk_bto; rw [if_pos hm]; exact nI_add 2 _
        have e2 : w.2.1 + 2 + w.2.2.2.2.2.2.2.2 + 1 = nI (n - k + 2 + l.length + 1) := by rw [w1, w2, show nI (n - k) + 2 = nI (n - k + 2) from nI_add (n - k) 2, nI_add, nI_1]
        rw [if_pos q4, e1, dm_room hB (by omega) (by omega), if_pos m4, if_neg n0]
        unfold mk_text3
        rw [e2]
        by_cases q : n - k + (2 + l.length) + 1 ≤ 3000
        · rw [if_pos q, if_pos (show ¬ (1 : Int32) = 0 by decide), if_pos ((dm_roomM (by omega)).mpr (by omega)), if_neg m4]
          obtain ⟨o, -, ho, b1, b2, b3, b4⟩ := dm_open (c := 4) hBw hKw (by omega) (by rw [if_neg hm]; omega) (by decide)
          rw [if_neg hm] at ho
          obtain ⟨d1, d2⟩ := dm_addc hl b1 b2 (by rw [b3]; decide) (by rw [b4]; exact w2) (by rw [b4]; exact g2) (by omega) (by omega)
          exact ⟨rfl, o + 1 + l.length, k, d1, d2, by omega, by omega⟩
        · rw [if_neg q, if_neg (show ¬ ¬ (0 : Int32) = 0 by decide), if_neg (fun z => q (by have := (dm_roomM (by omega)).mp z; omega))]
          exact ⟨rfl, hIw⟩
  · obtain ⟨c1, c2⟩ := dm_notC hc
    rw [c1, if_neg (show ¬ ¬ (0 : Int32) = 0 by decide), c2 v]
    unfold mk_text2
    dsimp only
    rw [if_neg (show ¬ ¬ (0 : Int32) = 0 by decide)]
    exact ⟨rfl, h'⟩
theorem dm_end {j : Nat} {u : DSt} {v : MSt} (h : dmI j u v) (hj : j < 512) : (dk_end u).1 = (mk_end v).1 ∧ dmI (j + 1) (dk_end u).2 (mk_end v).2 := by
  have h' := dm_more h
  obtain ⟨n, k, hB, hK, hn, hs⟩ := h
  have h3 := hB.2.2.1
  unfold dk_end mk_end
  rcases hK with ⟨k1, k2, k3⟩ | ⟨o, k1, k2, k3, k4, k5, k6, k7⟩
  · rw [if_pos k1, if_pos (show v.2.2.2.1 < 0 by rw [k2]; decide)]
    exact ⟨by rw [k1, k2], h'⟩
  · have hm : ¬ u.2.2.2.2.1 = -1 := fun q => k1 (by rw [q]; decide)
    rw [if_neg hm, if_neg (show ¬ v.2.2.2.1 < 0 by rw [k2]; exact k1)]
    exact ⟨k2.symm, n + 1, k, dm_close hB (by omega), Or.inl ⟨rfl, rfl, rfl⟩, by omega, by omega⟩
theorem dm_mark {j : Nat} {u : DSt} {v : MSt} (h : dmI j u v) : dk_mark u = mk_mark v := by
  obtain ⟨n, k, hB, hK, hn, hs⟩ := h
  obtain ⟨h1, h2, h3, h4, h5, h6, -⟩ := hB
  unfold dk_mark mk_mark
  rcases hK with ⟨k1, k2, k3⟩ | ⟨o, k1, k2, k3, k4, k5, k6, k7⟩
  · rw [if_neg (not_not_intro k1), if_pos (show v.2.2.2.1 < 0 by rw [k2]; decide), h1, h6, h5, nI_add]
    congr 1
    omega
  · have hm : ¬ u.2.2.2.2.1 = -1 := fun q => k1 (by rw [q]; decide)
    rw [if_pos hm, if_neg (show ¬ v.2.2.2.1 < 0 by rw [k2]; exact k1)]
/-- lines among the rows -/
theorem dm_cn {n k : Nat} {f ro : Nat → Int32} (h8 : ∀ i, i < n - k → ro i = f (k + i) &&& 255) (hn : n - k ≤ 3000) : ∀ m i, i + m ≤ n - k → mk_cn ro (nI (dm_cnt f (k + i))) (nI i) m = nI (dm_cnt f (k + i + m)) := by
  intro m
  induction m with
  | zero => intro i _; rfl
  | succ m ih =>
    intro i hi
    show mk_cn ro (nI (dm_cnt f (k + i)) + (if ¬ ro (nI i).toNatClampNeg = 10 then 0 else 1)) (nI i + 1) m = _
    rw [nI_clamp (by omega), h8 i (by omega), nI_1]
    have e : nI (dm_cnt f (k + i)) + (if ¬ f (k + i) &&& 255 = 10 then 0 else 1) = nI (dm_cnt f (k + (i + 1))) := by
      show _ = nI (dm_cnt f (k + i) + (if f (k + i) &&& 255 = 10 then 1 else 0))
      by_cases q : f (k + i) &&& 255 = 10
      · rw [if_neg (not_not_intro q), if_pos q]; exact nI_1 _
      · rw [if_pos q, if_neg q]; exact Int32.add_zero _
    rw [e, ih (i + 1) (by omega)]
    congr 2
    omega
theorem dm_eoe {n k : Nat} {u : DSt} {v : MSt} (hB : dmB n k u v) (hK : dmK n k u v) : ∃ e : Nat, dk_eoe u = nI e ∧ k ≤ e ∧ e ≤ n ∧ v.2.2.1 = nI (n - e) ∧ (u.2.2.2.2.1 = -1 → e = n) ∧ (¬ u.2.2.2.2.1 = -1 → u.2.2.2.2.2 = nI e) := by
  obtain ⟨h1, h2, h3, -⟩ := hB
  unfold dk_eoe
  rcases hK with ⟨k1, k2, k3⟩ | ⟨o, k1, k2, k3, k4, k5, k6, k7⟩
  · rw [if_neg (not_not_intro k1)]
    exact ⟨n, h1, h3, Nat.le_refl _, by rw [k3, Nat.sub_self]; rfl, fun _ => rfl, fun q => absurd k1 q⟩
  · have hm : ¬ u.2.2.2.2.1 = -1 := fun q => k1 (by rw [q]; decide)
    rw [if_pos hm]
    exact ⟨o, k3, k5, k6, k4, fun q => absurd q hm, fun _ => k3⟩
theorem dm_count {j : Nat} {u : DSt} {v : MSt} (h : dmI j u v) (hj : j ≤ 512) (c : Int32) : dk_count u c = mk_count v c := by
  obtain ⟨n, k, hB, hK, hn, hs⟩ := h
  obtain ⟨e, e1, e2, e3, e4, -⟩ := dm_eoe hB hK
  obtain ⟨h1, h2, h3, h4, h5, h6, h7, h8, h9⟩ := hB
  unfold dk_count mk_count
  by_cases c0 : c = 0
  · rw [if_pos c0, if_pos c0, h1, h2, h5, pk_sub h3]
  rw [if_neg c0, if_neg c0]
  by_cases c1 : c = 1
  · rw [if_pos c1, if_pos c1, h4, h5, h7, nI_clamp (by omega)]
    have := dm_cn h8 hs (n - k) 0 (by omega)
    rw [Nat.add_zero, nI_0] at this
    rw [this]
    congr 2
    omega
  rw [if_neg c1, if_neg c1]
  by_cases c2 : c = 2
  · rw [if_pos c2, if_pos c2]
    rcases hK with ⟨k1, k2, k3⟩ | ⟨o, k1, k2, k3, k4, k5, k6, k7⟩
    · rw [k1, k2]
    · exact k2.symm
  rw [if_neg c2, if_neg c2]
  by_cases c3 : c = 3
  · rw [if_pos c3, if_pos c3, e1, h1, e4, pk_sub e3]
  rw [if_neg c3, if_neg c3]
end
section
theorem dm_at {u : DSt} {p : Nat} (h : p < 4096) : dk_at u (nI p) = u.1 p &&& 255 := by
  unfold dk_at
  rw [dm_ix h]
theorem dm_les {u : DSt} : ∀ m i a : Nat, i + m ≤ 4096 → dk_les u (nI a) (nI i) m = nI (a + (dm_cnt u.1 (i + m) - dm_cnt u.1 i)) := by
  intro m
  induction m with
  | zero =>
    intro i a _
    show nI a = nI (a + (dm_cnt u.1 i - dm_cnt u.1 i))
    rw [Nat.sub_self, Nat.add_zero]
  | succ m ih =>
    intro i a hi
    show dk_les u (if ¬ dk_at u (nI i) = 10 then nI a else nI a + 1) (nI i + 1) m = _
    rw [dm_at (by omega), nI_1 i]
    have hm := dm_cnt_mono u.1 (show i + 1 ≤ i + 1 + m by omega)
    have hs : dm_cnt u.1 (i + 1) = dm_cnt u.1 i + (if u.1 i &&& 255 = 10 then 1 else 0) := rfl
    by_cases q : u.1 i &&& 255 = 10
    · rw [if_neg (not_not_intro q), nI_1 a, ih (i + 1) (a + 1) (by omega)]
      rw [if_pos q] at hs
      congr 1
      rw [show i + (m + 1) = i + 1 + m by omega]
      omega
    · rw [if_pos q, ih (i + 1) a (by omega)]
      rw [if_neg q] at hs
      congr 1
      rw [show i + (m + 1) = i + 1 + m by omega]
      omega
theorem dm_wrap {x : Int32} {k s : Nat} (hx : x < 0) (hk : k < 4096) (hs : s ≤ 3000) : x - nI k < 0 ∨ ¬ x - nI k ≤ nI s := by
  have z : (0 : Int32).toInt = 0 := by decide
  have h1 : (x - nI k).toInt = (x.toInt - (k : Int)).bmod (2 ^ 32) := by rw [Int32.toInt_sub, nI_toInt (by omega)]
  have h2 : x.toInt < 0 := by rw [Int32.lt_iff_toInt_lt, z] at hx; exact hx
  have h3 : -2147483648 ≤ x.toInt := Int32.le_toInt x
  rw [Int32.lt_iff_toInt_lt, Int32.le_iff_toInt_le, h1, nI_toInt (by omega), z]
  unfold Int.bmod
  dsimp only
  split <;> omega
theorem dm_back {j : Nat} {u : DSt} {v : MSt} (h : dmI j u v) (hj : j < 512) (x : Int32) : (dk_back u x).1 = (mk_back v x).1 ∧ dmI (j + 1) (dk_back u x).2 (mk_back v x).2 := by
  have h' := dm_more h
  obtain ⟨n, k, hB, hK, hn, hs⟩ := h
  obtain ⟨h1, h2, h3, h4, h5, h6, h7, h8, h9⟩ := hB
  unfold dk_back mk_back
  rw [h6]
  by_cases c0 : x < 0
  · have e1 : x < u.2.2.1 := by
      rw [h2]
      rw [Int32.lt_iff_toInt_lt] at c0 ⊢
      have z : (0 : Int32).toInt = 0 := by decide
      rw [nI_toInt (by omega)]
      omega
    have e2 : mk_back2 v (x - nI k) = (0, v) := by
      unfold mk_back2
      rcases dm_wrap (s := n - k) c0 (show k < 4096 by omega) hs with q | q
      · rw [if_pos q]
      · by_cases q2 : x - nI k < 0
        · rw [if_pos q2]
        · rw [if_neg q2, h5, if_neg q]
    rw [if_pos e1, e2]
    exact ⟨rfl, h'⟩
  obtain ⟨a, ha, rfl⟩ := nI_of c0
  by_cases c1 : a < k
  · have e2 : mk_back2 v (nI a - nI k) = (0, v) := by
      unfold mk_back2
      rw [if_pos (pk_sneg (by omega) c1)]
    rw [if_pos (by rw [h2]; exact nI_lt c1 (by omega)), e2]
    exact ⟨rfl, h'⟩
  have e1 : nI a - nI k = nI (a - k) := pk_sub (by omega)
  rw [if_neg (show ¬ nI a < u.2.2.1 by rw [h2]; exact nI_nlt (by omega) (by omega)), h1, e1]
  unfold mk_back2
  rw [if_neg (nI_pos (show a - k < 2 ^ 31 by omega)), h5]
  by_cases c2 : n < a
  · rw [if_pos (nI_lt c2 (by omega)), if_neg (nI_ge (show n - k < a - k by omega) (by omega))]
    exact ⟨rfl, h'⟩
  rw [if_neg (nI_nlt (show a ≤ n by omega) (by omega)), if_pos (nI_le (show a - k ≤ n - k by omega) (by omega))]
  have hb : dk_btw u (nI a) = if (a = 0 ∨ u.1 (a - 1) &&& 255 = 10) then 1 else 0 := by
    unfold dk_btw
    by_cases q : a = 0
    · rw [if_pos (show nI a = 0 by rw [q]; rfl), if_pos (Or.inl q)]
    · obtain ⟨b, rfl⟩ : ∃ b, a = b + 1 := ⟨a - 1, by omega⟩
      rw [if_neg (nI_ne0 (by omega) (by omega)), nI_pred, dm_at (by omega), Nat.add_sub_cancel]
      by_cases q2 : u.1 b &&& 255 = 10
      · rw [if_neg (not_not_intro q2), if_pos (Or.inr q2)]
      · rw [if_pos q2, if_neg (fun z => z.elim (fun z => q z) q2)]
  have hm : (if nI (a - k) ≤ 0 then (if v.2.2.2.2.2.1 = 10 then ((1 : Int32), mk_b2 v (nI (a - k))) else (0, v)) else (if v.1 (nI (a - k) - 1).toNatClampNeg = 10 then (1, mk_b2 v (nI (a - k))) else (0, v))) = (if (a = 0 ∨ u.1 (a - 1) &&& 255 = 10) then (1, mk_b2 v (nI (a - k))) else (0, v)) := by
    by_cases q : a = k
    · rw [if_pos (show nI (a - k) ≤ 0 by rw [q, Nat.sub_self]; decide)]
      by_cases q2 : a = 0 ∨ u.1 (a - 1) &&& 255 = 10
      · rw [if_pos q2, if_pos (h9.mpr (by rw [← q]; exact q2))]
      · rw [if_neg q2, if_neg (fun z => q2 (by rw [q]; exact h9.mp z))]
    · obtain ⟨b, hb⟩ : ∃ b, a - k = b + 1 := ⟨a - k - 1, by omega⟩
      rw [if_neg (show ¬ nI (a - k) ≤ 0 from nI_nle (by omega) (by omega)), hb, nI_pred, nI_clamp (by omega), h8 b (by omega), show k + b = a - 1 by omega]
      by_cases q2 : u.1 (a - 1) &&& 255 = 10
      · rw [if_pos q2, if_pos (Or.inr q2)]
      · rw [if_neg q2, if_neg (fun z => z.elim (fun z => by omega) q2)]
  rw [hm, hb]
  by_cases q : a = 0 ∨ u.1 (a - 1) &&& 255 = 10
  · rw [if_pos q, if_pos q, if_pos (show ¬ (1 : Int32) = 0 by decide)]
    refine ⟨rfl, a, k, ⟨rfl, h2, by omega, ?_, rfl, h6, h7, fun i hi => h8 i (by omega), h9⟩, Or.inl ⟨rfl, rfl, rfl⟩, by omega, by omega⟩
    show u.2.2.2.1 - dk_lef u (nI a) = nI (dm_cnt u.1 a)
    have e3 : dk_lef u (nI a) = dk_les u (nI 0) (nI a) (n - a) := by
      rw [nI_0]
      exact dk_lefN (by rw [h1]; congr 1; omega) (by omega)
    have hmo := dm_cnt_mono u.1 (show a ≤ n by omega)
    have hle := dm_cnt_le u.1 n
    rw [e3, dm_les (n - a) a 0 (by omega), h4, show a + (n - a) = n by omega, pk_sub (by omega)]
    congr 1
    omega
  · rw [if_neg q, if_neg q, if_neg (show ¬ ¬ (0 : Int32) = 0 by decide)]
    exact ⟨rfl, h'⟩
/-- the rows go down by d -/
theorem dm_sh {d : Nat} (hd : 1 ≤ d) : ∀ (m j : Nat) (ro : Nat → Int32), d ≤ j → j + m ≤ 3000 → ∀ i, mk_sh ro (nI d) (nI j) m i = if i < j - d then ro i else if i < j - d + m then ro (i + d) else ro i := by
  intro m
  induction m with
  | zero =>
    intro j ro h1 h2 i
    show ro i = _
    by_cases q : i < j - d
    · rw [if_pos q]
    · rw [if_neg q, if_neg (by omega)]
  | succ m ih =>
    intro j ro h1 h2 i
    show mk_sh (upd ro (nI j - nI d).toNatClampNeg (ro (nI j).toNatClampNeg)) (nI d) (nI j + 1) m i = _
    rw [pk_sub h1, nI_clamp (by omega), nI_clamp (by omega), nI_1, ih (j + 1) _ (by omega) (by omega) i]
    by_cases q : i < j - d
    · rw [if_pos (by omega), if_pos q, pk_un (by omega)]
    rw [if_neg q]
    by_cases q2 : i = j - d
    · rw [if_pos (by omega), if_pos (by omega), q2, pk_us, show j - d + d = j by omega]
    · rw [if_neg (by omega)]
      by_cases q3 : i < j - d + (m + 1)
      · rw [if_pos (by omega), if_pos q3, pk_un (by omega)]
      · rw [if_neg (by omega), if_neg q3, pk_un (by omega)]
def dm_bv (f : Nat → Int32) (t : Nat) : Nat := (f t &&& 255).toNatClampNeg
theorem dm_bv_ok (f : Nat → Int32) (t : Nat) : f t &&& 255 = nI (dm_bv f t) ∧ dm_bv f t < 256 := by
  obtain ⟨q, h1, h2⟩ := pk_andE (f t) (m := 255) 8 (by decide)
  have h3 : dm_bv f t = q := by unfold dm_bv; rw [h2, nI_clamp (by omega)]
  rw [h3, h2]
  exact ⟨rfl, h1⟩
def dm_A (f : Nat → Int32) (k d : Nat) : Nat → Nat
  | 0 => d
  | i + 1 => dm_A f k d i * 256 + (if i < d then dm_bv f (k + i) else 0)
theorem dm_A_lt (f : Nat → Int32) (k d : Nat) (hd : d ≤ 7) : ∀ i, dm_A f k d i < 8 * 256 ^ i
  | 0 => by show d < 8 * 1; omega
  | i + 1 => by
    have h := dm_A_lt f k d hd i
    have hb := (dm_bv_ok f (k + i)).2
    show dm_A f k d i * 256 + (if i < d then dm_bv f (k + i) else 0) < 8 * 256 ^ (i + 1)
    rw [Nat.pow_succ]
    have : (if i < d then dm_bv f (k + i) else 0) < 256 := by split <;> omega
    omega
theorem dm_A_zero (f : Nat → Int32) (k d : Nat) : ∀ t, dm_A f k d (d + t) = dm_A f k d d * 256 ^ t
  | 0 => by rw [Nat.add_zero, Nat.pow_zero, Nat.mul_one]
  | t + 1 => by
    show dm_A f k d (d + t) * 256 + (if d + t < d then dm_bv f (k + (d + t)) else 0) = _
    rw [if_neg (by omega), dm_A_zero f k d t, Nat.pow_succ, Nat.add_zero, Nat.mul_assoc]
theorem dm_p7 {i : Nat} (h : i ≤ 7) : 8 * 256 ^ i ≤ 8 * 256 ^ 7 := Nat.mul_le_mul_left _ (Nat.pow_le_pow_right (by decide) h)
/-- the class's piece -/
theorem dm_pc {u : DSt} {k d : Nat} (h2 : u.2.2.1 = nI k) (hd : d ≤ 7) (hk : k + 7 ≤ 4096) : ∀ m i : Nat, i + m ≤ 7 → dk_pc u (nI d) (lN (dm_A u.1 k d i)) (nI i) m = lN (dm_A u.1 k d (i + m)) := by
  intro m
  induction m with
  | zero => intro i _; rfl
  | succ m ih =>
    intro i hi
    show dk_pc u (nI d) ((lN (dm_A u.1 k d i) <<< ((nI 8).toInt64 &&& 63)) ||| (if nI d ≤ nI i then 0 else dk_at u (u.2.2.1 + nI i)).toInt64) (nI i + 1) m = _
    obtain ⟨b1, b2⟩ := dm_bv_ok u.1 (k + i)
    have e1 : (if nI d ≤ nI i then 0 else dk_at u (u.2.2.1 + nI i)) = nI (if i < d then dm_bv u.1 (k + i) else 0) := by
      by_cases q : i < d
      · rw [if_neg (nI_ge q (by omega)), if_pos q, h2, nI_add, dm_at (by omega), b1]
      · rw [if_pos (nI_le (by omega) (by omega)), if_neg q]; rfl
    have hlt : (if i < d then dm_bv u.1 (k + i) else 0) < 256 := by split <;> omega
    have hA := dm_A_lt u.1 k d hd i
    have hA1 := dm_A_lt u.1 k d hd (i + 1)
    have hp := dm_p7 (show i + 1 ≤ 7 by omega)
    have e2 : dm_A u.1 k d (i + 1) = dm_A u.1 k d i * 256 + (if i < d then dm_bv u.1 (k + i) else 0) := rfl
    rw [e1, wb_shl (k := 8) _ (by omega), nI_l (by omega), nI_1, show (2 : Nat) ^ 8 = 256 from rfl, g_or (k := 8) rfl hlt (by omega), ← e2, ih (i + 1) (by omega)]
    congr 2
    omega
/-- the reference's piece -/
theorem dm_t1 {f ro : Nat → Int32} {k d n : Nat} (h8 : ∀ i, i < n - k → ro i = f (k + i) &&& 255) (hd : d ≤ 7) (hdn : d ≤ n - k) : ∀ m i : Nat, i + m ≤ d → mk_t1 ro (lN (dm_A f k d i * 2 ^ (56 - 8 * i))) (nI i) m = lN (dm_A f k d (i + m) * 2 ^ (56 - 8 * (i + m))) := by
  intro m
  induction m with
  | zero => intro i _; rfl
  | succ m ih =>
    intro i hi
    show mk_t1 ro (lN (dm_A f k d i * 2 ^ (56 - 8 * i)) ||| ((ro (nI i).toNatClampNeg).toInt64 <<< ((nI 48 - nI 8 * nI i).toInt64 &&& 63))) (nI i + 1) m = _
    obtain ⟨b1, b2⟩ := dm_bv_ok f (k + i)
    have hA := dm_A_lt f k d hd (i + 1)
    have e2 : dm_A f k d (i + 1) = dm_A f k d i * 256 + dm_bv f (k + i) := by
      show dm_A f k d i * 256 + (if i < d then dm_bv f (k + i) else 0) = _
      rw [if_pos (by omega)]
    have hP : 2 ^ (56 - 8 * i) = 256 * 2 ^ (48 - 8 * i) := by
      rw [show 56 - 8 * i = 8 + (48 - 8 * i) by omega, Nat.pow_add]
    have hP1 : 2 ^ (56 - 8 * (i + 1)) = 2 ^ (48 - 8 * i) := by congr 1; omega
    have hpos : 0 < 2 ^ (48 - 8 * i) := Nat.two_pow_pos _
    have hsum : dm_A f k d i * 2 ^ (56 - 8 * i) + dm_bv f (k + i) * 2 ^ (48 - 8 * i) = dm_A f k d (i + 1) * 2 ^ (48 - 8 * i) := by
      rw [hP, e2, Nat.add_mul, Nat.mul_assoc]
    have hbig : dm_A f k d (i + 1) * 2 ^ (48 - 8 * i) < 2 ^ 64 := by
      have h1 : dm_A f k d (i + 1) * 2 ^ (48 - 8 * i) < 8 * 256 ^ (i + 1) * 2 ^ (48 - 8 * i) := Nat.mul_lt_mul_of_pos_right hA hpos
      have h2 : 8 * 256 ^ (i + 1) * 2 ^ (48 - 8 * i) = 2 ^ 59 := by
        rw [show (8 : Nat) = 2 ^ 3 from rfl, show (256 : Nat) = 2 ^ 8 from rfl, ← Nat.pow_mul, ← Nat.pow_add, ← Nat.pow_add]
        congr 1
        omega
      have h3 : (2 : Nat) ^ 59 < 2 ^ 64 := by decide
      omega
    have hless : dm_bv f (k + i) * 2 ^ (48 - 8 * i) < 2 ^ (56 - 8 * i) := by
      rw [hP]
      exact Nat.mul_lt_mul_of_pos_right b2 hpos
    rw [nI_clamp (by omega), h8 i (by omega), b1, nI_l (by omega), pk_mul, pk_sub (show 8 * i ≤ 48 by omega), wb_shl _ (by omega), nI_1, g_or rfl hless (by rw [hsum]; exact hbig), hsum, ← hP1, ih (i + 1) (by omega)]
    rw [show i + 1 + m = i + (m + 1) by omega]
theorem dm_min1 {q : Nat} (h : q < 8000) : (if (7 : Int32) < nI q then 7 else nI q) = nI (min q 7) := by
  by_cases c : 7 < q
  · rw [if_pos (show (7 : Int32) < nI q from nI_lt (a := 7) c (by omega)), show min q 7 = 7 by omega]; rfl
  · rw [if_neg (show ¬ (7 : Int32) < nI q from nI_nlt (a := 7) (by omega) (by omega)), show min q 7 = q by omega]
theorem dm_min2 {q : Nat} (h : q < 8000) : (if (7 : Int32) ≤ nI q then 7 else nI q) = nI (min q 7) := by
  by_cases c : 7 ≤ q
  · rw [if_pos (show (7 : Int32) ≤ nI q from nI_le (a := 7) c (by omega)), show min q 7 = 7 by omega]; rfl
  · rw [if_neg (show ¬ (7 : Int32) ≤ nI q from nI_ge (b := 7) (by omega) (by omega)), show min q 7 = q by omega]
theorem dm_take {j : Nat} {u : DSt} {v : MSt} (h : dmI j u v) (hj : j < 512) : (dk_take u).1 = (mk_take v).1 ∧ dmI (j + 1) (dk_take u).2 (mk_take v).2 := by
  have h' := dm_more h
  obtain ⟨n, k, hB, hK, hn, hs⟩ := h
  obtain ⟨e, e1, e2, e3, e4, e5, e6⟩ := dm_eoe hB hK
  obtain ⟨h1, h2, h3, h4, h5, h6, h7, h8, h9⟩ := hB
  have a1 : dk_sz u = nI (min (e - k) 7) := by
    unfold dk_sz
    rw [e1, h2, pk_sub e2]
    exact dm_min1 (by omega)
  have a2 : mk_n v = nI (min (e - k) 7) := by
    unfold mk_n
    rw [h5, e4, pk_sub (by omega), show n - k - (n - e) = e - k by omega]
    exact dm_min2 (by omega)
  unfold dk_take mk_take
  rw [a1, a2]
  generalize hde : min (e - k) 7 = d
  have hd : d ≤ 7 := by omega
  have hdk : k + d ≤ e := by omega
  by_cases q : d = 0
  · subst q
    unfold mk_take2
    rw [if_neg (show ¬ (0 : Int32) < nI 0 by decide), if_neg (show ¬ ¬ nI 0 = 0 by decide)]
    exact ⟨rfl, h'⟩
  unfold mk_take2
  rw [if_pos (show (0 : Int32) < nI d from nI_lt (a := 0) (by omega) (by omega)), if_pos (nI_ne0 (by omega) (by omega)), nI_clamp (by omega)]
  refine ⟨?_, n, k + d, ⟨h1, ?_, by omega, h4, ?_, ?_, ?_, ?_, ?_⟩, ?_, by omega, by omega⟩
  · show dk_pc u (nI d) (nI d).toInt64 0 7 = mk_t1 v.1 ((nI d).toInt64 <<< ((nI 56).toInt64 &&& 63)) 0 d
    have p1 := dm_pc (u := u) (k := k) (d := d) h2 hd (by omega) 7 0 (by omega)
    have p2 := dm_t1 (f := u.1) (ro := v.1) (k := k) (d := d) (n := n) h8 hd (by omega) d 0 (by omega)
    rw [Nat.zero_add, nI_0] at p1 p2
    rw [nI_l (by omega), wb_shl _ (by omega)]
    have p1 : dk_pc u (nI d) (lN d) 0 7 = lN (dm_A u.1 k d 7) := p1
    have p2 : mk_t1 v.1 (lN (d * 2 ^ 56)) 0 d = lN (dm_A u.1 k d d * 2 ^ (56 - 8 * d)) := p2
    rw [p1, p2]
    congr 1
    have p3 := dm_A_zero u.1 k d (7 - d)
    rw [show d + (7 - d) = 7 by omega] at p3
    rw [p3]
    congr 1
    rw [show (256 : Nat) = 2 ^ 8 from rfl, ← Nat.pow_mul]
    congr 1
    omega
  · show u.2.2.1 + nI d = nI (k + d)
    rw [h2, nI_add]
  · show v.2.1 - nI d = nI (n - (k + d))
    rw [h5, pk_sub (by omega)]
    congr 1
    omega
  · show v.2.2.2.2.1 + nI d = nI (k + d)
    rw [h6, nI_add]
  · show mk_cn v.1 v.2.2.2.2.2.2.1 0 (nI d).toNatClampNeg = nI (dm_cnt u.1 (k + d))
    have p := dm_cn h8 hs d 0 (by omega)
    rw [Nat.add_zero, nI_0] at p
    rw [nI_clamp (by omega), h7]
    exact p
  · intro i hi
    show mk_sh v.1 (nI d) (nI d) (v.2.1 - nI d).toNatClampNeg i = u.1 (k + d + i) &&& 255
    rw [h5, pk_sub (by omega), nI_clamp (by omega), dm_sh (by omega) (n - k - d) d v.1 (Nat.le_refl _) (by omega) i, if_neg (by omega), if_pos (by omega), h8 (i + d) (by omega), show k + (i + d) = k + d + i by omega]
  · show v.1 (nI d - 1).toNatClampNeg = 10 ↔ (k + d = 0 ∨ u.1 (k + d - 1) &&& 255 = 10)
    obtain ⟨b, rfl⟩ : ∃ b, d = b + 1 := ⟨d - 1, by omega⟩
    rw [nI_pred, nI_clamp (by omega), h8 b (by omega), show k + (b + 1) - 1 = k + b by omega]
    exact ⟨Or.inr, fun z => z.elim (fun z => by omega) id⟩
  · rcases hK with ⟨k1, k2, k3⟩ | ⟨o, k1, k2, k3, k4, k5, k6, k7⟩
    · exact Or.inl ⟨k1, k2, k3⟩
    · have hm : ¬ u.2.2.2.2.1 = -1 := fun q => k1 (by rw [q]; decide)
      exact Or.inr ⟨e, k1, k2, e6 hm, e4, by omega, by omega, by omega⟩
end
section
/-! THE CLAIM OUT OF ONE WALK OF THE LAW'S BODY. Your part is whole_start (and what it stands on); all else here is the same for every law, but numbers. -/
def R_law : String := "EventLineDeskLaw"
def lw_P (b : Addr) (xs : List Int32) (args : Array Value) (s : State) : Prop := args = #[.ref b] ∧ s.IntsAt b xs ∧ xs.length ≤ 1024 ∧ (Jvm.Cond.and given_1 narrow_1).before args s = true
def lw_Q (_ : Array Value) (s : State) (o : Outcome) (t : State) : Prop := o = .returned (some (.int 1)) ∧ Framed s o t [] 5 7115
def lw_Z (below : List Frame) (a : Array Value) (s : State) : State → Prop := fun t => ∃ o, t.status = .running ∧ Ended t below o ∧ lw_Q a s o t
/-- the law's own end, with 1 on the stack, nothing written that was there before, its room as the claim has it -/
theorem lw_ret {p : Program} {l : Launch} {e : Env} {s : State} {m : MethodId} {below : List Frame} {meth : Method} {c : Code} {b : Nat} (hx : p.tables.exec = Jvm.exec) (hb : c.code = code) (hr : meth.sig.returnType = ret) (hlocks : meth.locks = false) {pc : Nat} {H : Heap} {ls : Array Slot} (hdg : decode code pc = .ok (.ireturn, 1)) : W p l e room_1 s m #[Value.ref b] below meth c H [] 5 7115 (lw_Z below #[Value.ref b] s) (F0 m pc ls [.int 1]) := by
  intro T hT X
  obtain ⟨fs, hret, hrun, hended, hW, hframe⟩ := X.leave (v := some (.int 1)) (hlocks := hlocks) (fun h => by rw [hr] at h; cases h)
  have hmeth' : T.vm.method? m = some meth := X.method'
  refine ⟨T.setFrames fs, ?_, .returned (some (.int 1)), hrun, hended, rfl, ⟨_, rfl⟩, hW, hframe⟩
  jvm_step X.here [X.here.top, hx, hb, hdg, hmeth', hr, ret, narrow_b1]
  (try refine ⟨rfl, ?_⟩); (try refine ⟨rfl, ?_⟩)
  first | (intro acts; rw [hret _ acts rfl rfl rfl]) | rw [hret _ _ rfl rfl rfl]
  exact Steps.refl _
/-- what holds at the law's entry: the machine, the code, the tables' words (any of lw_tbl by 'hts w (by decide +kernel)'), the script of L ints xs at the cell b, what the Statement gives of the start (any of its parts by flat_of_before) -/
def lw_At (p : Program) (s : State) (m : MethodId) (meth : Method) (c : Code) (b L : Nat) (xs : Nat → Int32) : Prop :=
  p.tables.exec = Jvm.exec ∧ c.code = code ∧ meth.sig.returnType = ret ∧ c.maxLocals = 4 ∧ s.vm.findClass R_law = some m.cls ∧ (∀ w ∈ lw_tbl, w.before #[Value.ref b] s = true) ∧ va_X b L xs s s.heap ∧ b < s.heap.size ∧ meth.locks = false ∧ (Jvm.Cond.and given_1 narrow_1).before #[Value.ref b] s = true
theorem kk_keep {D : va_G} {cl : List vw_C} {w w2 : va_W} {H H1 : Heap} (hP : va_P D cl w2 H) (hk : ∀ q : Nat, q < H.size → ¬ kk_A w q → H1[q]? = H[q]?) (hd : ∀ (k : Nat) (q : Nat × va_E), w2[k]? = some q → ¬ kk_A w q.1) : va_P D cl w2 H1 := hP.kept (fun k q h => hk q.1 (hP k q h).lt (hd k q h))
theorem lw_end {L j : Nat} (hL : L ≤ 1024) (hj : j ≤ 513) : (nI L - 2 < nI (2 * j)) ↔ L < 2 * j + 2 := by
  have h1 : (nI L - nI 2).toInt = (L : Int) - 2 := pk_sub_toInt (by omega) (by omega)
  have h2 : (nI (2 * j)).toInt = ((2 * j : Nat) : Int) := nI_toInt (by omega)
  show nI L - nI 2 < nI (2 * j) ↔ _
  rw [Int32.lt_iff_toInt_lt, h1, h2]
  omega
theorem lw_sw8 (x : Int32) : x &&& 7 = 0 ∨ x &&& 7 = 1 ∨ x &&& 7 = 2 ∨ x &&& 7 = 3 ∨ x &&& 7 = 4 ∨ x &&& 7 = 5 ∨ x &&& 7 = 6 ∨ x &&& 7 = 7 := by
  obtain ⟨j, h1, h2⟩ := pk_andE x (m := 7) 3 (by decide)
  rw [h2]
  have h3 : j = 0 ∨ j = 1 ∨ j = 2 ∨ j = 3 ∨ j = 4 ∨ j = 5 ∨ j = 6 ∨ j = 7 := by omega
  rcases h3 with rfl | rfl | rfl | rfl | rfl | rfl | rfl | rfl <;> decide
theorem kk_dis {w1 w2 : va_W} {A : Nat → Prop} (h : va_D A (w1 ++ w2)) : (∀ (k : Nat) (q : Nat × va_E), w2[k]? = some q → ¬ kk_A w1 q.1) ∧ (∀ (k : Nat) (q : Nat × va_E), w1[k]? = some q → ¬ kk_A w2 q.1) := by
  have key : ∀ (a b : Nat) (p q : Nat × va_E), w1[a]? = some p → w2[b]? = some q → p.1 ≠ q.1 := by
    intro a b p q ha hb e
    have hl : a < w1.length := (List.getElem?_eq_some_iff.mp ha).1
    have h1 : (w1 ++ w2)[a]? = some p := by rw [List.getElem?_append_left hl]; exact ha
    have h2 : (w1 ++ w2)[w1.length + b]? = some q := by rw [List.getElem?_append_right (by omega), Nat.add_sub_cancel_left]; exact hb
    have := h.1 a (w1.length + b) p q h1 h2 e
    omega
  exact ⟨fun k q hq z => by obtain ⟨a, x, ha⟩ := z; exact key a k _ _ ha hq rfl, fun k q hq z => by obtain ⟨a, x, ha⟩ := z; exact key k a _ _ hq ha rfl⟩
theorem lg_cmp_self (x : Int64) : lg_cmp x x = 0 := by
  unfold lg_cmp
  rw [if_neg (show ¬ x > x from Int64.lt_irrefl), if_pos rfl]
theorem dm_ok {j : Nat} {u : DSt} {v : MSt} (h : dmI j u v) : mk_ok v.2.1 := by
  obtain ⟨n, k, hB, -, -, hs⟩ := h
  exact ⟨n - k, hB.2.2.2.2.1, hs⟩
theorem dm_okE {j : Nat} {u : DSt} {v : MSt} (h : dmI j u v) : ¬ v.2.2.2.1 < 0 → vp_in v.2.1 3000 := by
  obtain ⟨n, k, hB, hK, -, -⟩ := h
  intro q
  rcases hK with ⟨k1, k2, k3⟩ | ⟨o, k1, k2, k3, k4, k5, k6, k7⟩
  · exact absurd (by rw [k2]; decide) q
  · rw [hB.2.2.2.2.1]
    exact vp_in_nI (by omega) (by omega)
theorem dm_ok2 {j : Nat} {u : DSt} {v : MSt} (h : dmI j u v) : mk_ok2 v.2.1 v.2.2.1 := by
  obtain ⟨n, k, hB, hK, -, hs⟩ := h
  obtain ⟨e, e1, e2, e3, e4, -⟩ := dm_eoe hB hK
  exact ⟨n - k, n - e, hB.2.2.2.2.1, e4, by omega, hs⟩
theorem dm_rng {j : Nat} {u : DSt} {v : MSt} (h : dmI j u v) (hj : j ≤ 512) : dk_rng u.2.2.1 u.2.1 := by
  obtain ⟨n, k, hB, -, hn, -⟩ := h
  have h3 := hB.2.2.1
  exact ⟨k, n - k, hB.2.1, by rw [hB.1]; congr 1; omega, by omega⟩
def lw_G (p : Program) (l : Launch) (e : Env) (s : State) (m : MethodId) (below : List Frame) (meth : Method) (c : Code) (D : va_G) (cA cR cY : ClassId) (q0 q1 m0 m1 m2 b : Nat) (pc : Nat) (i : Int32) (u : DSt) (v : MSt) : Prop := ∀ (H : Heap) (locs : List Loc) (ls : Array Slot), va_P D vwCl (dkW cA q0 q1 u) H → va_P D vwCl (mkW cR cY m0 m1 m2 v) H → va_S (fun q : Nat => s.heap.size ≤ q) s.heap H locs → lv_has ls 4 [(0, .ref b), (1, .ref q0), (2, .ref m0), (3, .int i)] → W p l e room_1 s m #[Value.ref b] below meth c H locs 5 7115 (lw_Z below #[Value.ref b] s) (F0 m pc ls [])
set_option maxHeartbeats 4000000 in
set_option maxRecDepth 100000 in
theorem law_begin {p : Program} {l : Launch} {e : Env} {s : State} {m : MethodId} {below : List Frame} {meth : Method} {c : Code} {D : va_G} {cA cR cY : ClassId} {q0 q1 m0 m1 m2 b L : Nat} {xs : Nat → Int32} (hL : L ≤ 1024) (C0 : lw_At p s m meth c b L xs) (hK : va_K D vwCl [(cA, .byte), (cR, .int), (cY, .int)] s) {j : Nat} {i : Int32} (hi : i = nI (2 * j)) (hjL : 2 * j + 2 ≤ L) {u : DSt} {v : MSt} (hI : dmI j u v) (hDa : ∀ (u : DSt) (v : MSt), va_D (fun q : Nat => s.heap.size ≤ q) (dkW cA q0 q1 u ++ mkW cR cY m0 m1 m2 v)) (hnext : ∀ (u : DSt) (v : MSt), dmI (j + 1) u v → lw_G p l e s m below meth c D cA cR cY q0 q1 m0 m1 m2 b 235 i u v) : lw_G p l e s m below meth c D cA cR cY q0 q1 m0 m1 m2 b 80 i u v := by
  obtain ⟨hx, hb, hr, hml, hown, hts0, hX, hbl, hlocks, hgv⟩ := id C0
  have hts : ∀ w ∈ wsL_law, w.before #[Value.ref b] s = true := fun w h => hts0 w (wsL_law_in w h)
  have hown : s.vm.findClass RL = some m.cls := hown
  have hbA : ¬ (fun q : Nat => s.heap.size ≤ q) b := Nat.not_le.mpr hbl
  obtain ⟨rg, tt, tk, en, ki, os⟩ := u
  obtain ⟨ro, sz, op, kd, ta, la, li, bt, mn⟩ := v
  have hDd : ∀ u : DSt, va_D (fun q : Nat => s.heap.size ≤ q) (dkW cA q0 q1 u) := fun u => (hDa u (ro, sz, op, kd, ta, la, li, bt, mn)).sub [0, 1] (by decide) rfl
  have hDm : ∀ v : MSt, va_D (fun q : Nat => s.heap.size ≤ q) (mkW cR cY m0 m1 m2 v) := fun v => (hDa (rg, tt, tk, en, ki, os) v).sub [2, 3, 4] (by decide) rfl
  have hKd : va_K D vwCl [(cA, .byte)] s := hK.sub [0] rfl
  have hKm : va_K D vwCl [(cR, .int), (cY, .int)] s := hK.sub [1, 2] rfl
  intro H locs ls hPd hPm hS hl
  refine lv_aload_n hx hb dL_law_80 rfl (lv_at hl 1 rfl) ?_
  refine lv_aload_n hx hb dL_law_81 rfl (lv_at hl 0 rfl) ?_
  refine lv_iload_n hx hb dL_law_82 rfl (lv_at hl 3 rfl) ?_
  refine lv_iconst (v := 1) hx hb dL_law_83 (by decide) ?_
  refine lv_iadd hx hb dL_law_84 ?_
  refine lv_topi (fun t1 et1 => ?_)
  have hin1 : vp_in t1 L := by rw [et1, hi, nI_1]; exact vp_in_nI (by omega) (by omega)
  refine va_sld hx hb hX hbl hbA hS hin1 dL_law_85 ?_
  refine lv_topi (fun x ex => ?_)
  refine kk_mutI (cs := dkW cA q0 q1) (ci := 0) (q0 := 0) (rest := []) ⟨hx, hb, hml, hown, hts⟩ (cD_begin l D cA q0 q1 rg tt tk en ki os x) (cwV 1 hts gL_law_X0_begin rfl rfl rfl (by decide +kernel) ⟨Nat.le_of_ble_eq_true rfl, Nat.le_of_ble_eq_true rfl⟩) hKd hPd (hDd _) hS rfl rfl rfl hl.1 rfl (Nat.le_of_ble_eq_true rfl) dL_law_86 ⟨Nat.le_refl 5, Nat.le_refl 7115⟩ (fun r1 u1 H1 locs1 hu1 hPu1 hS hz1 hk1 => ?_)
  have hPm := kk_keep hPm hk1 (kk_dis (hDa (rg, tt, tk, en, ki, os) (ro, sz, op, kd, ta, la, li, bt, mn))).1
  have hPd := hPu1
  refine lv_aload_n hx hb dL_law_89 rfl (lv_at hl 2 rfl) ?_
  refine lv_aload_n hx hb dL_law_90 rfl (lv_at hl 0 rfl) ?_
  refine lv_iload_n hx hb dL_law_91 rfl (lv_at hl 3 rfl) ?_
  refine lv_iconst (v := 1) hx hb dL_law_92 (by decide) ?_
  refine lv_iadd hx hb dL_law_93 ?_
  refine lv_topi (fun t2 et2 => ?_)
  have hin2 : vp_in t2 L := by rw [et2, hi, nI_1]; exact vp_in_nI (by omega) (by omega)
  refine va_sld hx hb hX hbl hbA hS hin2 dL_law_94 ?_
  rw [show xs t2.toNatClampNeg = x from by rw [ex, et2, et1]]
  refine kk_mutI (cs := mkW cR cY m0 m1 m2) (ci := 1) (q0 := 0) (rest := [.int r1]) ⟨hx, hb, hml, hown, hts⟩ (cM_begin l D cR cY m0 m1 m2 ro sz op kd ta la li bt mn x (dm_ok hI)) (cwV 1 hts gL_law_X1_begin rfl rfl rfl (by decide +kernel) ⟨Nat.le_of_ble_eq_true rfl, Nat.le_of_ble_eq_true rfl⟩) hKm hPm (hDm _) hS rfl rfl rfl hl.1 rfl (Nat.le_of_ble_eq_true rfl) dL_law_95 ⟨Nat.le_refl 5, Nat.le_refl 7115⟩ (fun r2 v1 H2 locs2 hv1 hPv1 hS hz2 hk2 => ?_)
  have hPd := kk_keep hPd hk2 (kk_dis (hDa u1 (ro, sz, op, kd, ta, la, li, bt, mn))).2
  have hsim := dm_begin hI (by omega) x
  refine lv_icmp_eq (tgt := 235) hx hb dL_law_98 (by decide) (fun c1 => ?_) (fun c1 => ?_)
  · exact hnext u1 v1 (by rw [hu1.2, hv1.2]; exact hsim.2) H2 locs2 ls hPd hPv1 hS hl
  · exact absurd (by rw [hu1.1, hv1.1]; exact hsim.1) c1
set_option maxHeartbeats 4000000 in
set_option maxRecDepth 100000 in
theorem law_add {p : Program} {l : Launch} {e : Env} {s : State} {m : MethodId} {below : List Frame} {meth : Method} {c : Code} {D : va_G} {cA cR cY : ClassId} {q0 q1 m0 m1 m2 b L : Nat} {xs : Nat → Int32} (hL : L ≤ 1024) (C0 : lw_At p s m meth c b L xs) (hK : va_K D vwCl [(cA, .byte), (cR, .int), (cY, .int)] s) {j : Nat} {i : Int32} (hi : i = nI (2 * j)) (hjL : 2 * j + 2 ≤ L) {u : DSt} {v : MSt} (hI : dmI j u v) (hDa : ∀ (u : DSt) (v : MSt), va_D (fun q : Nat => s.heap.size ≤ q) (dkW cA q0 q1 u ++ mkW cR cY m0 m1 m2 v)) (hnext : ∀ (u : DSt) (v : MSt), dmI (j + 1) u v → lw_G p l e s m below meth c D cA cR cY q0 q1 m0 m1 m2 b 235 i u v) : lw_G p l e s m below meth c D cA cR cY q0 q1 m0 m1 m2 b 103 i u v := by
  obtain ⟨hx, hb, hr, hml, hown, hts0, hX, hbl, hlocks, hgv⟩ := id C0
  have hts : ∀ w ∈ wsL_law, w.before #[Value.ref b] s = true := fun w h => hts0 w (wsL_law_in w h)
  have hown : s.vm.findClass RL = some m.cls := hown
  have hbA : ¬ (fun q : Nat => s.heap.size ≤ q) b := Nat.not_le.mpr hbl
  obtain ⟨rg, tt, tk, en, ki, os⟩ := u
  obtain ⟨ro, sz, op, kd, ta, la, li, bt, mn⟩ := v
  have hDd : ∀ u : DSt, va_D (fun q : Nat => s.heap.size ≤ q) (dkW cA q0 q1 u) := fun u => (hDa u (ro, sz, op, kd, ta, la, li, bt, mn)).sub [0, 1] (by decide) rfl
  have hDm : ∀ v : MSt, va_D (fun q : Nat => s.heap.size ≤ q) (mkW cR cY m0 m1 m2 v) := fun v => (hDa (rg, tt, tk, en, ki, os) v).sub [2, 3, 4] (by decide) rfl
  have hKd : va_K D vwCl [(cA, .byte)] s := hK.sub [0] rfl
  have hKm : va_K D vwCl [(cR, .int), (cY, .int)] s := hK.sub [1, 2] rfl
  intro H locs ls hPd hPm hS hl
  refine lv_aload_n hx hb dL_law_103 rfl (lv_at hl 1 rfl) ?_
  refine lv_aload_n hx hb dL_law_104 rfl (lv_at hl 0 rfl) ?_
  refine lv_iload_n hx hb dL_law_105 rfl (lv_at hl 3 rfl) ?_
  refine lv_iconst (v := 1) hx hb dL_law_106 (by decide) ?_
  refine lv_iadd hx hb dL_law_107 ?_
  refine lv_topi (fun t1 et1 => ?_)
  have hin1 : vp_in t1 L := by rw [et1, hi, nI_1]; exact vp_in_nI (by omega) (by omega)
  refine va_sld hx hb hX hbl hbA hS hin1 dL_law_108 ?_
  refine lv_topi (fun x ex => ?_)
  refine kk_mutI (cs := dkW cA q0 q1) (ci := 0) (q0 := 0) (rest := []) ⟨hx, hb, hml, hown, hts⟩ (cD_add l D cA q0 q1 rg tt tk en ki os x) (cwV 1 hts gL_law_X0_add rfl rfl rfl (by decide +kernel) ⟨Nat.le_of_ble_eq_true rfl, Nat.le_of_ble_eq_true rfl⟩) hKd hPd (hDd _) hS rfl rfl rfl hl.1 rfl (Nat.le_of_ble_eq_true rfl) dL_law_109 ⟨Nat.le_refl 5, Nat.le_refl 7115⟩ (fun r1 u1 H1 locs1 hu1 hPu1 hS hz1 hk1 => ?_)
  have hPm := kk_keep hPm hk1 (kk_dis (hDa (rg, tt, tk, en, ki, os) (ro, sz, op, kd, ta, la, li, bt, mn))).1
  have hPd := hPu1
  refine lv_aload_n hx hb dL_law_112 rfl (lv_at hl 2 rfl) ?_
  refine lv_aload_n hx hb dL_law_113 rfl (lv_at hl 0 rfl) ?_
  refine lv_iload_n hx hb dL_law_114 rfl (lv_at hl 3 rfl) ?_
  refine lv_iconst (v := 1) hx hb dL_law_115 (by decide) ?_
  refine lv_iadd hx hb dL_law_116 ?_
  refine lv_topi (fun t2 et2 => ?_)
  have hin2 : vp_in t2 L := by rw [et2, hi, nI_1]; exact vp_in_nI (by omega) (by omega)
  refine va_sld hx hb hX hbl hbA hS hin2 dL_law_117 ?_
  rw [show xs t2.toNatClampNeg = x from by rw [ex, et2, et1]]
  refine kk_mutI (cs := mkW cR cY m0 m1 m2) (ci := 1) (q0 := 0) (rest := [.int r1]) ⟨hx, hb, hml, hown, hts⟩ (cM_add l D cR cY m0 m1 m2 ro sz op kd ta la li bt mn x (dm_ok hI)) (cwV 1 hts gL_law_X1_add rfl rfl rfl (by decide +kernel) ⟨Nat.le_of_ble_eq_true rfl, Nat.le_of_ble_eq_true rfl⟩) hKm hPm (hDm _) hS rfl rfl rfl hl.1 rfl (Nat.le_of_ble_eq_true rfl) dL_law_118 ⟨Nat.le_refl 5, Nat.le_refl 7115⟩ (fun r2 v1 H2 locs2 hv1 hPv1 hS hz2 hk2 => ?_)
  have hPd := kk_keep hPd hk2 (kk_dis (hDa u1 (ro, sz, op, kd, ta, la, li, bt, mn))).2
  have hsim := dm_add hI (by omega) x
  refine lv_icmp_eq (tgt := 235) hx hb dL_law_121 (by decide) (fun c1 => ?_) (fun c1 => ?_)
  · exact hnext u1 v1 (by rw [hu1.2, hv1.2]; exact hsim.2) H2 locs2 ls hPd hPv1 hS hl
  · exact absurd (by rw [hu1.1, hv1.1]; exact hsim.1) c1
set_option maxHeartbeats 4000000 in
set_option maxRecDepth 100000 in
theorem law_text {p : Program} {l : Launch} {e : Env} {s : State} {m : MethodId} {below : List Frame} {meth : Method} {c : Code} {D : va_G} {cA cR cY : ClassId} {q0 q1 m0 m1 m2 b L : Nat} {xs : Nat → Int32} (hL : L ≤ 1024) (C0 : lw_At p s m meth c b L xs) (hK : va_K D vwCl [(cA, .byte), (cR, .int), (cY, .int)] s) {j : Nat} {i : Int32} (hi : i = nI (2 * j)) (hjL : 2 * j + 2 ≤ L) {u : DSt} {v : MSt} (hI : dmI j u v) (hDa : ∀ (u : DSt) (v : MSt), va_D (fun q : Nat => s.heap.size ≤ q) (dkW cA q0 q1 u ++ mkW cR cY m0 m1 m2 v)) (hnext : ∀ (u : DSt) (v : MSt), dmI (j + 1) u v → lw_G p l e s m below meth c D cA cR cY q0 q1 m0 m1 m2 b 235 i u v) : lw_G p l e s m below meth c D cA cR cY q0 q1 m0 m1 m2 b 126 i u v := by
  obtain ⟨hx, hb, hr, hml, hown, hts0, hX, hbl, hlocks, hgv⟩ := id C0
  have hts : ∀ w ∈ wsL_law, w.before #[Value.ref b] s = true := fun w h => hts0 w (wsL_law_in w h)
  have hown : s.vm.findClass RL = some m.cls := hown
  have hbA : ¬ (fun q : Nat => s.heap.size ≤ q) b := Nat.not_le.mpr hbl
  obtain ⟨rg, tt, tk, en, ki, os⟩ := u
  obtain ⟨ro, sz, op, kd, ta, la, li, bt, mn⟩ := v
  have hDd : ∀ u : DSt, va_D (fun q : Nat => s.heap.size ≤ q) (dkW cA q0 q1 u) := fun u => (hDa u (ro, sz, op, kd, ta, la, li, bt, mn)).sub [0, 1] (by decide) rfl
  have hDm : ∀ v : MSt, va_D (fun q : Nat => s.heap.size ≤ q) (mkW cR cY m0 m1 m2 v) := fun v => (hDa (rg, tt, tk, en, ki, os) v).sub [2, 3, 4] (by decide) rfl
  have hKd : va_K D vwCl [(cA, .byte)] s := hK.sub [0] rfl
  have hKm : va_K D vwCl [(cR, .int), (cY, .int)] s := hK.sub [1, 2] rfl
  intro H locs ls hPd hPm hS hl
  refine lv_aload_n hx hb dL_law_126 rfl (lv_at hl 1 rfl) ?_
  refine lv_aload_n hx hb dL_law_127 rfl (lv_at hl 0 rfl) ?_
  refine lv_iload_n hx hb dL_law_128 rfl (lv_at hl 3 rfl) ?_
  refine lv_iconst (v := 1) hx hb dL_law_129 (by decide) ?_
  refine lv_iadd hx hb dL_law_130 ?_
  refine lv_topi (fun t1 et1 => ?_)
  have hin1 : vp_in t1 L := by rw [et1, hi, nI_1]; exact vp_in_nI (by omega) (by omega)
  refine va_sld hx hb hX hbl hbA hS hin1 dL_law_131 ?_
  refine lv_topi (fun x ex => ?_)
  refine kk_mutI (cs := dkW cA q0 q1) (ci := 0) (q0 := 0) (rest := []) ⟨hx, hb, hml, hown, hts⟩ (cD_text l D cA q0 q1 rg tt tk en ki os x) (cwV 1 hts gL_law_X0_text rfl rfl rfl (by decide +kernel) ⟨Nat.le_of_ble_eq_true rfl, Nat.le_of_ble_eq_true rfl⟩) hKd hPd (hDd _) hS rfl rfl rfl hl.1 rfl (Nat.le_of_ble_eq_true rfl) dL_law_132 ⟨Nat.le_refl 5, Nat.le_refl 7115⟩ (fun r1 u1 H1 locs1 hu1 hPu1 hS hz1 hk1 => ?_)
  have hPm := kk_keep hPm hk1 (kk_dis (hDa (rg, tt, tk, en, ki, os) (ro, sz, op, kd, ta, la, li, bt, mn))).1
  have hPd := hPu1
  refine lv_aload_n hx hb dL_law_135 rfl (lv_at hl 2 rfl) ?_
  refine lv_aload_n hx hb dL_law_136 rfl (lv_at hl 0 rfl) ?_
  refine lv_iload_n hx hb dL_law_137 rfl (lv_at hl 3 rfl) ?_
  refine lv_iconst (v := 1) hx hb dL_law_138 (by decide) ?_
  refine lv_iadd hx hb dL_law_139 ?_
  refine lv_topi (fun t2 et2 => ?_)
  have hin2 : vp_in t2 L := by rw [et2, hi, nI_1]; exact vp_in_nI (by omega) (by omega)
  refine va_sld hx hb hX hbl hbA hS hin2 dL_law_140 ?_
  rw [show xs t2.toNatClampNeg = x from by rw [ex, et2, et1]]
  refine kk_mutI (cs := mkW cR cY m0 m1 m2) (ci := 1) (q0 := 0) (rest := [.int r1]) ⟨hx, hb, hml, hown, hts⟩ (cM_text l D cR cY m0 m1 m2 ro sz op kd ta la li bt mn x (dm_ok hI)) (cwV 1 hts gL_law_X1_text rfl rfl rfl (by decide +kernel) ⟨Nat.le_of_ble_eq_true rfl, Nat.le_of_ble_eq_true rfl⟩) hKm hPm (hDm _) hS rfl rfl rfl hl.1 rfl (Nat.le_of_ble_eq_true rfl) dL_law_141 ⟨Nat.le_refl 5, Nat.le_refl 7115⟩ (fun r2 v1 H2 locs2 hv1 hPv1 hS hz2 hk2 => ?_)
  have hPd := kk_keep hPd hk2 (kk_dis (hDa u1 (ro, sz, op, kd, ta, la, li, bt, mn))).2
  have hsim := dm_text hI (by omega) x
  refine lv_icmp_eq (tgt := 235) hx hb dL_law_144 (by decide) (fun c1 => ?_) (fun c1 => ?_)
  · exact hnext u1 v1 (by rw [hu1.2, hv1.2]; exact hsim.2) H2 locs2 ls hPd hPv1 hS hl
  · exact absurd (by rw [hu1.1, hv1.1]; exact hsim.1) c1
set_option maxHeartbeats 4000000 in
set_option maxRecDepth 100000 in
theorem law_end {p : Program} {l : Launch} {e : Env} {s : State} {m : MethodId} {below : List Frame} {meth : Method} {c : Code} {D : va_G} {cA cR cY : ClassId} {q0 q1 m0 m1 m2 b L : Nat} {xs : Nat → Int32} (hL : L ≤ 1024) (C0 : lw_At p s m meth c b L xs) (hK : va_K D vwCl [(cA, .byte), (cR, .int), (cY, .int)] s) {j : Nat} {i : Int32} (hi : i = nI (2 * j)) (hjL : 2 * j + 2 ≤ L) {u : DSt} {v : MSt} (hI : dmI j u v) (hDa : ∀ (u : DSt) (v : MSt), va_D (fun q : Nat => s.heap.size ≤ q) (dkW cA q0 q1 u ++ mkW cR cY m0 m1 m2 v)) (hnext : ∀ (u : DSt) (v : MSt), dmI (j + 1) u v → lw_G p l e s m below meth c D cA cR cY q0 q1 m0 m1 m2 b 235 i u v) : lw_G p l e s m below meth c D cA cR cY q0 q1 m0 m1 m2 b 149 i u v := by
  obtain ⟨hx, hb, hr, hml, hown, hts0, hX, hbl, hlocks, hgv⟩ := id C0
  have hts : ∀ w ∈ wsL_law, w.before #[Value.ref b] s = true := fun w h => hts0 w (wsL_law_in w h)
  have hown : s.vm.findClass RL = some m.cls := hown
  have hbA : ¬ (fun q : Nat => s.heap.size ≤ q) b := Nat.not_le.mpr hbl
  obtain ⟨rg, tt, tk, en, ki, os⟩ := u
  obtain ⟨ro, sz, op, kd, ta, la, li, bt, mn⟩ := v
  have hDd : ∀ u : DSt, va_D (fun q : Nat => s.heap.size ≤ q) (dkW cA q0 q1 u) := fun u => (hDa u (ro, sz, op, kd, ta, la, li, bt, mn)).sub [0, 1] (by decide) rfl
  have hDm : ∀ v : MSt, va_D (fun q : Nat => s.heap.size ≤ q) (mkW cR cY m0 m1 m2 v) := fun v => (hDa (rg, tt, tk, en, ki, os) v).sub [2, 3, 4] (by decide) rfl
  have hKd : va_K D vwCl [(cA, .byte)] s := hK.sub [0] rfl
  have hKm : va_K D vwCl [(cR, .int), (cY, .int)] s := hK.sub [1, 2] rfl
  intro H locs ls hPd hPm hS hl
  refine lv_aload_n hx hb dL_law_149 rfl (lv_at hl 1 rfl) ?_
  refine kk_mutI (cs := dkW cA q0 q1) (ci := 0) (q0 := 0) (rest := []) ⟨hx, hb, hml, hown, hts⟩ (cD_end l D cA q0 q1 rg tt tk en ki os) (cwV 0 hts gL_law_X0_end rfl rfl rfl (by decide +kernel) ⟨Nat.le_of_ble_eq_true rfl, Nat.le_of_ble_eq_true rfl⟩) hKd hPd (hDd _) hS rfl rfl rfl hl.1 rfl (Nat.le_of_ble_eq_true rfl) dL_law_150 ⟨Nat.le_refl 5, Nat.le_refl 7115⟩ (fun r1 u1 H1 locs1 hu1 hPu1 hS hz1 hk1 => ?_)
  have hPm := kk_keep hPm hk1 (kk_dis (hDa (rg, tt, tk, en, ki, os) (ro, sz, op, kd, ta, la, li, bt, mn))).1
  have hPd := hPu1
  refine lv_aload_n hx hb dL_law_153 rfl (lv_at hl 2 rfl) ?_
  refine kk_mutI (cs := mkW cR cY m0 m1 m2) (ci := 1) (q0 := 0) (rest := [.int r1]) ⟨hx, hb, hml, hown, hts⟩ (cM_end l D cR cY m0 m1 m2 ro sz op kd ta la li bt mn (dm_okE hI)) (cwV 0 hts gL_law_X1_end rfl rfl rfl (by decide +kernel) ⟨Nat.le_of_ble_eq_true rfl, Nat.le_of_ble_eq_true rfl⟩) hKm hPm (hDm _) hS rfl rfl rfl hl.1 rfl (Nat.le_of_ble_eq_true rfl) dL_law_154 ⟨Nat.le_refl 5, Nat.le_refl 7115⟩ (fun r2 v1 H2 locs2 hv1 hPv1 hS hz2 hk2 => ?_)
  have hPd := kk_keep hPd hk2 (kk_dis (hDa u1 (ro, sz, op, kd, ta, la, li, bt, mn))).2
  have hsim := dm_end hI (by omega)
  refine lv_icmp_eq (tgt := 235) hx hb dL_law_157 (by decide) (fun c1 => ?_) (fun c1 => ?_)
  · exact hnext u1 v1 (by rw [hu1.2, hv1.2]; exact hsim.2) H2 locs2 ls hPd hPv1 hS hl
  · exact absurd (by rw [hu1.1, hv1.1]; exact hsim.1) c1
set_option maxHeartbeats 4000000 in
set_option maxRecDepth 100000 in
theorem law_back {p : Program} {l : Launch} {e : Env} {s : State} {m : MethodId} {below : List Frame} {meth : Method} {c : Code} {D : va_G} {cA cR cY : ClassId} {q0 q1 m0 m1 m2 b L : Nat} {xs : Nat → Int32} (hL : L ≤ 1024) (C0 : lw_At p s m meth c b L xs) (hK : va_K D vwCl [(cA, .byte), (cR, .int), (cY, .int)] s) {j : Nat} {i : Int32} (hi : i = nI (2 * j)) (hjL : 2 * j + 2 ≤ L) {u : DSt} {v : MSt} (hI : dmI j u v) (hDa : ∀ (u : DSt) (v : MSt), va_D (fun q : Nat => s.heap.size ≤ q) (dkW cA q0 q1 u ++ mkW cR cY m0 m1 m2 v)) (hnext : ∀ (u : DSt) (v : MSt), dmI (j + 1) u v → lw_G p l e s m below meth c D cA cR cY q0 q1 m0 m1 m2 b 235 i u v) : lw_G p l e s m below meth c D cA cR cY q0 q1 m0 m1 m2 b 162 i u v := by
  obtain ⟨hx, hb, hr, hml, hown, hts0, hX, hbl, hlocks, hgv⟩ := id C0
  have hts : ∀ w ∈ wsL_law, w.before #[Value.ref b] s = true := fun w h => hts0 w (wsL_law_in w h)
  have hown : s.vm.findClass RL = some m.cls := hown
  have hbA : ¬ (fun q : Nat => s.heap.size ≤ q) b := Nat.not_le.mpr hbl
  obtain ⟨rg, tt, tk, en, ki, os⟩ := u
  obtain ⟨ro, sz, op, kd, ta, la, li, bt, mn⟩ := v
  have hDd : ∀ u : DSt, va_D (fun q : Nat => s.heap.size ≤ q) (dkW cA q0 q1 u) := fun u => (hDa u (ro, sz, op, kd, ta, la, li, bt, mn)).sub [0, 1] (by decide) rfl
  have hDm : ∀ v : MSt, va_D (fun q : Nat => s.heap.size ≤ q) (mkW cR cY m0 m1 m2 v) := fun v => (hDa (rg, tt, tk, en, ki, os) v).sub [2, 3, 4] (by decide) rfl
  have hKd : va_K D vwCl [(cA, .byte)] s := hK.sub [0] rfl
  have hKm : va_K D vwCl [(cR, .int), (cY, .int)] s := hK.sub [1, 2] rfl
  intro H locs ls hPd hPm hS hl
  refine lv_aload_n hx hb dL_law_162 rfl (lv_at hl 1 rfl) ?_
  refine lv_aload_n hx hb dL_law_163 rfl (lv_at hl 0 rfl) ?_
  refine lv_iload_n hx hb dL_law_164 rfl (lv_at hl 3 rfl) ?_
  refine lv_iconst (v := 1) hx hb dL_law_165 (by decide) ?_
  refine lv_iadd hx hb dL_law_166 ?_
  refine lv_topi (fun t1 et1 => ?_)
  have hin1 : vp_in t1 L := by rw [et1, hi, nI_1]; exact vp_in_nI (by omega) (by omega)
  refine va_sld hx hb hX hbl hbA hS hin1 dL_law_167 ?_
  refine lv_topi (fun x ex => ?_)
  refine kk_mutI (cs := dkW cA q0 q1) (ci := 0) (q0 := 0) (rest := []) ⟨hx, hb, hml, hown, hts⟩ (cD_back l D cA q0 q1 rg tt tk en ki os x (dm_rng hI (by omega))) (cwV 1 hts gL_law_X0_back rfl rfl rfl (by decide +kernel) ⟨Nat.le_of_ble_eq_true rfl, Nat.le_of_ble_eq_true rfl⟩) hKd hPd (hDd _) hS rfl rfl rfl hl.1 rfl (Nat.le_of_ble_eq_true rfl) dL_law_168 ⟨Nat.le_refl 5, Nat.le_refl 7115⟩ (fun r1 u1 H1 locs1 hu1 hPu1 hS hz1 hk1 => ?_)
  have hPm := kk_keep hPm hk1 (kk_dis (hDa (rg, tt, tk, en, ki, os) (ro, sz, op, kd, ta, la, li, bt, mn))).1
  have hPd := hPu1
  refine lv_aload_n hx hb dL_law_171 rfl (lv_at hl 2 rfl) ?_
  refine lv_aload_n hx hb dL_law_172 rfl (lv_at hl 0 rfl) ?_
  refine lv_iload_n hx hb dL_law_173 rfl (lv_at hl 3 rfl) ?_
  refine lv_iconst (v := 1) hx hb dL_law_174 (by decide) ?_
  refine lv_iadd hx hb dL_law_175 ?_
  refine lv_topi (fun t2 et2 => ?_)
  have hin2 : vp_in t2 L := by rw [et2, hi, nI_1]; exact vp_in_nI (by omega) (by omega)
  refine va_sld hx hb hX hbl hbA hS hin2 dL_law_176 ?_
  rw [show xs t2.toNatClampNeg = x from by rw [ex, et2, et1]]
  refine kk_mutI (cs := mkW cR cY m0 m1 m2) (ci := 1) (q0 := 0) (rest := [.int r1]) ⟨hx, hb, hml, hown, hts⟩ (cM_back l D cR cY m0 m1 m2 ro sz op kd ta la li bt mn x (dm_ok hI)) (cwV 1 hts gL_law_X1_back rfl rfl rfl (by decide +kernel) ⟨Nat.le_of_ble_eq_true rfl, Nat.le_of_ble_eq_true rfl⟩) hKm hPm (hDm _) hS rfl rfl rfl hl.1 rfl (Nat.le_of_ble_eq_true rfl) dL_law_177 ⟨Nat.le_refl 5, Nat.le_refl 7115⟩ (fun r2 v1 H2 locs2 hv1 hPv1 hS hz2 hk2 => ?_)
  have hPd := kk_keep hPd hk2 (kk_dis (hDa u1 (ro, sz, op, kd, ta, la, li, bt, mn))).2
  have hsim := dm_back hI (by omega) x
  refine lv_icmp_eq (tgt := 235) hx hb dL_law_180 (by decide) (fun c1 => ?_) (fun c1 => ?_)
  · exact hnext u1 v1 (by rw [hu1.2, hv1.2]; exact hsim.2) H2 locs2 ls hPd hPv1 hS hl
  · exact absurd (by rw [hu1.1, hv1.1]; exact hsim.1) c1
set_option maxHeartbeats 4000000 in
set_option maxRecDepth 100000 in
theorem law_mark {p : Program} {l : Launch} {e : Env} {s : State} {m : MethodId} {below : List Frame} {meth : Method} {c : Code} {D : va_G} {cA cR cY : ClassId} {q0 q1 m0 m1 m2 b L : Nat} {xs : Nat → Int32} (hL : L ≤ 1024) (C0 : lw_At p s m meth c b L xs) (hK : va_K D vwCl [(cA, .byte), (cR, .int), (cY, .int)] s) {j : Nat} {i : Int32} (hi : i = nI (2 * j)) (hjL : 2 * j + 2 ≤ L) {u : DSt} {v : MSt} (hI : dmI j u v) (hDa : ∀ (u : DSt) (v : MSt), va_D (fun q : Nat => s.heap.size ≤ q) (dkW cA q0 q1 u ++ mkW cR cY m0 m1 m2 v)) (hnext : ∀ (u : DSt) (v : MSt), dmI (j + 1) u v → lw_G p l e s m below meth c D cA cR cY q0 q1 m0 m1 m2 b 235 i u v) : lw_G p l e s m below meth c D cA cR cY q0 q1 m0 m1 m2 b 185 i u v := by
  obtain ⟨hx, hb, hr, hml, hown, hts0, hX, hbl, hlocks, hgv⟩ := id C0
  have hts : ∀ w ∈ wsL_law, w.before #[Value.ref b] s = true := fun w h => hts0 w (wsL_law_in w h)
  have hown : s.vm.findClass RL = some m.cls := hown
  have hbA : ¬ (fun q : Nat => s.heap.size ≤ q) b := Nat.not_le.mpr hbl
  obtain ⟨rg, tt, tk, en, ki, os⟩ := u
  obtain ⟨ro, sz, op, kd, ta, la, li, bt, mn⟩ := v
  have hDd : ∀ u : DSt, va_D (fun q : Nat => s.heap.size ≤ q) (dkW cA q0 q1 u) := fun u => (hDa u (ro, sz, op, kd, ta, la, li, bt, mn)).sub [0, 1] (by decide) rfl
  have hDm : ∀ v : MSt, va_D (fun q : Nat => s.heap.size ≤ q) (mkW cR cY m0 m1 m2 v) := fun v => (hDa (rg, tt, tk, en, ki, os) v).sub [2, 3, 4] (by decide) rfl
  have hKd : va_K D vwCl [(cA, .byte)] s := hK.sub [0] rfl
  have hKm : va_K D vwCl [(cR, .int), (cY, .int)] s := hK.sub [1, 2] rfl
  intro H locs ls hPd hPm hS hl
  refine lv_aload_n hx hb dL_law_185 rfl (lv_at hl 1 rfl) ?_
  refine kk_readV (ci := 0) (q0 := 0) (rest := []) ⟨hx, hb, hml, hown, hts⟩ (cD_mark l D cA q0 q1 rg tt tk en ki os) (cwV 0 hts gL_law_X0_mark rfl rfl rfl (by decide +kernel) ⟨Nat.le_of_ble_eq_true rfl, Nat.le_of_ble_eq_true rfl⟩) hKd hPd (hDd _) rfl rfl rfl hl.1 rfl (Nat.le_of_ble_eq_true rfl) dL_law_186 ⟨Nat.le_refl 5, Nat.le_refl 7115⟩ ?_
  refine lv_aload_n hx hb dL_law_189 rfl (lv_at hl 2 rfl) ?_
  refine kk_readV (ci := 1) (q0 := 0) (rest := [.int (dk_mark (rg, tt, tk, en, ki, os))]) ⟨hx, hb, hml, hown, hts⟩ (cM_mark l D cR cY m0 m1 m2 ro sz op kd ta la li bt mn) (cwV 0 hts gL_law_X1_mark rfl rfl rfl (by decide +kernel) ⟨Nat.le_of_ble_eq_true rfl, Nat.le_of_ble_eq_true rfl⟩) hKm hPm (hDm _) rfl rfl rfl hl.1 rfl (Nat.le_of_ble_eq_true rfl) dL_law_190 ⟨Nat.le_refl 5, Nat.le_refl 7115⟩ ?_
  refine lv_icmp_eq (tgt := 235) hx hb dL_law_193 (by decide) (fun c1 => ?_) (fun c1 => ?_)
  · exact hnext (rg, tt, tk, en, ki, os) (ro, sz, op, kd, ta, la, li, bt, mn) (dm_more hI) H locs ls hPd hPm hS hl
  · exact absurd (dm_mark hI) c1
set_option maxHeartbeats 4000000 in
set_option maxRecDepth 100000 in
theorem law_take {p : Program} {l : Launch} {e : Env} {s : State} {m : MethodId} {below : List Frame} {meth : Method} {c : Code} {D : va_G} {cA cR cY : ClassId} {q0 q1 m0 m1 m2 b L : Nat} {xs : Nat → Int32} (hL : L ≤ 1024) (C0 : lw_At p s m meth c b L xs) (hK : va_K D vwCl [(cA, .byte), (cR, .int), (cY, .int)] s) {j : Nat} {i : Int32} (hi : i = nI (2 * j)) (hjL : 2 * j + 2 ≤ L) {u : DSt} {v : MSt} (hI : dmI j u v) (hDa : ∀ (u : DSt) (v : MSt), va_D (fun q : Nat => s.heap.size ≤ q) (dkW cA q0 q1 u ++ mkW cR cY m0 m1 m2 v)) (hnext : ∀ (u : DSt) (v : MSt), dmI (j + 1) u v → lw_G p l e s m below meth c D cA cR cY q0 q1 m0 m1 m2 b 235 i u v) : lw_G p l e s m below meth c D cA cR cY q0 q1 m0 m1 m2 b 198 i u v := by
  obtain ⟨hx, hb, hr, hml, hown, hts0, hX, hbl, hlocks, hgv⟩ := id C0
  have hts : ∀ w ∈ wsL_law, w.before #[Value.ref b] s = true := fun w h => hts0 w (wsL_law_in w h)
  have hown : s.vm.findClass RL = some m.cls := hown
  have hbA : ¬ (fun q : Nat => s.heap.size ≤ q) b := Nat.not_le.mpr hbl
  obtain ⟨rg, tt, tk, en, ki, os⟩ := u
  obtain ⟨ro, sz, op, kd, ta, la, li, bt, mn⟩ := v
  have hDd : ∀ u : DSt, va_D (fun q : Nat => s.heap.size ≤ q) (dkW cA q0 q1 u) := fun u => (hDa u (ro, sz, op, kd, ta, la, li, bt, mn)).sub [0, 1] (by decide) rfl
  have hDm : ∀ v : MSt, va_D (fun q : Nat => s.heap.size ≤ q) (mkW cR cY m0 m1 m2 v) := fun v => (hDa (rg, tt, tk, en, ki, os) v).sub [2, 3, 4] (by decide) rfl
  have hKd : va_K D vwCl [(cA, .byte)] s := hK.sub [0] rfl
  have hKm : va_K D vwCl [(cR, .int), (cY, .int)] s := hK.sub [1, 2] rfl
  intro H locs ls hPd hPm hS hl
  refine lv_aload_n hx hb dL_law_198 rfl (lv_at hl 1 rfl) ?_
  refine kk_mutL (cs := dkW cA q0 q1) (ci := 0) (q0 := 0) (rest := []) ⟨hx, hb, hml, hown, hts⟩ (cD_take l D cA q0 q1 rg tt tk en ki os) (cwV 0 hts gL_law_X0_take rfl rfl rfl (by decide +kernel) ⟨Nat.le_of_ble_eq_true rfl, Nat.le_of_ble_eq_true rfl⟩) hKd hPd (hDd _) hS rfl rfl rfl hl.1 rfl (Nat.le_of_ble_eq_true rfl) dL_law_199 ⟨Nat.le_refl 5, Nat.le_refl 7115⟩ (fun r1 u1 H1 locs1 hu1 hPu1 hS hz1 hk1 => ?_)
  have hPm := kk_keep hPm hk1 (kk_dis (hDa (rg, tt, tk, en, ki, os) (ro, sz, op, kd, ta, la, li, bt, mn))).1
  have hPd := hPu1
  refine lv_aload_n hx hb dL_law_202 rfl (lv_at hl 2 rfl) ?_
  refine kk_mutL (cs := mkW cR cY m0 m1 m2) (ci := 1) (q0 := 0) (rest := [.long r1]) ⟨hx, hb, hml, hown, hts⟩ (cM_take l D cR cY m0 m1 m2 ro sz op kd ta la li bt mn (dm_ok2 hI)) (cwV 0 hts gL_law_X1_take rfl rfl rfl (by decide +kernel) ⟨Nat.le_of_ble_eq_true rfl, Nat.le_of_ble_eq_true rfl⟩) hKm hPm (hDm _) hS rfl rfl rfl hl.1 rfl (Nat.le_of_ble_eq_true rfl) dL_law_203 ⟨Nat.le_refl 5, Nat.le_refl 7115⟩ (fun r2 v1 H2 locs2 hv1 hPv1 hS hz2 hk2 => ?_)
  have hPd := kk_keep hPd hk2 (kk_dis (hDa u1 (ro, sz, op, kd, ta, la, li, bt, mn))).2
  refine W.lcmp hx hb dL_law_206 ?_
  have hsim := dm_take hI (by omega)
  refine lv_if_eq (tgt := 235) hx hb dL_law_207 (by decide) (fun c1 => ?_) (fun c1 => ?_)
  · exact hnext u1 v1 (by rw [hu1.2, hv1.2]; exact hsim.2) H2 locs2 ls hPd hPv1 hS hl
  · exact absurd (by rw [hu1.1, hv1.1, hsim.1]; exact lg_cmp_self _) c1
set_option maxHeartbeats 4000000 in
set_option maxRecDepth 100000 in
theorem law_count {p : Program} {l : Launch} {e : Env} {s : State} {m : MethodId} {below : List Frame} {meth : Method} {c : Code} {D : va_G} {cA cR cY : ClassId} {q0 q1 m0 m1 m2 b L : Nat} {xs : Nat → Int32} (hL : L ≤ 1024) (C0 : lw_At p s m meth c b L xs) (hK : va_K D vwCl [(cA, .byte), (cR, .int), (cY, .int)] s) {j : Nat} {i : Int32} (hi : i = nI (2 * j)) (hjL : 2 * j + 2 ≤ L) {u : DSt} {v : MSt} (hI : dmI j u v) (hDa : ∀ (u : DSt) (v : MSt), va_D (fun q : Nat => s.heap.size ≤ q) (dkW cA q0 q1 u ++ mkW cR cY m0 m1 m2 v)) (hnext : ∀ (u : DSt) (v : MSt), dmI (j + 1) u v → lw_G p l e s m below meth c D cA cR cY q0 q1 m0 m1 m2 b 235 i u v) : lw_G p l e s m below meth c D cA cR cY q0 q1 m0 m1 m2 b 212 i u v := by
  obtain ⟨hx, hb, hr, hml, hown, hts0, hX, hbl, hlocks, hgv⟩ := id C0
  have hts : ∀ w ∈ wsL_law, w.before #[Value.ref b] s = true := fun w h => hts0 w (wsL_law_in w h)
  have hown : s.vm.findClass RL = some m.cls := hown
  have hbA : ¬ (fun q : Nat => s.heap.size ≤ q) b := Nat.not_le.mpr hbl
  obtain ⟨rg, tt, tk, en, ki, os⟩ := u
  obtain ⟨ro, sz, op, kd, ta, la, li, bt, mn⟩ := v
  have hDd : ∀ u : DSt, va_D (fun q : Nat => s.heap.size ≤ q) (dkW cA q0 q1 u) := fun u => (hDa u (ro, sz, op, kd, ta, la, li, bt, mn)).sub [0, 1] (by decide) rfl
  have hDm : ∀ v : MSt, va_D (fun q : Nat => s.heap.size ≤ q) (mkW cR cY m0 m1 m2 v) := fun v => (hDa (rg, tt, tk, en, ki, os) v).sub [2, 3, 4] (by decide) rfl
  have hKd : va_K D vwCl [(cA, .byte)] s := hK.sub [0] rfl
  have hKm : va_K D vwCl [(cR, .int), (cY, .int)] s := hK.sub [1, 2] rfl
  intro H locs ls hPd hPm hS hl
  refine lv_aload_n hx hb dL_law_212 rfl (lv_at hl 1 rfl) ?_
  refine lv_aload_n hx hb dL_law_213 rfl (lv_at hl 0 rfl) ?_
  refine lv_iload_n hx hb dL_law_214 rfl (lv_at hl 3 rfl) ?_
  refine lv_iconst (v := 1) hx hb dL_law_215 (by decide) ?_
  refine lv_iadd hx hb dL_law_216 ?_
  refine lv_topi (fun t1 et1 => ?_)
  have hin1 : vp_in t1 L := by rw [et1, hi, nI_1]; exact vp_in_nI (by omega) (by omega)
  refine va_sld hx hb hX hbl hbA hS hin1 dL_law_217 ?_
  refine lv_topi (fun x ex => ?_)
  refine kk_readV (ci := 0) (q0 := 0) (rest := []) ⟨hx, hb, hml, hown, hts⟩ (cD_count l D cA q0 q1 rg tt tk en ki os x) (cwV 1 hts gL_law_X0_count rfl rfl rfl (by decide +kernel) ⟨Nat.le_of_ble_eq_true rfl, Nat.le_of_ble_eq_true rfl⟩) hKd hPd (hDd _) rfl rfl rfl hl.1 rfl (Nat.le_of_ble_eq_true rfl) dL_law_218 ⟨Nat.le_refl 5, Nat.le_refl 7115⟩ ?_
  refine lv_aload_n hx hb dL_law_221 rfl (lv_at hl 2 rfl) ?_
  refine lv_aload_n hx hb dL_law_222 rfl (lv_at hl 0 rfl) ?_
  refine lv_iload_n hx hb dL_law_223 rfl (lv_at hl 3 rfl) ?_
  refine lv_iconst (v := 1) hx hb dL_law_224 (by decide) ?_
  refine lv_iadd hx hb dL_law_225 ?_
  refine lv_topi (fun t2 et2 => ?_)
  have hin2 : vp_in t2 L := by rw [et2, hi, nI_1]; exact vp_in_nI (by omega) (by omega)
  refine va_sld hx hb hX hbl hbA hS hin2 dL_law_226 ?_
  rw [show xs t2.toNatClampNeg = x from by rw [ex, et2, et1]]
  refine kk_readV (ci := 1) (q0 := 0) (rest := [.int (dk_count (rg, tt, tk, en, ki, os) x)]) ⟨hx, hb, hml, hown, hts⟩ (cM_count l D cR cY m0 m1 m2 ro sz op kd ta la li bt mn x (dm_ok hI)) (cwV 1 hts gL_law_X1_count rfl rfl rfl (by decide +kernel) ⟨Nat.le_of_ble_eq_true rfl, Nat.le_of_ble_eq_true rfl⟩) hKm hPm (hDm _) rfl rfl rfl hl.1 rfl (Nat.le_of_ble_eq_true rfl) dL_law_227 ⟨Nat.le_refl 5, Nat.le_refl 7115⟩ ?_
  refine lv_icmp_eq (tgt := 235) hx hb dL_law_230 (by decide) (fun c1 => ?_) (fun c1 => ?_)
  · exact hnext (rg, tt, tk, en, ki, os) (ro, sz, op, kd, ta, la, li, bt, mn) (dm_more hI) H locs ls hPd hPm hS hl
  · exact absurd (dm_count hI (by omega) x) c1
end
section
set_option maxHeartbeats 4000000 in
set_option maxRecDepth 100000 in
theorem law_loop {p : Program} {l : Launch} {e : Env} {s : State} {m : MethodId} {below : List Frame} {meth : Method} {c : Code} {D : va_G} {cA cR cY : ClassId} {q0 q1 m0 m1 m2 b L : Nat} {xs : Nat → Int32} (hL : L ≤ 1024) (C0 : lw_At p s m meth c b L xs) (hK : va_K D vwCl [(cA, .byte), (cR, .int), (cY, .int)] s) (hDa : ∀ (u : DSt) (v : MSt), va_D (fun q : Nat => s.heap.size ≤ q) (dkW cA q0 q1 u ++ mkW cR cY m0 m1 m2 v)) : ∀ (n j : Nat) (i : Int32) (u : DSt) (v : MSt), i = nI (2 * j) → L ≤ 2 * (j + n) + 1 → j ≤ 512 → dmI j u v → lw_G p l e s m below meth c D cA cR cY q0 q1 m0 m1 m2 b 18 i u v := by
  obtain ⟨hx, hb, hr, hml, hown, hts0, hX, hbl, hlocks, hgv⟩ := id C0
  have hbA : ¬ (fun q : Nat => s.heap.size ≤ q) b := Nat.not_le.mpr hbl
  intro n
  induction n with
  | zero =>
    intro j i u v hi hn hj hI H locs ls hPd hPm hS hl
    refine lv_iload_n hx hb dL_law_18 rfl (lv_at hl 3 rfl) ?_
    refine lv_aload_n hx hb dL_law_19 rfl (lv_at hl 0 rfl) ?_
    refine va_slen hx hb hX hbl hbA hS dL_law_20 ?_
    refine lv_iconst (v := 2) hx hb dL_law_21 (by decide) ?_
    refine lv_isub hx hb dL_law_22 ?_
    have hcond : (nI L - 2 < i) ↔ L < 2 * j + 2 := by rw [hi]; exact lw_end hL (by omega)
    refine lv_icmp_gt (tgt := 241) hx hb dL_law_23 (by decide) (fun c1 => ?_) (fun c1 => ?_)
    · refine lv_iconst (v := 1) hx hb dL_law_241 (by decide) ?_
      refine va_forget (fun q hq => hS.2.2 q hq) ?_
      exact lw_ret hx hb hr hlocks dL_law_242
    · exact absurd (hcond.mpr (by omega)) c1
  | succ n ih =>
    intro j i u v hi hn hj hI H locs ls hPd hPm hS hl
    refine lv_iload_n hx hb dL_law_18 rfl (lv_at hl 3 rfl) ?_
    refine lv_aload_n hx hb dL_law_19 rfl (lv_at hl 0 rfl) ?_
    refine va_slen hx hb hX hbl hbA hS dL_law_20 ?_
    refine lv_iconst (v := 2) hx hb dL_law_21 (by decide) ?_
    refine lv_isub hx hb dL_law_22 ?_
    have hcond : (nI L - 2 < i) ↔ L < 2 * j + 2 := by rw [hi]; exact lw_end hL (by omega)
    refine lv_icmp_gt (tgt := 241) hx hb dL_law_23 (by decide) (fun c1 => ?_) (fun c1 => ?_)
    · refine lv_iconst (v := 1) hx hb dL_law_241 (by decide) ?_
      refine va_forget (fun q hq => hS.2.2 q hq) ?_
      exact lw_ret hx hb hr hlocks dL_law_242
    · have hjL : 2 * j + 2 ≤ L := Nat.le_of_not_lt (fun q => c1 (hcond.mpr q))
      have hin0 : vp_in i L := by rw [hi]; exact vp_in_nI (by omega) (by omega)
      refine lv_aload_n hx hb dL_law_26 rfl (lv_at hl 0 rfl) ?_
      refine lv_iload_n hx hb dL_law_27 rfl (lv_at hl 3 rfl) ?_
      refine va_sld hx hb hX hbl hbA hS hin0 dL_law_28 ?_
      refine lv_bipush (v := 7) hx hb dL_law_29 (by decide) ?_
      refine lv_iand hx hb dL_law_31 ?_
      have hnext : ∀ (u : DSt) (v : MSt), dmI (j + 1) u v → lw_G p l e s m below meth c D cA cR cY q0 q1 m0 m1 m2 b 235 i u v := by
        intro u v hI H locs ls hPd hPm hS hl
        obtain ⟨i2, ei2⟩ : ∃ y : Int32, y = i + 2 := ⟨_, rfl⟩
        refine lv_iinc (v := i2) (lv' := [(3, .int i2), (0, .ref b), (1, .ref q0), (2, .ref m0)]) hx hb dL_law_235 hl (k := 3) rfl (by rw [ei2]; rfl) (by decide) rfl (fun ls hl => ?_)
        refine lv_goto (tgt := 18) hx hb dL_law_238 (by decide) ?_
        exact ih (j + 1) i2 u v (by rw [ei2, hi]; exact nI_add (2 * j) 2) (by omega) (by omega) hI H locs ls hPd hPm hS (lv_sub hl [1, 2, 3, 0] rfl)
      rcases lw_sw8 (xs i.toNatClampNeg) with h | h | h | h | h | h | h | h
      · refine lv_tableIn (tgt := 80) hx hb dL_law_32 (by rw [h]; decide) (by rw [h]; decide) (off := 48) (by rw [h]; rfl) (by decide) ?_
        exact law_begin hL C0 hK hi hjL hI hDa hnext H locs ls hPd hPm hS hl
      · refine lv_tableIn (tgt := 103) hx hb dL_law_32 (by rw [h]; decide) (by rw [h]; decide) (off := 71) (by rw [h]; rfl) (by decide) ?_
        exact law_add hL C0 hK hi hjL hI hDa hnext H locs ls hPd hPm hS hl
      · refine lv_tableIn (tgt := 126) hx hb dL_law_32 (by rw [h]; decide) (by rw [h]; decide) (off := 94) (by rw [h]; rfl) (by decide) ?_
        exact law_text hL C0 hK hi hjL hI hDa hnext H locs ls hPd hPm hS hl
      · refine lv_tableIn (tgt := 149) hx hb dL_law_32 (by rw [h]; decide) (by rw [h]; decide) (off := 117) (by rw [h]; rfl) (by decide) ?_
        exact law_end hL C0 hK hi hjL hI hDa hnext H locs ls hPd hPm hS hl
      · refine lv_tableIn (tgt := 162) hx hb dL_law_32 (by rw [h]; decide) (by rw [h]; decide) (off := 130) (by rw [h]; rfl) (by decide) ?_
        exact law_back hL C0 hK hi hjL hI hDa hnext H locs ls hPd hPm hS hl
      · refine lv_tableIn (tgt := 185) hx hb dL_law_32 (by rw [h]; decide) (by rw [h]; decide) (off := 153) (by rw [h]; rfl) (by decide) ?_
        exact law_mark hL C0 hK hi hjL hI hDa hnext H locs ls hPd hPm hS hl
      · refine lv_tableIn (tgt := 198) hx hb dL_law_32 (by rw [h]; decide) (by rw [h]; decide) (off := 166) (by rw [h]; rfl) (by decide) ?_
        exact law_take hL C0 hK hi hjL hI hDa hnext H locs ls hPd hPm hS hl
      · refine lv_tableIn (tgt := 212) hx hb dL_law_32 (by rw [h]; decide) (by rw [h]; decide) (off := 180) (by rw [h]; rfl) (by decide) ?_
        exact law_count hL C0 hK hi hjL hI hDa hnext H locs ls hPd hPm hS hl
end
section
set_option maxHeartbeats 4000000 in
set_option maxRecDepth 100000 in
theorem whole_start {p : Program} {e : Env} {s : State} {m : MethodId} {below : List Frame} {meth : Method} {c : Code} (l : Launch) {b L : Nat} {xs : Nat → Int32} (hL : L ≤ 1024) (C0 : lw_At p s m meth c b L xs) : W p l e room_1 s m #[Value.ref b] below meth c s.heap [] 0 0 (lw_Z below #[Value.ref b] s) (entryFrame m ([Value.ref b] : List Value).toArray 4) := by
  obtain ⟨hx, hb, hr, hml, hown, hts0, hX, hbl, hlocks, hgv⟩ := id C0
  have hts : ∀ w ∈ wsL_law, w.before #[Value.ref b] s = true := fun w h => hts0 w (wsL_law_in w h)
  have hown : s.vm.findClass RL = some m.cls := hown
  have hA : ∀ q : Nat, s.heap.size ≤ q → (fun q : Nat => s.heap.size ≤ q) q := fun _ h => h
  obtain ⟨c0, iS0, hKn0⟩ := u_known (C := RX0) (T := TX0) (N := 6) (n := 6) hts inlX0 (hts (.instantiable RX0 6) (by decide +kernel))
  obtain ⟨c1, iS1, hKn1⟩ := u_known (C := RX1) (T := TX1) (N := 9) (n := 9) hts inlX1 (hts (.instantiable RX1 9) (by decide +kernel))
  obtain ⟨D, hKc⟩ : ∃ (D : va_G), ∀ (k : Nat) (q : vw_C), vwCl[k]? = some q → u_Kn s q.1 q.2.1 q.2.2 (D.1 k) (D.2 k) := by
    refine ⟨(fun k => if k = 0 then c0 else c1, fun k => if k = 0 then iS0 else iS1), ?_⟩
    intro k q hq
    match k, hq with
    | 0, hq => cases hq; exact hKn0
    | 1, hq => cases hq; exact hKn1
    | k + 2, hq => simp [vwCl] at hq
  have hS : va_S (fun q : Nat => s.heap.size ≤ q) s.heap s.heap [] := va_S.rf
  have hK : va_K D vwCl [] s := ⟨hKc, fun k q h => by simp at h⟩
  have hP : va_P D vwCl [] s.heap := fun k q h => by simp at h
  have hD : va_D (fun q : Nat => s.heap.size ≤ q) [] := ⟨fun i j p q h => by simp at h, fun k q h => by simp at h⟩
  have hl := lv_entry ([.ref b]) (n := 4) (Nat.le_of_ble_eq_true rfl)
  rw [lg_entry_eq]
  generalize (lg_sl ([.ref b]) ++ List.replicate (4 - (lg_sl ([.ref b])).length) Slot.unset).toArray = ls at hl ⊢
  have hl : lv_has ls 4 [(0, .ref b)] := hl
  refine va_new (ci := 0) (fs := [.null, .int 0, .int 0, .int 0, .int 0, .int 0]) (C := RX0) (T := TX0) (N := 6) hx hb hts inlX0 tyX0 tyX0_ok hown (hts (.classLink RL 7 RX0) (by decide +kernel)) (hts (.instantiable RX0 6) (by decide +kernel)) (hts (.initialized RX0) (by decide +kernel)) hK hP hD hS hA rfl (fun j hj => by rcases (show j = 0 ∨ j = 1 ∨ j = 2 ∨ j = 3 ∨ j = 4 ∨ j = 5 by omega) with rfl | rfl | rfl | rfl | rfl | rfl <;> rfl) (show 0 + 1 ≤ 5 from by decide) (show 0 + 6 ≤ 7115 from by decide) dL_law_0 (fun q0 H hP hD hS => ?_)
  have hP : va_P D vwCl [(q0, .inr (0, [.null, .int 0, .int 0, .int 0, .int 0, .int 0]))] H := hP
  have hD : va_D (fun q : Nat => s.heap.size ≤ q) [(q0, .inr (0, [.null, .int 0, .int 0, .int 0, .int 0, .int 0]))] := hD
  refine W.widen (k := 1) (n := 6) (by omega) (by omega) ?_
  refine lv_dup hx hb dL_law_3 rfl ?_
  have hPc := hP.sub (ws' := [(q0, .inr (0, [.null, .int 0, .int 0, .int 0, .int 0, .int 0]))]) [0] rfl
  have hDc := hD.sub (ws' := [(q0, .inr (0, [.null, .int 0, .int 0, .int 0, .int 0, .int 0]))]) [0] (by decide) rfl
  have hKc := hK.sub (tys' := []) [] rfl
  have hFc := va_free (wc := [(q0, .inr (0, [.null, .int 0, .int 0, .int 0, .int 0, .int 0]))]) hD hS hA [0] rfl
  refine va_callv (va_runI (As := []) (rest := [.ref q0]) ⟨hx, hb, hml, hown, hts⟩ (cD_init l D q0 H.size) (cwI 0 hts gL_law_X0_init rfl rfl rfl (hts (.initialized RX0) (by decide +kernel)) (hts (.methodLink RL 9 yX0_init) (by decide +kernel)) (hts (.instanceMethod yX0_init) (by decide +kernel)) rfl (by decide +kernel) ⟨Nat.le_of_ble_eq_true rfl, Nat.le_of_ble_eq_true rfl⟩) ⟨fun a U g mk q => by obtain ⟨z0, z1, zP, zK, zD⟩ := q; exact ⟨z0, z1, zP, va_K.moved (u := U) (U := U.calling g mk a) (Vm.Alike.refl U.vm) zK, zD⟩, fun U hU hW => ⟨rfl, by rw [hU], by rw [hU]; exact hPc, va_K.moved hW.alike hKc, hDc.weaken (fun _ _ _ _ => trivial)⟩⟩ rfl rfl hl.1 rfl (lv_room (Nat.le_of_ble_eq_true rfl)) dL_law_4 ⟨show 1 + 1 ≤ 5 from by decide, show 6 + 4096 ≤ 7115 from by decide⟩) hS (fun q _ h => hFc q h) hFc (fun u t H1 locs ht hvm hw hB hz1 hk1 hS => ?_)
  obtain ⟨cA, q1⟩ := u
  obtain ⟨hP1, hK1, hD1⟩ := hB
  dsimp only at hP1 hK1 hD1
  rw [ht] at hP1
  have hK1 := va_K.moved hvm.symm hK1
  obtain ⟨hP, hD⟩ := va_join (wr := []) (w1 := [(q0, .inr (0, [.ref q1, .int 0, .int 0, .int 0, .int (-1), .int 0])), (q1, .inl (cA, 4096, .inl (fun _ => 0)))]) hP hD [0] [] rfl rfl (by decide) (by decide) hk1 hFc hP1 hD1
  have hK := (hK.sub (tys' := []) [] rfl).app hK1
  generalize H1 = H at hP hS ⊢
  have hP : va_P D vwCl [(q0, .inr (0, [.ref q1, .int 0, .int 0, .int 0, .int (-1), .int 0])), (q1, .inl (cA, 4096, .inl (fun _ => 0)))] H := hP
  have hD : va_D (fun q : Nat => s.heap.size ≤ q) [(q0, .inr (0, [.ref q1, .int 0, .int 0, .int 0, .int (-1), .int 0])), (q1, .inl (cA, 4096, .inl (fun _ => 0)))] := hD
  have hK : va_K D vwCl [(cA, .byte)] s := hK
  refine W.widen (k := 2) (n := 4102) (by omega) (by omega) ?_
  refine lv_astore_n (lv' := [(1, .ref q0), (0, .ref b)]) hx hb dL_law_7 rfl hl (by decide) rfl (fun ls hl => ?_)
  refine va_new (ci := 1) (fs := [.null, .int 0, .int 0, .int 0, .int 0, .int 0, .int 0, .null, .int 0]) (C := RX1) (T := TX1) (N := 9) hx hb hts inlX1 tyX1 tyX1_ok hown (hts (.classLink RL 10 RX1) (by decide +kernel)) (hts (.instantiable RX1 9) (by decide +kernel)) (hts (.initialized RX1) (by decide +kernel)) hK hP hD hS hA rfl (fun j hj => by rcases (show j = 0 ∨ j = 1 ∨ j = 2 ∨ j = 3 ∨ j = 4 ∨ j = 5 ∨ j = 6 ∨ j = 7 ∨ j = 8 by omega) with rfl | rfl | rfl | rfl | rfl | rfl | rfl | rfl | rfl <;> rfl) (show 2 + 1 ≤ 5 from by decide) (show 4102 + 9 ≤ 7115 from by decide) dL_law_8 (fun m0 H hP hD hS => ?_)
  have hP : va_P D vwCl [(q0, .inr (0, [.ref q1, .int 0, .int 0, .int 0, .int (-1), .int 0])), (q1, .inl (cA, 4096, .inl (fun _ => 0))), (m0, .inr (1, [.null, .int 0, .int 0, .int 0, .int 0, .int 0, .int 0, .null, .int 0]))] H := hP
  have hD : va_D (fun q : Nat => s.heap.size ≤ q) [(q0, .inr (0, [.ref q1, .int 0, .int 0, .int 0, .int (-1), .int 0])), (q1, .inl (cA, 4096, .inl (fun _ => 0))), (m0, .inr (1, [.null, .int 0, .int 0, .int 0, .int 0, .int 0, .int 0, .null, .int 0]))] := hD
  refine W.widen (k := 3) (n := 4111) (by omega) (by omega) ?_
  refine lv_dup hx hb dL_law_11 rfl ?_
  have hPc := hP.sub (ws' := [(m0, .inr (1, [.null, .int 0, .int 0, .int 0, .int 0, .int 0, .int 0, .null, .int 0]))]) [2] rfl
  have hDc := hD.sub (ws' := [(m0, .inr (1, [.null, .int 0, .int 0, .int 0, .int 0, .int 0, .int 0, .null, .int 0]))]) [2] (by decide) rfl
  have hKc := hK.sub (tys' := []) [] rfl
  have hFc := va_free (wc := [(m0, .inr (1, [.null, .int 0, .int 0, .int 0, .int 0, .int 0, .int 0, .null, .int 0]))]) hD hS hA [2] rfl
  refine va_callv (va_runI (As := []) (rest := [.ref m0]) ⟨hx, hb, hml, hown, hts⟩ (cM_init l D m0 H.size) (cwI 0 hts gL_law_X1_init rfl rfl rfl (hts (.initialized RX1) (by decide +kernel)) (hts (.methodLink RL 12 yX1_init) (by decide +kernel)) (hts (.instanceMethod yX1_init) (by decide +kernel)) rfl (by decide +kernel) ⟨Nat.le_of_ble_eq_true rfl, Nat.le_of_ble_eq_true rfl⟩) ⟨fun a U g mk q => by obtain ⟨z0, z1, zP, zK, zD⟩ := q; exact ⟨z0, z1, zP, va_K.moved (u := U) (U := U.calling g mk a) (Vm.Alike.refl U.vm) zK, zD⟩, fun U hU hW => ⟨rfl, by rw [hU], by rw [hU]; exact hPc, va_K.moved hW.alike hKc, hDc.weaken (fun _ _ _ _ => trivial)⟩⟩ rfl rfl hl.1 rfl (lv_room (Nat.le_of_ble_eq_true rfl)) dL_law_12 ⟨show 3 + 2 ≤ 5 from by decide, show 4111 + 3004 ≤ 7115 from by decide⟩) hS (fun q _ h => hFc q h) hFc (fun u t H1 locs ht hvm hw hB hz1 hk1 hS => ?_)
  obtain ⟨cR, m1, cY, m2⟩ := u
  obtain ⟨hP1, hK1, hD1⟩ := hB
  dsimp only at hP1 hK1 hD1
  rw [ht] at hP1
  have hK1 := va_K.moved hvm.symm hK1
  obtain ⟨hP, hD⟩ := va_join (wr := [(q0, .inr (0, [.ref q1, .int 0, .int 0, .int 0, .int (-1), .int 0])), (q1, .inl (cA, 4096, .inl (fun _ => 0)))]) (w1 := [(m0, .inr (1, [.ref m1, .int 0, .int 0, .int (-1), .int 0, .int 10, .int 0, .ref m2, .int 0])), (m1, .inl (cR, 3000, .inl (fun _ => 0))), (m2, .inl (cY, 4, .inl (fun _ => 0)))]) hP hD [2] [0, 1] rfl rfl (by decide) (by decide) hk1 hFc hP1 hD1
  have hK := (hK.sub (tys' := [(cA, .byte)]) [0] rfl).app hK1
  generalize H1 = H at hP hS ⊢
  have hP : va_P D vwCl [(q0, .inr (0, [.ref q1, .int 0, .int 0, .int 0, .int (-1), .int 0])), (q1, .inl (cA, 4096, .inl (fun _ => 0))), (m0, .inr (1, [.ref m1, .int 0, .int 0, .int (-1), .int 0, .int 10, .int 0, .ref m2, .int 0])), (m1, .inl (cR, 3000, .inl (fun _ => 0))), (m2, .inl (cY, 4, .inl (fun _ => 0)))] H := hP
  have hD : va_D (fun q : Nat => s.heap.size ≤ q) [(q0, .inr (0, [.ref q1, .int 0, .int 0, .int 0, .int (-1), .int 0])), (q1, .inl (cA, 4096, .inl (fun _ => 0))), (m0, .inr (1, [.ref m1, .int 0, .int 0, .int (-1), .int 0, .int 10, .int 0, .ref m2, .int 0])), (m1, .inl (cR, 3000, .inl (fun _ => 0))), (m2, .inl (cY, 4, .inl (fun _ => 0)))] := hD
  have hK : va_K D vwCl [(cA, .byte), (cR, .int), (cY, .int)] s := hK
  refine W.widen (k := 5) (n := 7115) (by omega) (by omega) ?_
  refine lv_astore_n (lv' := [(2, .ref m0), (1, .ref q0), (0, .ref b)]) hx hb dL_law_15 rfl hl (by decide) rfl (fun ls hl => ?_)
  refine lv_iconst (v := 0) hx hb dL_law_16 (by decide) ?_
  refine lv_istore_n (lv' := [(3, .int 0), (2, .ref m0), (1, .ref q0), (0, .ref b)]) hx hb dL_law_17 rfl hl (by decide) rfl (fun ls hl => ?_)
  have hI : dmI 0 ((fun _ => 0), 0, 0, 0, -1, 0) ((fun _ => 0), 0, 0, -1, 0, 10, 0, (fun _ => 0), 0) := ⟨0, 0, ⟨rfl, rfl, Nat.le_refl _, rfl, rfl, rfl, rfl, fun i hi => absurd hi (by omega), ⟨fun _ => Or.inl rfl, fun _ => rfl⟩⟩, Or.inl ⟨rfl, rfl, rfl⟩, by omega, by omega⟩
  have hDa : ∀ (u : DSt) (v : MSt), va_D (fun q : Nat => s.heap.size ≤ q) (dkW cA q0 q1 u ++ mkW cR cY m0 m1 m2 v) := fun u v => kk_D_same hD rfl
  have hPd : va_P D vwCl (dkW cA q0 q1 ((fun _ => 0), 0, 0, 0, -1, 0)) H := hP.sub [0, 1] rfl
  have hPm : va_P D vwCl (mkW cR cY m0 m1 m2 ((fun _ => 0), 0, 0, -1, 0, 10, 0, (fun _ => 0), 0)) H := hP.sub [2, 3, 4] rfl
  exact law_loop hL C0 hK hDa 512 0 0 ((fun _ => 0), 0, 0, 0, -1, 0) ((fun _ => 0), 0, 0, -1, 0, 10, 0, (fun _ => 0), 0) rfl (by omega) (by omega) hI H _ ls hPd hPm hS (lv_sub hl [3, 2, 1, 0] rfl)
set_option maxHeartbeats 4000000 in
theorem lw_walk (l : Launch) (b : Addr) (xs : List Int32) : MetFree l x (headSpec (Jvm.Cond.code x code maxLocals ret :: tables_1) room_1) (lw_P b xs) (fun _ _ _ _ _ => True) lw_Q := by
  refine MetFree.of_bodyS (code := code) (maxLocals := maxLocals) (ret := ret) (by decide) ?_ ?_
  · intro args s m h hn
    obtain ⟨meth, c, h1, h2, h3, h4, h5, h6, -, -⟩ := Cond.code_spec hn (atoms_spec (ws := Jvm.Cond.code x code maxLocals ret :: tables_1) h _ List.mem_cons_self)
    exact ⟨meth, c, h1, h2, h3, h4, h5, h6⟩
  · intro p e s m args below meth c s₁ B hml0 hP _
    obtain ⟨rfl, hx, hbd, hgv⟩ := hP
    obtain ⟨scr, harrAt, hlist, hof, hsmall⟩ := hx
    obtain ⟨hcb, hkn, -, -⟩ := State.arrayAt?_spec harrAt
    have hown : s.vm.findClass R_law = some m.cls := findClass_of_methodNamed B.named
    have hts0 : ∀ c ∈ (Jvm.Cond.code x code maxLocals ret :: tables_1), c.before #[Value.ref b] s = true := atoms_spec (ws := Jvm.Cond.code x code maxLocals ret :: tables_1) B.pre
    have hts : ∀ w ∈ lw_tbl, w.before #[Value.ref b] s = true := k2_hts_sels lw_privs (fun w hw => hts0 w (List.mem_cons_of_mem _ hw)) lw_privs_ok
    have hml : c.maxLocals = 4 := B.maxLocals_eq (hts0 _ List.mem_cons_self)
    have X₀ : Stand p l e room_1 s m #[Value.ref b] below meth c s₁ [] 0 0 := Stand.of_body B
    have hh0 : s₁.heap = s.heap := by rw [B.state]; rfl
    have hsz : scr.slots.size = xs.length := by rw [← Array.length_toList, hlist, List.length_map]
    have hval : ∀ j : Nat, j < xs.length → scr.slots[j]? = some (.int (xs.getD j 0)) := fun j hj => by
      rw [← Array.getElem?_toList, hlist]
      simp [hj]
    have hbl : b < s.heap.size := (Array.getElem?_eq_some_iff.mp hcb).1
    have hX : va_X b xs.length (fun j => xs.getD j 0) s s.heap := ⟨scr, hcb, hof, hkn, hsz, hval⟩
    have K : W p l e room_1 s m #[Value.ref b] below meth c s₁.heap [] 0 0 (lw_Z below #[Value.ref b] s) (entryFrame m ([Value.ref b] : List Value).toArray 4) := by
      rw [hh0]
      exact whole_start l hbd ⟨B.exec, B.bytes, B.returns, hml, hown, hts, hX, hbl, B.notSynchronized, hgv⟩
    obtain ⟨t, a1, o, b1, b2, b3⟩ := K s₁ rfl X₀
    exact ⟨t, o, a1, b1, b2, b3⟩
theorem lw_pre_spec {args : Array Value} {s : State} (h : (Jvm.Cond.and given_1 narrow_1).before args s = true) (hr : rest_1_c.before args s = true) : ∃ (b : Addr) (xs : List Int32), lw_P b xs args s := by
  have hs := flat_of_before _ h
  have hq := flat_of_before _ hr
  have hc : (Cond.count 1).before args s = true := hs _ (by decide +kernel)
  have harr : (Cond.arrayOf (.arg 0) .int).before args s = true := hs _ (by decide +kernel)
  have hle : (Cond.le (.length (.arg 0)) (.int 1024)).before args s = true := hs _ (by decide +kernel)
  have hlen : (Cond.isInt (.length (.arg 0))).before args s = true := hq _ (by decide +kernel)
  have hall : (Cond.all (.arg 0) (.isInt (.elem (.arg 0) (.index 0)))).before args s = true := hq _ (by decide +kernel)
  obtain ⟨b, xs, hb, hx⟩ := State.ints_of_pre rfl harr hlen hall
  have hsm : xs.length < 2 ^ 31 := hx.choose_spec.2.2.2
  have hev : (Term.length (.arg 0)).eval args s none [] s = some (.int xs.length.toInt32) := hx.length_eval hb
  have hv := Cond.le_ints hev (show (Term.int 1024).eval args s none [] s = some (.int 1024) from rfl)
  have hd : xs.length.toInt32 ≤ 1024 := by
    simpa [Cond.before, Cond.holds, hv] using hle
  have hN : xs.length ≤ 1024 := (Int32.ofNat_le_ofNat hsm (by decide)).mp (show Int32.ofNat xs.length ≤ Int32.ofNat 1024 from hd)
  exact ⟨b, xs, Cond.one_arg hc (show args[0]? = some (.ref b) from hb), hx, hN, h⟩
theorem lw_comes (l : Launch) : Comes l x (Jvm.Cond.code x code maxLocals ret :: tables_1) room_1 (fun tb e args s => Calls_1 tb e args s ∧ rest_1 tb e args s ∧ Pre_1 tb e args s)
    (fun _ _ args s o t => lw_Q args s o t) := by
  intro p e ha hc hk s m args below hf hfit hheap happ hpre
  obtain ⟨b, xs, hP⟩ := lw_pre_spec hpre.2.2 hpre.2.1
  obtain ⟨k, o, h1, h2, h3, hQ⟩ := lw_walk l b xs p e ha hc hk s m args below hf ((Spec.applies_iff_loose hf).mp happ).1 hP trivial
  exact ⟨k, o, h1, h2, h3, hQ⟩
theorem lw_frame {s t : State} {o : Outcome} {args : Array Value} (h : Framed s o t [] 5 7115) :
    Framed s o t (fieldLocs frame_1_writes args s ++ arrayLocs frame_1_arrays args s ++ staticLocs frame_1_statics s) 5 7115 := h
theorem lw_limb (L : Cond) (hL : ∀ (args : Array Value) (s t : State), L.after args s (.returned (some (.int 1))) t = true) :
    ArmFor flags0 classFile x code maxLocals ret World_1 tables_1 room_1 Calls_1 rest_1 Pre_1
      (fun tb e a s o t => postC L tb e a s o t ∧ Framed s o t (fieldLocs frame_1_writes a s ++ arrayLocs frame_1_arrays a s ++ staticLocs frame_1_statics s) 5 7115) := by
  intro l _ _ _ p e ha hc hk s m args below hf hfit hheap happ hpre
  obtain ⟨k, o, h1, h2, h3, rfl, hF⟩ := lw_comes l p e ha hc hk s m args below hf hfit hheap happ hpre
  exact ⟨k, _, h1, h2, h3, hL args s _, lw_frame hF⟩
theorem i_vc : Claimed_1_1 ∧ Claimed_1_2 := ⟨lw_limb limb_1_1 (fun args s t => by simp [limb_1_1, Cond.after, Cond.holds, Cond.value]), lw_limb limb_1_2 (fun args s t => Cond.after_iff.mpr (by
  first | (rw [show limb_1_2 = Cond.eq .result (.int 1) from rfl, Cond.eq_ints (x := 1) (y := 1) rfl rfl]; simp; done) | (simp [limb_1_2, Cond.value, Term.eval]; done)))⟩
end
